/-! branches: the condition, where it goes when it holds, what is left on the stack -/
def tm_brn (ins : Instr) (len pc : Nat) (st : List Value) : Option (Prop × Nat × List Value) :=
  match ins, len with
  | .ifCond .eq off, 3 => match st with
    | .int x :: r => if (pc : Int) + off = (tm_off pc off : Nat) then some (x = 0, tm_off pc off, r) else none
    | _ => none
  | .ifCond .ne off, 3 => match st with
    | .int x :: r => if (pc : Int) + off = (tm_off pc off : Nat) then some (¬ x = 0, tm_off pc off, r) else none
    | _ => none
  | .ifCond .lt off, 3 => match st with
    | .int x :: r => if (pc : Int) + off = (tm_off pc off : Nat) then some (x < 0, tm_off pc off, r) else none
    | _ => none
  | .ifCond .ge off, 3 => match st with
    | .int x :: r => if (pc : Int) + off = (tm_off pc off : Nat) then some (0 ≤ x, tm_off pc off, r) else none
    | _ => none
  | .ifCond .gt off, 3 => match st with
    | .int x :: r => if (pc : Int) + off = (tm_off pc off : Nat) then some (0 < x, tm_off pc off, r) else none
    | _ => none
  | .ifCond .le off, 3 => match st with
    | .int x :: r => if (pc : Int) + off = (tm_off pc off : Nat) then some (x ≤ 0, tm_off pc off, r) else none
    | _ => none
  | .if_icmp .eq off, 3 => match st with
    | .int y :: .int x :: r => if (pc : Int) + off = (tm_off pc off : Nat) then some (x = y, tm_off pc off, r) else none
    | _ => none
  | .if_icmp .ne off, 3 => match st with
    | .int y :: .int x :: r => if (pc : Int) + off = (tm_off pc off : Nat) then some (¬ x = y, tm_off pc off, r) else none
    | _ => none
  | .if_icmp .lt off, 3 => match st with
    | .int y :: .int x :: r => if (pc : Int) + off = (tm_off pc off : Nat) then some (x < y, tm_off pc off, r) else none
    | _ => none
  | .if_icmp .ge off, 3 => match st with
    | .int y :: .int x :: r => if (pc : Int) + off = (tm_off pc off : Nat) then some (y ≤ x, tm_off pc off, r) else none
    | _ => none
  | .if_icmp .gt off, 3 => match st with
    | .int y :: .int x :: r => if (pc : Int) + off = (tm_off pc off : Nat) then some (y < x, tm_off pc off, r) else none
    | _ => none
  | .if_icmp .le off, 3 => match st with
    | .int y :: .int x :: r => if (pc : Int) + off = (tm_off pc off : Nat) then some (x ≤ y, tm_off pc off, r) else none
    | _ => none
  | _, _ => none
/-- A BRANCH -/
theorem tm_br {Γ : tm_G} {own : String} {cc : ByteArray} {nL cells slots : Nat} (C : tm_C Γ own cc nL) {ins : Instr} {len pc tgt : Nat} {lv : List (Option Value)} {st st' : List Value} {sh : List tm_Sh} {mI : tm_I} {mL : tm_L} {mR : tm_R} {P : Prop}
    (hd : decode cc pc = .ok (ins, len)) (hs : tm_brn ins len pc st = some (P, tgt, st')) (kt : P → tm_T Γ nL cells slots tgt lv st' sh mI mL mR) (kf : ¬ P → tm_T Γ nL cells slots (pc + 3) lv st' sh mI mL mR) : tm_T Γ nL cells slots pc lv st sh mI mL mR := by
  obtain ⟨p, l, e, R, s, m, args, below, meth, c, D, f, cA, b, QQ⟩ := Γ
  obtain ⟨hx, hb, hml, hown, hts, hK, hf, hbs, hlk, hSt⟩ := C
  intro hsh hsz H locs ls hP hS hl
  have kt := fun q => kt q hsh hsz H locs ls hP hS hl
  have kf := fun q => kf q hsh hsz H locs ls hP hS hl
  unfold tm_brn at hs
  split at hs
  · split at hs
    · split at hs
      · rename_i hg
        cases hs
        exact lv_if_eq hx hb hd hg kt kf
      · cases hs
    · cases hs
  · split at hs
    · split at hs
      · rename_i hg
        cases hs
        exact lv_if_ne hx hb hd hg kt (fun q => kf (fun z => z q))
      · cases hs
    · cases hs
  · split at hs
    · split at hs
      · rename_i hg
        cases hs
        exact lv_if_lt hx hb hd hg kt kf
      · cases hs
    · cases hs
  · split at hs
    · split at hs
      · rename_i hg
        cases hs
        exact lv_if_ge hx hb hd hg kt kf
      · cases hs
    · cases hs
  · split at hs
    · split at hs
      · rename_i hg
        cases hs
        exact lv_if_gt hx hb hd hg kt kf
      · cases hs
    · cases hs
  · split at hs
    · split at hs
      · rename_i hg
        cases hs
        exact lv_if_le hx hb hd hg kt kf
      · cases hs
    · cases hs
  · split at hs
    · split at hs
      · rename_i hg
        cases hs
        exact lv_icmp_eq hx hb hd hg kt kf
      · cases hs
    · cases hs
  · split at hs
    · split at hs
      · rename_i hg
        cases hs
        exact lv_icmp_ne hx hb hd hg kt (fun q => kf (fun z => z q))
      · cases hs
    · cases hs
  · split at hs
    · split at hs
      · rename_i hg
        cases hs
        exact lv_icmp_lt hx hb hd hg kt kf
      · cases hs
    · cases hs
  · split at hs
    · split at hs
      · rename_i hg
        cases hs
        exact lv_icmp_ge hx hb hd hg kt kf
      · cases hs
    · cases hs
  · split at hs
    · split at hs
      · rename_i hg
        cases hs
        exact lv_icmp_gt hx hb hd hg kt kf
      · cases hs
    · cases hs
  · split at hs
    · split at hs
      · rename_i hg
        cases hs
        exact lv_icmp_le hx hb hd hg kt kf
      · cases hs
    · cases hs
  · cases hs
section TMF
variable {Γ : tm_G} {own : String} {cc : ByteArray} {nL cells slots : Nat} {pc tgt len : Nat} {lv : List (Option Value)} {st : List Value} {sh : List tm_Sh} {mI : tm_I} {mL : tm_L} {mR : tm_R}
/-- a lookup switch whose answer is known -/
theorem tm_look (C : tm_C Γ own cc nL) {dflt off : Int} {ps : Array (Int × Int)} {x : Int32} (hd : decode cc pc = .ok (.lookupswitch dflt ps, len)) (hp : (ps.toList.zip (ps.toList.drop 1)).all (fun (a, next) => a.1 < next.1) = true) (ho : Op.lookupswitch.offset ps.toList dflt x.toInt = off) (ht : (pc : Int) + off = (tgt : Int)) (k : tm_T Γ nL cells slots tgt lv st sh mI mL mR) : tm_T Γ nL cells slots pc lv (.int x :: st) sh mI mL mR := by
  obtain ⟨p, l, e, R, s, m, args, below, meth, c, D, f, cA, b, QQ⟩ := Γ
  obtain ⟨hx, hb, hml, hown, hts, hK, hf, hbs, hlk, hSt⟩ := C
  intro hsh hsz H locs ls hP hS hl
  exact lv_lookup hx hb hd hp ho ht (k hsh hsz H locs ls hP hS hl)
theorem tm_tabO (C : tm_C Γ own cc nL) {dflt lo hi : Int} {offs : Array Int} {x : Int32} (hd : decode cc pc = .ok (.tableswitch dflt lo hi offs, len)) (h : x.toInt < lo ∨ hi < x.toInt) (ht : (pc : Int) + dflt = (tgt : Int)) (k : tm_T Γ nL cells slots tgt lv st sh mI mL mR) : tm_T Γ nL cells slots pc lv (.int x :: st) sh mI mL mR := by
  obtain ⟨p, l, e, R, s, m, args, below, meth, c, D, f, cA, b, QQ⟩ := Γ
  obtain ⟨hx, hb, hml, hown, hts, hK, hf, hbs, hlk, hSt⟩ := C
  intro hsh hsz H locs ls hP hS hl
  exact lv_tableOut hx hb hd h ht (k hsh hsz H locs ls hP hS hl)
theorem tm_tabI (C : tm_C Γ own cc nL) {dflt lo hi off : Int} {offs : Array Int} {x : Int32} (hd : decode cc pc = .ok (.tableswitch dflt lo hi offs, len)) (h1 : ¬ x.toInt < lo) (h2 : ¬ hi < x.toInt) (ho : offs[(x.toInt - lo).toNat]? = some off) (ht : (pc : Int) + off = (tgt : Int)) (k : tm_T Γ nL cells slots tgt lv st sh mI mL mR) : tm_T Γ nL cells slots pc lv (.int x :: st) sh mI mL mR := by
  obtain ⟨p, l, e, R, s, m, args, below, meth, c, D, f, cA, b, QQ⟩ := Γ
  obtain ⟨hx, hb, hml, hown, hts, hK, hf, hbs, hlk, hSt⟩ := C
  intro hsh hsz H locs ls hP hS hl
  exact lv_tableIn hx hb hd h1 h2 ho ht (k hsh hsz H locs ls hP hS hl)
/-- a number out of the pool -/
theorem tm_ldc (C : tm_C Γ own cc nL) {index : Nat} {v : Int32} (hc : Jvm.Cond.constant own index v ∈ tm_tb) (hd : decode cc pc = .ok (.ldc index, 2)) (k : tm_T Γ nL cells slots (pc + 2) lv (.int v :: st) sh mI mL mR) : tm_T Γ nL cells slots pc lv st sh mI mL mR := by
  obtain ⟨p, l, e, R, s, m, args, below, meth, c, D, f, cA, b, QQ⟩ := Γ
  obtain ⟨hx, hb, hml, hown, hts, hK, hf, hbs, hlk, hSt⟩ := C
  intro hsh hsz H locs ls hP hS hl
  exact lv_ldc hx hb hown (hts _ hc) hd (k hsh hsz H locs ls hP hS hl)
theorem tm_ldc2 (C : tm_C Γ own cc nL) {index : Nat} {v : Int64} (hc : Jvm.Cond.constantLong own index v ∈ tm_tb) (hd : decode cc pc = .ok (.ldc2_w index, 3)) (k : tm_T Γ nL cells slots (pc + 3) lv (.long v :: st) sh mI mL mR) : tm_T Γ nL cells slots pc lv st sh mI mL mR := by
  obtain ⟨p, l, e, R, s, m, args, below, meth, c, D, f, cA, b, QQ⟩ := Γ
  obtain ⟨hx, hb, hml, hown, hts, hK, hf, hbs, hlk, hSt⟩ := C
  intro hsh hsz H locs ls hP hS hl
  exact lv_ldc2 hx hb hown (hts _ hc) hd (k hsh hsz H locs ls hP hS hl)
/-- a table of ranges by its name -/
theorem tm_gets (C : tm_C Γ own cc nL) (j : Nat) {q : String × List Int32} (hj : tm_sa[j]? = some q) {index : Nat} (hc : Jvm.Cond.fieldLink own index "LabelScript$Numbers" q.1 "[I" ∈ tm_tb) (hd : decode cc pc = .ok (.getstatic index, 3)) (k : tm_T Γ nL cells slots (pc + 3) lv (.ref (1000001 + j) :: st) sh mI mL mR) : tm_T Γ nL cells slots pc lv st sh mI mL mR := by
  obtain ⟨p, l, e, R, s, m, args, below, meth, c, D, f, cA, b, QQ⟩ := Γ
  obtain ⟨hx, hb, hml, hown, hts, hK, hf, hbs, hlk, hSt⟩ := C
  intro hsh hsz H locs ls hP hS hl
  have hjl : j < 15 := (List.getElem?_eq_some_iff.mp hj).1
  have k := k hsh hsz H locs ls hP hS hl
  rw [tm_map_v, tm_v_ref (by have h2 : tm_nul = 1000000000 := rfl; omega)] at k
  exact va_gets hx hb (hSt.1 j q hj).1 hS hown (hts _ hc) (fun _ h => h) hd k
theorem tm_tab (C : tm_C Γ own cc nL) (j : Nat) {q : String × List Int32} (hj : tm_sa[j]? = some q) {i : Int32} (hin : vp_in i q.2.length) (hd : decode cc pc = .ok (.iaload, 1)) (k : tm_T Γ nL cells slots (pc + 1) lv (.int (q.2.getD i.toNatClampNeg 0) :: st) sh mI mL mR) : tm_T Γ nL cells slots pc lv (.int i :: .ref (1000001 + j) :: st) sh mI mL mR := by
  obtain ⟨p, l, e, R, s, m, args, below, meth, c, D, f, cA, b, QQ⟩ := Γ
  obtain ⟨hx, hb, hml, hown, hts, hK, hf, hbs, hlk, hSt⟩ := C
  intro hsh hsz H locs ls hP hS hl
  have hjl : j < 15 := (List.getElem?_eq_some_iff.mp hj).1
  have k := k hsh hsz H locs ls hP hS hl
  rw [tm_map_v, tm_map_v, tm_v_ref (by have h2 : tm_nul = 1000000000 := rfl; omega)]
  exact va_ti hx hb (hSt.1 j q hj).2 hS hin rfl hd k
theorem tm_tabL (C : tm_C Γ own cc nL) (j : Nat) {q : String × List Int32} (hj : tm_sa[j]? = some q) (hd : decode cc pc = .ok (.arraylength, 1)) (k : tm_T Γ nL cells slots (pc + 1) lv (.int (Int32.ofNat q.2.length) :: st) sh mI mL mR) : tm_T Γ nL cells slots pc lv (.ref (1000001 + j) :: st) sh mI mL mR := by
  obtain ⟨p, l, e, R, s, m, args, below, meth, c, D, f, cA, b, QQ⟩ := Γ
  obtain ⟨hx, hb, hml, hown, hts, hK, hf, hbs, hlk, hSt⟩ := C
  intro hsh hsz H locs ls hP hS hl
  have hjl : j < 15 := (List.getElem?_eq_some_iff.mp hj).1
  have k := k hsh hsz H locs ls hP hS hl
  rw [tm_map_v, tm_v_ref (by have h2 : tm_nul = 1000000000 := rfl; omega)]
  exact va_tlen hx hb (hSt.1 j q hj).2 hS rfl hd k
end TMF
