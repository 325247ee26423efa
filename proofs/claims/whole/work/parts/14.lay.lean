/-! walking by places of a method's table -/
theorem tm_at {tb : List (Nat × Instr × Nat)} {cc : ByteArray} (hB : ∀ q ∈ tb, decode cc q.1 = .ok q.2) (i : Nat) {pc len : Nat} {ins : Instr} (h : tb[i]? = some (pc, ins, len)) : decode cc pc = .ok (ins, len) := by
  have h1 := hB (pc, ins, len) (List.mem_of_getElem? h)
  exact h1
theorem tm_go {Γ : tm_G} {own : String} {cc : ByteArray} {nL cells slots : Nat} (C : tm_C Γ own cc nL) {fr : tm_Fr} (hfr : ∀ k q, fr k = some q → tm_FOK own k q) {tb : List (Nat × Instr × Nat)} (hB : ∀ q ∈ tb, decode cc q.1 = .ok q.2) (i n : Nat) {pc pc' : Nat} {lv lv' : List (Option Value)} {st st' : List Value} {sh : List tm_Sh} {mI mI' : tm_I} {mL mL' : tm_L} {mR mR' : tm_R} {ob : List Prop}
    (h : tm_fold fr ((tb.drop i).take n) pc lv st sh mI mL mR = some (ob, pc', lv', st', mI', mL', mR')) (hob : tm_all ob) (k : tm_T Γ nL cells slots pc' lv' st' sh mI' mL' mR') : tm_T Γ nL cells slots pc lv st sh mI mL mR :=
  tm_run C hfr _ (fun q hq => hB q (List.mem_of_mem_drop (List.mem_of_mem_take hq))) h hob k
/-- the row of a table at a place -/
def tm_get (tb : List (Nat × Instr × Nat)) (pc : Nat) : Option (Nat × Instr × Nat) := tb.find? fun q => q.1 == pc
theorem tm_get_d {tb : List (Nat × Instr × Nat)} {cc : ByteArray} (hB : ∀ q ∈ tb, decode cc q.1 = .ok q.2) {pc pc0 len : Nat} {ins : Instr} (h : tm_get tb pc = some (pc0, ins, len)) : decode cc pc = .ok (ins, len) := by
  have h1 := hB (pc0, ins, len) (List.mem_of_find?_eq_some h)
  have h2 : pc0 = pc := by simpa using List.find?_some h
  subst h2
  exact h1
/-- as many plain instructions as there are, at most n -/
def tm_auto (fr : tm_Fr) (tb : List (Nat × Instr × Nat)) (sh : List tm_Sh) : Nat → Nat → List (Option Value) → List Value → tm_I → tm_L → tm_R → tm_O
  | 0, pc, lv, st, mI, mL, mR => ([], pc, lv, st, mI, mL, mR)
  | n + 1, pc, lv, st, mI, mL, mR => match tm_get tb pc with
    | none => ([], pc, lv, st, mI, mL, mR)
    | some q => match tm_stp fr q.2.1 q.2.2 pc lv st sh mI mL mR with
      | none => ([], pc, lv, st, mI, mL, mR)
      | some (ob, pc', lv', st', a, b, c) => match tm_auto fr tb sh n pc' lv' st' a b c with
        | (ob2, rest) => (ob ++ ob2, rest)
theorem tm_autoK {Γ : tm_G} {own : String} {cc : ByteArray} {nL cells slots : Nat} (C : tm_C Γ own cc nL) {fr : tm_Fr} (hfr : ∀ k q, fr k = some q → tm_FOK own k q) {tb : List (Nat × Instr × Nat)} (hB : ∀ q ∈ tb, decode cc q.1 = .ok q.2) {sh : List tm_Sh} : ∀ (n : Nat) {pc pc' : Nat} {lv lv' : List (Option Value)} {st st' : List Value} {mI mI' : tm_I} {mL mL' : tm_L} {mR mR' : tm_R} {ob : List Prop},
    tm_auto fr tb sh n pc lv st mI mL mR = (ob, pc', lv', st', mI', mL', mR') → tm_all ob → tm_T Γ nL cells slots pc' lv' st' sh mI' mL' mR' → tm_T Γ nL cells slots pc lv st sh mI mL mR
  | 0, _, _, _, _, _, _, _, _, _, _, _, _, _, h, _, k => by cases h; exact k
  | n + 1, pc, _, lv, _, st, _, mI, _, mL, _, mR, _, _, h, hob, k => by
    simp only [tm_auto] at h
    split at h
    · cases h; exact k
    · rename_i q hq
      obtain ⟨pc0, ins, len⟩ := q
      split at h
      · cases h; exact k
      · rename_i ob1 pc1 lv1 st1 a1 b1 c1 h1
        generalize h2 : tm_auto fr tb sh n pc1 lv1 st1 a1 b1 c1 = rs at h
        obtain ⟨ob2, rest⟩ := rs
        cases h
        obtain ⟨o1, o2⟩ := tm_all_app hob
        exact tm_step C hfr (tm_get_d hB hq) h1 o1 (tm_autoK C hfr hB n h2 o2 k)
/-- plain instructions, at least one -/
theorem tm_w {Γ : tm_G} {own : String} {cc : ByteArray} {nL cells slots : Nat} (C : tm_C Γ own cc nL) {fr : tm_Fr} (hfr : ∀ k q, fr k = some q → tm_FOK own k q) {tb : List (Nat × Instr × Nat)} (hB : ∀ q ∈ tb, decode cc q.1 = .ok q.2) {sh : List tm_Sh} (n : Nat) {pc pc' pc1 : Nat} {lv lv' lv1 : List (Option Value)} {st st' st1 : List Value} {mI mI' mI1 : tm_I} {mL mL' mL1 : tm_L} {mR mR' mR1 : tm_R} {ob ob1 : List Prop} {q : Nat × Instr × Nat}
    (hq : tm_get tb pc = some q) (h1 : tm_stp fr q.2.1 q.2.2 pc lv st sh mI mL mR = some (ob1, pc1, lv1, st1, mI1, mL1, mR1)) (h : tm_auto fr tb sh n pc1 lv1 st1 mI1 mL1 mR1 = (ob, pc', lv', st', mI', mL', mR')) (hob : tm_all (ob1 ++ ob)) (k : tm_T Γ nL cells slots pc' lv' st' sh mI' mL' mR') : tm_T Γ nL cells slots pc lv st sh mI mL mR := by
  obtain ⟨pc0, ins, len⟩ := q
  obtain ⟨o1, o2⟩ := tm_all_app hob
  exact tm_step C hfr (tm_get_d hB hq) h1 o1 (tm_autoK C hfr hB n h o2 k)
/-- a branch, by its place -/
theorem tm_b {Γ : tm_G} {own : String} {cc : ByteArray} {nL cells slots : Nat} (C : tm_C Γ own cc nL) {tb : List (Nat × Instr × Nat)} (hB : ∀ q ∈ tb, decode cc q.1 = .ok q.2) {pc tgt : Nat} {lv : List (Option Value)} {st st' : List Value} {sh : List tm_Sh} {mI : tm_I} {mL : tm_L} {mR : tm_R} {P : Prop} {q : Nat × Instr × Nat}
    (hq : tm_get tb pc = some q) (hs : tm_brn q.2.1 q.2.2 pc st = some (P, tgt, st')) (kt : P → tm_T Γ nL cells slots tgt lv st' sh mI mL mR) (kf : ¬ P → tm_T Γ nL cells slots (pc + 3) lv st' sh mI mL mR) : tm_T Γ nL cells slots pc lv st sh mI mL mR := by
  obtain ⟨pc0, ins, len⟩ := q
  exact tm_br C (tm_get_d hB hq) hs kt kf
section TME
variable {y : tm_Y} {fm lo mc ms : Nat} {av : List Value} {X : tm_X} {Q : Option Value → tm_X → Prop} {Γ : tm_G} {pc slots : Nat} {lv : List (Option Value)} {sh : List tm_Sh} {mI : tm_I} {mL : tm_L} {mR : tm_R} {tb : List (Nat × Instr × Nat)} {pc0 : Nat}
theorem tm_ei (C : tm_C Γ y.1.cls y.2.1 y.2.2.1) (G : tm_Γ y fm lo mc ms av X Q Γ) (hB : ∀ q ∈ tb, decode y.2.1 q.1 = .ok q.2) {x : Int32} {ty : FieldType} (hd : tm_get tb pc = some (pc0, .ireturn, 1)) (hr : y.2.2.2 = some ty) (hs : slots ≤ ms) (hn : narrow ty (.int x) = .int x) (hq : Q (some (.int x)) (sh, mI, mL, mR)) : tm_T Γ y.2.2.1 mc slots pc lv [.int x] sh mI mL mR := tm_reti C G hr hn hs hq (tm_get_d hB hd)
theorem tm_el (C : tm_C Γ y.1.cls y.2.1 y.2.2.1) (G : tm_Γ y fm lo mc ms av X Q Γ) (hB : ∀ q ∈ tb, decode y.2.1 q.1 = .ok q.2) {x : Int64} (hd : tm_get tb pc = some (pc0, .lreturn, 1)) (hr : y.2.2.2 = some .long) (hs : slots ≤ ms) (hq : Q (some (.long x)) (sh, mI, mL, mR)) : tm_T Γ y.2.2.1 mc slots pc lv [.long x] sh mI mL mR := tm_retl C G hr hs hq (tm_get_d hB hd)
theorem tm_ev (C : tm_C Γ y.1.cls y.2.1 y.2.2.1) (G : tm_Γ y fm lo mc ms av X Q Γ) (hB : ∀ q ∈ tb, decode y.2.1 q.1 = .ok q.2) (hd : tm_get tb pc = some (pc0, .return_, 1)) (hr : y.2.2.2 = none) (hs : slots ≤ ms) (hq : Q none (sh, mI, mL, mR)) : tm_T Γ y.2.2.1 mc slots pc lv [] sh mI mL mR := tm_retv C G hr hs hq (tm_get_d hB hd)
end TME
/-! the layout: the cells of the class under test, then those of the other one, then the law's own row -/
def sh0 : List tm_Sh := [.inl 0, .inl 7, .inl 6, .inr (.int, 1), .inr (.long, 512), .inl 6, .inr (.int, 8), .inr (.long, 400), .inr (.int, 4), .inr (.int, 4), .inl 6, .inr (.int, 10), .inr (.long, 250), .inl 6, .inr (.int, 1), .inr (.long, 25), .inl 4, .inl 2, .inr (.int, 4), .inl 5, .inl 8, .inr (.int, 48), .inr (.int, 1680), .inl 6, .inr (.int, 120), .inr (.long, 3000), .inl 1, .inl 6, .inr (.int, 1), .inr (.long, 25), .inl 2, .inr (.int, 4), .inl 2, .inr (.int, 4), .inl 2, .inr (.int, 4), .inl 3, .inr (.int, 20), .inr (.int, 20),
  .inl 9, .inr (.int, 4096), .inr (.int, 3200), .inr (.int, 8), .inr (.int, 2000), .inr (.int, 10), .inr (.int, 5800), .inr (.int, 4), .inr (.int, 200), .inr (.int, 4), .inr (.int, 16), .inr (.int, 2000), .inr (.int, 200), .inr (.int, 24200), .inr (.int, 200), .inr (.int, 48), .inr (.int, 1080), .inr (.int, 24000), .inr (.long, 1)]
/-- where the references lead, once all is made -/
def rr : tm_R := fun o k => match o, k with
  | 0, 0 => 1
  | 0, 1 => 10
  | 0, 2 => 13
  | 0, 3 => 16
  | 0, 4 => 19
  | 1, 0 => 2
  | 1, 1 => 5
  | 1, 2 => 8
  | 1, 3 => 9
  | 2, 2 => 3
  | 2, 3 => 4
  | 5, 2 => 6
  | 5, 3 => 7
  | 10, 2 => 11
  | 10, 3 => 12
  | 13, 2 => 14
  | 13, 3 => 15
  | 16, 0 => 17
  | 17, 0 => 18
  | 19, 0 => 20
  | 19, 1 => 26
  | 19, 2 => 32
  | 19, 3 => 34
  | 19, 4 => 36
  | 20, 0 => 21
  | 20, 1 => 22
  | 20, 2 => 23
  | 23, 2 => 24
  | 23, 3 => 25
  | 26, 0 => 27
  | 26, 1 => 30
  | 27, 2 => 28
  | 27, 3 => 29
  | 30, 0 => 31
  | 32, 0 => 33
  | 34, 0 => 35
  | 36, 0 => 37
  | 36, 1 => 38
  | 39, 1 => 40
  | 39, 3 => 41
  | 39, 4 => 42
  | 39, 5 => 43
  | 39, 6 => 44
  | 39, 7 => 45
  | 39, 15 => 46
  | 39, 16 => 47
  | 39, 24 => 48
  | 39, 27 => 49
  | 39, 28 => 50
  | 39, 29 => 51
  | 39, 30 => 52
  | 39, 31 => 53
  | 39, 36 => 54
  | 39, 38 => 55
  | 39, 39 => 56
  | _, _ => 0
