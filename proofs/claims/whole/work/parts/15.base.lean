/-! what the turned methods stand on -/
def tm_F : Nat := 100000
def tm_len (a : Nat) : Nat := match sh0[a]? with
  | some (.inr q) => q.2
  | _ => 0
def tf_none : tm_Fr := fun _ => none
theorem tfo_none {own : String} : ∀ k q, tf_none k = some q → tm_FOK own k q := fun _ _ h => nomatch h
theorem tm_iteN {α : Type} {c : Prop} [Decidable c] {x : Option α} {r : α} (h : (if c then x else none) = some r) : c ∧ x = some r := by
  by_cases hc : c
  · rw [if_pos hc] at h; exact ⟨hc, h⟩
  · rw [if_neg hc] at h; cases h
theorem tm_nz {x : Int32} (h : x = 0 ∨ x = 1) : narrow .boolean (.int x) = .int x := by
  rcases h with rfl | rfl <;> rfl
theorem tm_fz {x : Int32} (h : x = 0 ∨ x = 1) : fits .boolean (.int x) = true := by
  rcases h with rfl | rfl <;> rfl
/-- fewer known values -/
def tm_sub : List (Option Value) → List (Option Value) → Prop
  | [], [] => True
  | a :: r, b :: s => (a = none ∨ a = b) ∧ tm_sub r s
  | _, _ => False
theorem tm_sub_at : ∀ {a b : List (Option Value)}, tm_sub a b → a.length = b.length ∧ ∀ (i : Nat) (v : Value), a[i]? = some (some v) → b[i]? = some (some v)
  | [], [], _ => ⟨rfl, fun _ _ h => h⟩
  | x :: a, y :: b, h => by
    obtain ⟨h1, h2⟩ := h
    obtain ⟨e1, e2⟩ := tm_sub_at h2
    refine ⟨by simp [e1], fun i v hi => ?_⟩
    cases i with
    | zero =>
      simp only [List.getElem?_cons_zero, Option.some.injEq] at hi ⊢
      rcases h1 with h1 | h1
      · rw [h1] at hi; cases hi
      · rw [← h1]; exact hi
    | succ i =>
      simp only [List.getElem?_cons_succ] at hi ⊢
      exact e2 i v hi
theorem tm_wk {Γ : tm_G} {nL cells slots pc : Nat} {lv lv' : List (Option Value)} {st : List Value} {sh : List tm_Sh} {mI : tm_I} {mL : tm_L} {mR : tm_R} (h : tm_sub lv' lv) (k : tm_T Γ nL cells slots pc lv' st sh mI mL mR) : tm_T Γ nL cells slots pc lv st sh mI mL mR := by
  obtain ⟨p, l, e, R, s, m, args, below, meth, c, D, f, cA, b, QQ⟩ := Γ
  obtain ⟨h1, h2⟩ := tm_sub_at h
  intro hsh hsz H locs ls hP hS hl
  exact k hsh hsz H locs ls hP hS ⟨hl.1, hl.2.1, by rw [h1]; exact hl.2.2.1, fun i v hi => hl.2.2.2 i v (h2 i v hi)⟩
/-- the same for a member of the library that the machine has no entry for -/
theorem tm_bodyF {y : tm_Y} {fm lo mc ms : Nat} {av : List Value} {X : tm_X} {Q : Option Value → tm_X → Prop} (hy : plainFor y.1 = true) (hav : (tm_sl av).length ≤ y.2.2.1)
    (k : ∀ Γ : tm_G, tm_C Γ y.1.cls y.2.1 y.2.2.1 → tm_Γ y fm lo mc ms av X Q Γ → tm_T Γ y.2.2.1 0 0 0 (tm_lv0 y.2.2.1 av) [] X.1 X.2.1 X.2.2.1 X.2.2.2) : tm_M y fm lo mc ms av X Q := by
  intro hlen l D f cA b
  refine va_MetF (cc := y.2.1) (maxL := y.2.2.1) (ret := y.2.2.2) hy rfl ?_
  intro p e s m args below meth c s₁ B hml hv
  obtain ⟨hargs, hsz, hl6, hP, hK, hf, hSt⟩ := hv
  have hts := atoms_spec (ws := tm_ws y) B.pre
  have hown : s.vm.findClass y.1.cls = some m.cls := findClass_of_methodNamed B.named
  have hname : meth.name = y.1.name := (name_of_methodNamed B.named B.method).1
  have hC : tm_C (p, l, e, (headSpec (tm_ws y) { frames := fm, cells := mc, slots := ms, locals := lo }).room, s, m, args, below, meth, c, D, f, cA, b, MQ below (tm_Qc D f cA b (X.1.length + mc) Q) args s mc ms (fun q => b ≤ q)) y.1.cls y.2.1 y.2.2.1 :=
    ⟨B.exec, B.bytes, hml, hown, fun w hw => hts w (List.mem_cons_of_mem _ hw), hK, hf, by omega, B.notSynchronized, hSt⟩
  have hT := k _ hC ⟨rfl, hargs, B.returns, hname, hsz, rfl⟩ hl6 (by omega) s.heap []
  rw [hargs, lg_entry_eq]
  rw [hargs] at hT
  exact hT _ hP va_S.rf (tm_lv0_has f hav)
section TMQ
variable {Γ : tm_G} {own : String} {cc : ByteArray} {nL cells slots : Nat} {pc tgt len : Nat} {lv : List (Option Value)} {st : List Value} {sh : List tm_Sh} {mI : tm_I} {mL : tm_L} {mR : tm_R}
theorem tm_lkI (C : tm_C Γ own cc nL) {dflt : Int} {ps : Array (Int × Int)} {x : Int32} (hd : decode cc pc = .ok (.lookupswitch dflt ps, len)) (v : Int32) (off : Int) (h : x = v) (hp : (ps.toList.zip (ps.toList.drop 1)).all (fun (a, next) => a.1 < next.1) = true) (ho : Op.lookupswitch.offset ps.toList dflt v.toInt = off) (ht : (pc : Int) + off = (tgt : Int)) (k : tm_T Γ nL cells slots tgt lv st sh mI mL mR) : tm_T Γ nL cells slots pc lv (.int x :: st) sh mI mL mR := by
  subst h
  exact tm_look C hd hp ho ht k
theorem tm_off_out (d : Int) (z : Int) : ∀ (ps : List (Int × Int)), (∀ q ∈ ps, ¬ z = q.1) → Op.lookupswitch.offset ps d z = d
  | [], _ => rfl
  | q :: r, h => by
    have h1 := h q List.mem_cons_self
    have h2 := tm_off_out d z r (fun y hy => h y (List.mem_cons_of_mem _ hy))
    unfold Op.lookupswitch.offset
    first
      | (rw [if_neg h1]; exact h2)
      | (rw [if_neg (fun e => h1 e.symm)]; exact h2)
      | (split
         · exact absurd (by simp_all) h1
         · exact h2)
theorem tm_lkD (C : tm_C Γ own cc nL) {dflt : Int} {ps : Array (Int × Int)} {x : Int32} (hd : decode cc pc = .ok (.lookupswitch dflt ps, len)) (vs : List Int32) (hp : (ps.toList.zip (ps.toList.drop 1)).all (fun (a, next) => a.1 < next.1) = true) (hk : (ps.toList.all fun q => decide (q.1 ∈ vs.map fun v => v.toInt)) = true) (hx : ∀ v ∈ vs, ¬ x = v) (ht : (pc : Int) + dflt = (tgt : Int)) (k : tm_T Γ nL cells slots tgt lv st sh mI mL mR) : tm_T Γ nL cells slots pc lv (.int x :: st) sh mI mL mR := by
  refine tm_look C hd hp (tm_off_out _ _ _ fun q hq e => ?_) ht k
  have h1 := of_decide_eq_true (List.all_eq_true.mp hk q hq)
  obtain ⟨v, hv, e2⟩ := List.mem_map.mp h1
  exact hx v hv (Int32.toInt_inj.mp (e.trans e2.symm))
theorem tm_swI (C : tm_C Γ own cc nL) {dflt lo hi : Int} {offs : Array Int} {x : Int32} (hd : decode cc pc = .ok (.tableswitch dflt lo hi offs, len)) (v : Int32) (off : Int) (h : x = v) (h1 : ¬ v.toInt < lo) (h2 : ¬ hi < v.toInt) (ho : offs[(v.toInt - lo).toNat]? = some off) (ht : (pc : Int) + off = (tgt : Int)) (k : tm_T Γ nL cells slots tgt lv st sh mI mL mR) : tm_T Γ nL cells slots pc lv (.int x :: st) sh mI mL mR := by
  subst h
  exact tm_tabI C hd h1 h2 ho ht k
theorem tm_swD (C : tm_C Γ own cc nL) {dflt lo hi : Int} {offs : Array Int} {x : Int32} (hd : decode cc pc = .ok (.tableswitch dflt lo hi offs, len)) (vs : List Int32) (hs : hi - lo + 1 = offs.size) (hk : ((List.range offs.size).all fun j => decide (offs[j]? = some dflt) || decide (lo + j ∈ vs.map fun v => v.toInt)) = true) (hx : ∀ v ∈ vs, ¬ x = v) (ht : (pc : Int) + dflt = (tgt : Int)) (k : tm_T Γ nL cells slots tgt lv st sh mI mL mR) : tm_T Γ nL cells slots pc lv (.int x :: st) sh mI mL mR := by
  by_cases h1 : x.toInt < lo
  · exact tm_tabO C hd (Or.inl h1) ht k
  by_cases h2 : hi < x.toInt
  · exact tm_tabO C hd (Or.inr h2) ht k
  have h3 := List.all_eq_true.mp hk (x.toInt - lo).toNat (List.mem_range.mpr (by omega))
  simp only [Bool.or_eq_true, decide_eq_true_eq] at h3
  rcases h3 with h3 | h3
  · exact tm_tabI C hd h1 h2 h3 ht k
  · obtain ⟨v, hv, e2⟩ := List.mem_map.mp h3
    exact absurd (Int32.toInt_inj.mp (by rw [e2]; omega)) (hx v hv)
end TMQ
def isFo (o : Nat) : Prop := o = 17 ∨ o = 30 ∨ o = 32 ∨ o = 34
theorem isFo_17 : isFo 17 := Or.inl rfl
theorem isFo_30 : isFo 30 := Or.inr (Or.inl rfl)
theorem isFo_32 : isFo 32 := Or.inr (Or.inr (Or.inl rfl))
theorem isFo_34 : isFo 34 := Or.inr (Or.inr (Or.inr rfl))
def isRo (o : Nat) : Prop := o = 2 ∨ o = 5 ∨ o = 10 ∨ o = 13 ∨ o = 23 ∨ o = 27
theorem isRo_2 : isRo 2 := Or.inl rfl
theorem isRo_5 : isRo 5 := Or.inr (Or.inl rfl)
theorem isRo_10 : isRo 10 := Or.inr (Or.inr (Or.inl rfl))
theorem isRo_13 : isRo 13 := Or.inr (Or.inr (Or.inr (Or.inl rfl)))
theorem isRo_23 : isRo 23 := Or.inr (Or.inr (Or.inr (Or.inr (Or.inl rfl))))
theorem isRo_27 : isRo 27 := Or.inr (Or.inr (Or.inr (Or.inr (Or.inr rfl))))
