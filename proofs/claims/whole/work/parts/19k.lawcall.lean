/-! how the law calls its helpers -/
section TLC
variable {p : Program} {l : Launch} {e : Env} {R : Room} {s : State} {m : MethodId} {args : Array Value} {below : List Frame} {meth : Method} {c : Code} {T : State} {locs : List Loc} {cells slots : Nat}
theorem th_callSW (X : Stand p l e R s m args below meth c T locs cells slots) (hexec : p.tables.exec = Jvm.exec) {own : String} {index : Nat} {y : MethodName} {bytes : ByteArray} {maxL : Nat} {ret : Option FieldType} {hh : List (Nat × Nat × Nat × Nat)}
    (hown : s.vm.findClass own = some m.cls) (hlink : (Cond.methodLink own index y).before args s = true) (hstat : (Cond.static y).before args s = true) (hinit : (Cond.initialized y.cls).before args s = true)
    (hcode : (Cond.codeWith y bytes maxL ret hh).before args s = true) (hy : y.cls ≠ "java/lang/invoke/MethodHandle" ∧ y.cls ≠ "java/lang/invoke/VarHandle")
    {W : Nat} {Pre : Pt → Array Value → Prop} {Post : Pt → Array Value → Option Value → Pt → Prop} (hK : Back l R p e below s args y 3 W Pre Post)
    {g : JFrame} (hg : g.method = m) (hsize : g.locals.size = c.maxLocals) {argsL rest : List Value} (hlen : ∀ sig, parseMethodDescriptor y.desc = some sig → argsL.length = sig.parameters.length)
    (hstack : g.stack = argsL.reverse ++ rest) (hW : 2 * g.monitorRoom + (rest.map fun v => v.category).sum ≤ W) (hdg : decode c.code g.pc = .ok (.invokestatic index, 3))
    (hpre : ∀ vm₁, s.WarmedH vm₁ → Pre ⟨T.setVm vm₁, locs, cells, slots⟩ argsL.toArray) :
    ∃ (v : Option Value) (vm₁ : Vm) (B : Pt), s.WarmedH vm₁ ∧ Stand p l e R s m args below meth c B.U B.locs B.cells B.slots ∧ Post ⟨T.setVm vm₁, locs, cells, slots⟩ argsL.toArray v B ∧
      ∀ target, Steps p.tables e below (B.U.setTop { g with pc := g.pc + 3, stack := v.toList ++ rest }) target → Steps p.tables e below (T.setTop g) target := by
  obtain ⟨mk, methM, cM, hnamed, hmethM, -, -, -, -, -, -, hsigM⟩ := Cond.codeWith_spec hcode
  have hstatic : methM.isStatic = true := Cond.static_spec hnamed hmethM hstat
  obtain ⟨kP, hkP, -⟩ := className_of_methodNamed hnamed
  have hinitP : kP.init = .initialized := Cond.initialized_spec (findClass_of_methodNamed hnamed) hkP hinit
  obtain ⟨vm₁, X₁, hstep₁⟩ := X.invokestatic hexec hown hlink hnamed hmethM hstatic hkP hinitP hy (g := g) hg (argsL := argsL) (rest := rest) (hlen _ hsigM) hstack hdg
  obtain ⟨v, B, X', hpost, hsteps⟩ := hK m meth c ⟨T.setVm vm₁, locs, cells, slots⟩ { g with stack := rest } (.invokestatic index) mk argsL.toArray X₁ hg hsize hdg hW (X₁.named hnamed) (hpre vm₁ X₁.warmed)
  exact ⟨v, vm₁, B, X₁.warmed, X', hpost, fun target h => hstep₁ _ fun acts => by rw [doInvoke_state]; exact hsteps.trans h⟩
end TLC
def tm_LSh (own : String) (idx : Nat) (y : tm_Y) (hh : List (Nat × Nat × Nat × Nat)) (n : Nat) : Prop := (Cond.codeWith y.1 y.2.1 y.2.2.1 y.2.2.2 hh ∈ tm_tb ∧ Cond.initialized y.1.cls ∈ tm_tb ∧ y.1.cls ≠ "java/lang/invoke/MethodHandle" ∧ y.1.cls ≠ "java/lang/invoke/VarHandle" ∧ (parseMethodDescriptor y.1.desc).map (fun d => d.parameters.length) = some n) ∧ Cond.methodLink own idx y.1 ∈ tm_tb ∧ Cond.static y.1 ∈ tm_tb
/-- the law's context beside tm_C: the extra words, the flags -/
def tm_Hx (Γ : tm_G) : Prop := match Γ with
  | (_, l, _, _, s, _, _, _, _, _, _, _, _, b, _) => th_X b s ∧ l.flags = flags0
theorem th_blind {D : va_G} {f : Nat → Nat} {cA : FieldType → ClassId} {b : Nat} {X : tm_X} {av : List Value} : FrameBlind (va_Pc av (fun U => tm_Pre D f cA b X U ∧ th_X b U)) := by
  intro a U g mk h
  obtain ⟨h1, h2, h3⟩ := h
  exact ⟨h1, (tm_blind (av := av) a U g mk ⟨h1, h2⟩).2, h3.same rfl rfl⟩
section TLD
variable {Γ : tm_G} {own : String} {cc : ByteArray} {nL cells slots rf rl rc rs : Nat} {pc pc0 idx n : Nat} {lv : List (Option Value)} {st stk As : List Value} {sh : List tm_Sh} {mI : tm_I} {mL : tm_L} {mR : tm_R} {y : tm_Y} {fm lo mc ms : Nat} {Q : Option Value → tm_X → Prop} {hh : List (Nat × Nat × Nat × Nat)}
theorem tm_callSh (C : tm_C Γ own cc nL) (Ro : tm_Ro Γ rf rl rc rs) (Hx : tm_Hx Γ) (L : tm_LSh own idx y hh n) (hd : decode cc pc = .ok (.invokestatic idx, 3)) (M : tm_Mh y hh fm lo mc ms As (sh, mI, mL, mR) Q) (hstk : stk = As.reverse ++ st) (hn : As.length = n) (hw : (st.map fun v => v.category).sum ≤ 8) (hr : fm + 1 ≤ rf ∧ 8 + (y.2.2.1 + 11) + lo ≤ rl ∧ cells + mc ≤ rc ∧ slots + ms ≤ rs ∧ sh.length + mc ≤ 1000000)
    (k : ∀ (v : Option Value) (X : tm_X), Q v X → tm_T Γ nL (cells + mc) (slots + ms) (pc + 3) lv (v.toList ++ st) X.1 X.2.1 X.2.2.1 X.2.2.2) : tm_T Γ nL cells slots pc lv stk sh mI mL mR := by
  obtain ⟨p, l, e, R, s, m, args, below, meth, c, D, f, cA, b, QQ⟩ := Γ
  obtain ⟨hx, hb, hml, hown, hts, hK, hf, hbs, hlk, hSt⟩ := C
  obtain ⟨r1, r2, r3, r4⟩ := Ro
  obtain ⟨hXX, hfl⟩ := Hx
  obtain ⟨⟨l1, l2, l3, l4, l5⟩, l6, l7⟩ := L
  obtain ⟨g1, g2, g3, g4, g5⟩ := hr
  intro hsh hsz H locs ls hP hS hl
  subst hstk
  refine tm_hle fun hle => ?_
  have hsz1 : H.size = b + sh.length := by have := tm_hsz hP hS hf hbs hsh; omega
  have hwarm : ∀ w ∈ tm_tb, ∀ (a' : Array Value) (U : State), s.WarmedH U.vm → w.before a' U = true := fun w hw a' U hW => word_at hW (good_of_word (List.mem_filter.mp hw).2) (hts w hw)
  have hB : Back l R p e below s args y.1 3 8 (PreOf R mc ms (va_Pc (As.map (tm_v f)) (fun U => tm_Pre D f cA b (sh, mI, mL, mR) U ∧ th_X b U))) (PostOf (tm_Qc D f cA b (sh.length + mc) Q) mc ms (fun q => b ≤ q)) := by
    refine va_backW (bytes := y.2.1) (maxL := y.2.2.1) (ret := y.2.2.2) (hh := hh) (M g5 l hfl D f cA b) th_blind rfl rfl (by rw [r1]; exact g1) (by rw [r2]; exact g2) (fun w hw a' U hW => ?_) List.mem_cons_self (fun a' U hW => hwarm _ l2 a' U hW)
    rcases List.mem_cons.mp hw with rfl | h
    · exact hwarm _ l1 a' U hW
    · exact hwarm _ h a' U hW
  refine tm_after (p := p) (l := l) (e := e) (R := R) (s := s) (m := m) (args := args) (below := below) (meth := meth) (c := c) (H := H) (locs := locs) (cells := cells) (slots := slots) (a := (As.map (tm_v f)).toArray) (fun T hT X => ?_) hS hl hsz g5 k
  obtain ⟨v, vm₁, ⟨U', l9, c2, s2⟩, hW₁, X', ⟨g', mk, t, L, e1, e2, hq, h1, hL, h2, h3⟩, stp⟩ := th_callSW X hx hown (hts _ l6) (hts _ l7) (hts _ l2) (hts _ l1) ⟨l3, l4⟩ hB (g := F0 m pc ls ((As.reverse ++ st).map (tm_v f))) rfl (by rw [hml]; exact hl.1) (argsL := As.map (tm_v f)) (rest := st.map (tm_v f)) (fun sig hs => by
      rw [hs] at l5
      rw [List.length_map, hn]
      exact (Option.some.inj l5).symm) (by show List.map (tm_v f) (As.reverse ++ st) = _; rw [List.map_append, List.map_reverse]) (lv_room (by rw [tm_cats]; exact hw)) (by rw [hb]; exact hd)
    (fun vm₁ hW₁ => ⟨by rw [r3]; exact g3, by rw [r4]; exact g4, rfl, (tm_pre (av := []) (U := T.setVm vm₁) hsh hsz1 hP hS hK hf hSt hT hW₁).2, hXX.to (U := T.setVm vm₁) hW₁ (fun a h1 h2 => by show T.heap[a]? = _; rw [hT]; exact hS.2.1 a h1 h2)⟩)
  dsimp only [Pt.U, Pt.locs, Pt.cells, Pt.slots] at X' e1 e2 h1 h2 h3 stp
  subst h1; subst h2; subst h3
  exact ⟨v, (T.setVm vm₁).calling g' mk (As.map (tm_v f)).toArray, t, U', L, hT, X', hL, e1, e2, hq, stp⟩
end TLD
theorem tl_hw : tm_LSh "LabelScriptLaw" 34 ty_Lw_write hh_write 4 := ⟨⟨tm_in 799 (by decide +kernel) rfl, tm_in 56 (by decide +kernel) rfl, by decide, by decide, by decide +kernel⟩, tm_in 797 (by decide +kernel) rfl, tm_in 798 (by decide +kernel) rfl⟩
theorem tl_hl : tm_LSh "LabelScriptLaw" 60 ty_Lw_label hh_label 4 := ⟨⟨tm_in 873 (by decide +kernel) rfl, tm_in 56 (by decide +kernel) rfl, by decide, by decide, by decide +kernel⟩, tm_in 871 (by decide +kernel) rfl, tm_in 872 (by decide +kernel) rfl⟩
theorem tl_ho : tm_LSh "LabelScriptLaw" 64 ty_Lw_order hh_order 4 := ⟨⟨tm_in 885 (by decide +kernel) rfl, tm_in 56 (by decide +kernel) rfl, by decide, by decide, by decide +kernel⟩, tm_in 883 (by decide +kernel) rfl, tm_in 884 (by decide +kernel) rfl⟩
theorem tl_hd : tm_LSh "LabelScriptLaw" 67 ty_Lw_data hh_data 4 := ⟨⟨tm_in 915 (by decide +kernel) rfl, tm_in 56 (by decide +kernel) rfl, by decide, by decide, by decide +kernel⟩, tm_in 913 (by decide +kernel) rfl, tm_in 914 (by decide +kernel) rfl⟩
