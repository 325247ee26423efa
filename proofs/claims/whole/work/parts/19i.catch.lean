/-! a throw that is caught: the law's helpers -/
section THC
variable {p : Program} {l : Launch} {e : Env} {R : Room} {s : State} {m : MethodId} {args : Array Value} {below : List Frame} {meth : Method} {c : Code} {T : State} {locs : List Loc} {cells slots : Nat}
theorem th_callT (X : Stand p l e R s m args below meth c T locs cells slots) (hexec : p.tables.exec = Jvm.exec) {own C : String} {index : Nat} {y : MethodName} {bytes : ByteArray} {maxL : Nat} {ret : Option FieldType}
    (hown : s.vm.findClass own = some m.cls) (hlink : (Cond.methodLink own index y).before args s = true) (hinst : (Cond.instanceMethod y).before args s = true) (hsel : (Cond.selects C y y).before args s = true)
    (hcode : (Cond.code y bytes maxL ret).before args s = true) (hy : y.cls ≠ "java/lang/invoke/MethodHandle" ∧ y.cls ≠ "java/lang/invoke/VarHandle")
    {W : Nat} {Pre : Pt → Array Value → Prop} {Post : Pt → Array Value → Addr → Pt → Prop} (hK : BackT l R p e below s args y 3 W Pre Post)
    {b : Addr} {cellB : Cell} (hcell : T.heap[b]? = some cellB) (hobj : cellB.vm.isStatics = false) (hcls : s.vm.findClass C = some cellB.cls)
    {g : JFrame} (hg : g.method = m) (hsize : g.locals.size = c.maxLocals) {argsL rest : List Value} (hlen : ∀ sig, parseMethodDescriptor y.desc = some sig → argsL.length = sig.parameters.length)
    (hstack : g.stack = argsL.reverse ++ .ref b :: rest) (hW : 2 * g.monitorRoom + (rest.map fun v => v.category).sum ≤ W) (hdg : decode c.code g.pc = .ok (.invokevirtual index, 3))
    (hpre : ∀ vm₁, s.WarmedH vm₁ → Pre ⟨T.setVm vm₁, locs, cells, slots⟩ (Value.ref b :: argsL).toArray) :
    ∃ (v : Addr) (vm₁ : Vm) (B : Pt), s.WarmedH vm₁ ∧ Stand p l e R s m args below meth c B.U B.locs B.cells B.slots ∧ Post ⟨T.setVm vm₁, locs, cells, slots⟩ (Value.ref b :: argsL).toArray v B ∧
      ∀ target, Steps p.tables e below ((B.U.setTop { g with stack := rest }).pushFrame (.throwing v)) target → Steps p.tables e below (T.setTop g) target := by
  obtain ⟨mk, methM, hnamed, hmethM, hstM, habM⟩ := Cond.instanceMethod_spec hinst
  obtain ⟨methM', cM, hmethM', -, -, -, -, -, -, hsigM⟩ := Cond.code_spec hnamed hcode
  cases hmethM.symm.trans hmethM'
  obtain ⟨c2, r2, m2, q1, q2, q3, q4, kP, hkP, hkPi⟩ := Cond.selects_spec hsel
  cases hcls.symm.trans q1
  cases (State.methodFound?_of_named hnamed hy).symm.trans q2
  cases hnamed.symm.trans q3
  have hselP : selectMethod e.platform s.vm cellB.cls mk = .method mk := by rw [Launch.admits_selectMethod X.admits]; exact q4
  obtain ⟨vm₁, X₁, hstep₁⟩ := X.invokevirtual hexec hown hlink hnamed hmethM hstM hkP hkPi hy (a := b) (cell := cellB) hcell
    (fun z h => by rw [h] at hobj; cases hobj) hselP hmethM habM hkP hkPi (g := g) hg (argsL := argsL) (rest := rest) (hlen _ hsigM) hstack hdg
  obtain ⟨v, B, X', hpost, hsteps⟩ := hK m meth c ⟨T.setVm vm₁, locs, cells, slots⟩ { g with stack := rest } (.invokevirtual index) mk (Value.ref b :: argsL).toArray X₁ hg hsize hdg hW (X₁.named hnamed) (hpre vm₁ X₁.warmed)
  exact ⟨v, vm₁, B, X₁.warmed, X', hpost, fun target h => hstep₁ _ fun acts => by rw [doInvoke_state]; exact hsteps.trans h⟩
theorem th_backT {D : va_G} {f : Nat → Nat} {cA : FieldType → ClassId} {b fm lo W : Nat} {y : tm_Y} {av : List Value} {X : tm_X} {ci : Nat} {sargs : Array Value}
    (hM : MetFree l y.1 (headSpec (tm_ws y) { frames := fm, cells := 1, slots := 6, locals := lo }) (va_Pc av (fun U => tm_Pre D f cA b X U ∧ th_X b U)) (fun _ _ _ _ _ => True) (tm_Qx D f cA b X ci)) (hframes : fm + 1 ≤ R.frames) (hlocals : W + (y.2.2.1 + 11) + lo ≤ R.locals) (hws : ∀ w ∈ tm_ws y, ∀ a' U, s.WarmedH U.vm → w.before a' U = true) (hinit : ∀ a' U, s.WarmedH U.vm → (Cond.initialized y.1.cls).before a' U = true) :
    BackT l R p e below s sargs y.1 3 W (fun A a => A.cells + 1 ≤ R.cells ∧ A.slots + 6 ≤ R.slots ∧ va_Pc av (fun U => tm_Pre D f cA b X U ∧ th_X b U) a A.U)
      (fun A _ v B => B.locs = A.locs ∧ B.cells = A.cells + 1 ∧ B.slots = A.slots + 6 ∧ v = f X.1.length ∧ va_P D tm_cl (tm_W f cA tm_cl tm_ct (X.1 ++ [.inl ci]) X.2.1 X.2.2.1 X.2.2.2) B.U.heap ∧ va_F (fun q => b ≤ q) A.U B.U) := by
  refine BackT.of_free (bytes := y.2.1) (maxL := y.2.2.1) (ret := y.2.2.2) (E := fun _ _ _ _ L k n => L = [] ∧ k = 1 ∧ n = 6) hM hframes hlocals ?_ ?_ (fun _ _ _ _ _ _ _ _ _ => trivial) ?_ ?_
  · intro m meth c A a X hp
    exact ⟨atoms_intro fun w hw => hws w hw _ _ X.warmed, hws _ List.mem_cons_self _ _ X.warmed, hinit _ _ X.warmed, hp.1, hp.2.1⟩
  · intro m meth c A a g mk X hp
    obtain ⟨h1, h2, h3⟩ := hp.2.2
    exact ⟨h1, (tm_blind (av := av) a A.U g mk ⟨h1, h2⟩).2, h3.same rfl rfl⟩
  · intro a st o t hq
    exact ⟨[], 1, 6, hq.2, rfl, rfl, rfl⟩
  · intro m meth c A a g mk v t L k n X hp hq hF ⟨e1, e2, e3⟩
    subst e1; subst e2; subst e3
    obtain ⟨⟨h1, h2, h3⟩, -⟩ := hq
    cases h1
    exact ⟨List.append_nil _, rfl, rfl, rfl, h2, h3⟩
end THC
/-- the rest of a helper's context: the extra words, the flags, the table of handlers -/
def tm_H (Γ : tm_G) (hh : List (Nat × Nat × Nat × Nat)) : Prop := match Γ with
  | (_, l, e, _, s, _, _, _, _, c, _, _, _, b, _) => th_X b s ∧ l.flags = flags0 ∧ e.platform.magicAccessors = ({} : Platform).magicAccessors ∧ c.exceptionTable.toList.map (fun h => (h.startPc, h.endPc, h.handlerPc, h.catchType)) = hh
abbrev tm_wh (y : tm_Y) (hh : List (Nat × Nat × Nat × Nat)) : List Cond := Cond.codeWith y.1 y.2.1 y.2.2.1 y.2.2.2 hh :: tm_tb
def tm_Mh (y : tm_Y) (hh : List (Nat × Nat × Nat × Nat)) (fm lo mc ms : Nat) (av : List Value) (X : tm_X) (Q : Option Value → tm_X → Prop) : Prop :=
  X.1.length + mc ≤ 1000000 → ∀ (l : Launch), l.flags = flags0 → ∀ (D : va_G) (f : Nat → Nat) (cA : FieldType → ClassId) (b : Nat), Met l y.1 (tm_wh y hh) { frames := fm, cells := mc, slots := ms, locals := lo } (va_Pc (av.map (tm_v f)) (fun U => tm_Pre D f cA b X U ∧ th_X b U)) (tm_Qc D f cA b (X.1.length + mc) Q) mc ms (fun q => b ≤ q)
theorem tm_bodyH {y : tm_Y} {hh : List (Nat × Nat × Nat × Nat)} {fm lo mc ms : Nat} {av : List Value} {X : tm_X} {Q : Option Value → tm_X → Prop} (hy : plainName y.1.cls = true) (hav : (tm_sl av).length ≤ y.2.2.1)
    (k : ∀ Γ : tm_G, tm_C Γ y.1.cls y.2.1 y.2.2.1 → tm_Γ y fm lo mc ms av X Q Γ → tm_H Γ hh → X.1.length + mc ≤ 1000000 → tm_T Γ y.2.2.1 0 0 0 (tm_lv0 y.2.2.1 av) [] X.1 X.2.1 X.2.2.1 X.2.2.2) : tm_Mh y hh fm lo mc ms av X Q := by
  intro hlen l hfl D f cA b
  refine va_MetW (cc := y.2.1) (maxL := y.2.2.1) (ret := y.2.2.2) (hh := hh) hy rfl ?_
  intro p e s m args below meth c s₁ B hml hv
  obtain ⟨hargs, ⟨hsz, hl6, hP, hK, hf, hSt⟩, hXX⟩ := hv
  have hts := atoms_spec (ws := tm_wh y hh) B.pre
  have hown : s.vm.findClass y.1.cls = some m.cls := findClass_of_methodNamed B.named
  have hname : meth.name = y.1.name := (name_of_methodNamed B.named B.method).1
  obtain ⟨m9, meth9, c9, hn9, h1, h2, h3, h4, h7, h5, h6, -⟩ := Cond.codeWith_spec (hts _ List.mem_cons_self)
  cases B.named.symm.trans hn9
  cases B.method.symm.trans h1
  cases (Stand.of_body B).code.symm.trans h2
  have hC : tm_C (p, l, e, (headSpec (tm_wh y hh) { frames := fm, cells := mc, slots := ms, locals := lo }).room, s, m, args, below, meth, c, D, f, cA, b, MQ below (tm_Qc D f cA b (X.1.length + mc) Q) args s mc ms (fun q => b ≤ q)) y.1.cls y.2.1 y.2.2.1 :=
    ⟨B.exec, B.bytes, hml, hown, fun w hw => hts w (List.mem_cons_of_mem _ hw), hK, hf, by omega, B.notSynchronized, hSt⟩
  have hT := k _ hC ⟨rfl, hargs, B.returns, hname, hsz, rfl⟩ ⟨hXX, hfl, by rw [B.admits.platform], h7⟩ hlen hl6 (by omega) s.heap []
  rw [hargs, lg_entry_eq]
  rw [hargs] at hT
  exact hT _ hP va_S.rf (tm_lv0_has f hav)
section THE
variable {Γ : tm_G} {own : String} {cc : ByteArray} {nL cells slots rf rl rc rs : Nat} {pc pc0 idx n : Nat} {lv : List (Option Value)} {st stk As : List Value} {sh : List tm_Sh} {mI : tm_I} {mL : tm_L} {mR : tm_R} {y : tm_Y} {fm lo : Nat} {o ci ck : Nat}
/-- invokevirtual of a method that throws, caught behind rows that are passed -/
theorem tm_catch {hp hr0 : List (Nat × Nat × Nat × Nat)} {hx0 : Nat × Nat × Nat × Nat} {q : vw_C} (C : tm_C Γ own cc nL) (Ro : tm_Ro Γ rf rl rc rs) (Hh : tm_H Γ (hp ++ hx0 :: hr0)) (L : tm_LV own idx y n) (hd : decode cc pc = .ok (.invokevirtual idx, 3)) (M : tm_Mx y fm lo (.ref o :: As) (sh, mI, mL, mR) ci) (ho : sh[o]? = some (.inl ck)) (hck : (tm_cl[ck]?).map (fun q => q.1) = some y.1.cls) (hstk : stk = As.reverse ++ .ref o :: st) (hn : As.length = n) (hw : (st.map fun v => v.category).sum ≤ 8) (hr : fm + 1 ≤ rf ∧ 8 + (y.2.2.1 + 11) + lo ≤ rl ∧ cells + 1 ≤ rc ∧ slots + 6 ≤ rs ∧ sh.length + 1 ≤ 1000000)
    (hq : tm_cl[ci]? = some q) (hcov : hx0.1 ≤ pc ∧ pc < hx0.2.1) (h0 : hx0.2.2.2 ≠ 0) (hlink : Cond.classLink own hx0.2.2.2 q.1 ∈ tm_tb) (hcast : Cond.castable q.1 q.1 ∈ th_face)
    (hpass : ∀ r ∈ hp, r.2.2.2 ≠ 0 ∧ Cond.classLink own r.2.2.2 "java/lang/IllegalArgumentException" ∈ tm_tb ∧ q.1 = "java/lang/IndexOutOfBoundsException")
    (k : tm_T Γ nL (cells + 1) (slots + 6) hx0.2.2.1 lv [.ref sh.length] (sh ++ [.inl ci]) mI mL mR) : tm_T Γ nL cells slots pc lv stk sh mI mL mR := by
  obtain ⟨p, l, e, R, s, m, args, below, meth, c, D, f, cA, b, QQ⟩ := Γ
  obtain ⟨hx, hb, hml, hown, hts, hK, hf, hbs, hlk, hSt⟩ := C
  obtain ⟨r1, r2, r3, r4⟩ := Ro
  obtain ⟨hXX, hfl, hmag, hh⟩ := Hh
  obtain ⟨⟨l1, l2, l3, l4, l5⟩, l6, l7, l8⟩ := L
  obtain ⟨g1, g2, g3, g4, g5⟩ := hr
  intro hsh hsz H locs ls hP hS hl
  subst hstk
  refine tm_hle fun hle => ?_
  have hsz1 : H.size = b + sh.length := by have := tm_hsz hP hS hf hbs hsh; omega
  have hv : tm_v f (.ref o) = .ref (f o) := tm_v_ref (tm_sh_ne ho hsh)
  have M1 := M g5 l hfl D f cA b
  rw [List.map_cons, hv] at M1
  obtain ⟨qk, hqk, hqc⟩ : ∃ q, tm_cl[ck]? = some q ∧ q.1 = y.1.cls := by
    cases hz : tm_cl[ck]? with
    | none => rw [hz] at hck; cases hck
    | some q => rw [hz] at hck; exact ⟨q, rfl, Option.some.inj hck⟩
  obtain ⟨cellB, hc1, hc2, hc3⟩ := va_recv hK hP hqk (tm_W_at ho)
  rw [hqc] at hc3
  have hwarm : ∀ w ∈ tm_tb, ∀ (a' : Array Value) (U : State), s.WarmedH U.vm → w.before a' U = true := fun w hw a' U hW => word_at hW (good_of_word (List.mem_filter.mp hw).2) (hts w hw)
  intro T hT Xs
  have B := th_backT (p := p) (e := e) (below := below) (sargs := args) (R := R) (s := s) (W := 8) M1 (by rw [r1]; exact g1) (by rw [r2]; exact g2) (fun w hw a' U hW => by
    rcases List.mem_cons.mp hw with rfl | h
    · exact hwarm _ l1 a' U hW
    · exact hwarm _ h a' U hW) (fun a' U hW => hwarm _ l2 a' U hW)
  obtain ⟨v, vm₁, ⟨U1, L1, c1, s1⟩, hW1, X1, ⟨b1, b2, b3, b4, b5, b6⟩, st1⟩ := th_callT Xs hx hown (hts _ l6) (hts _ l7) (hts _ l8) (hts _ l1) ⟨l3, l4⟩ B (b := f o) (cellB := cellB) (by rw [hT]; exact hc1) hc2 hc3 (g := F0 m pc ls ((As.reverse ++ .ref o :: st).map (tm_v f))) rfl (by rw [hml]; exact hl.1) (argsL := As.map (tm_v f)) (rest := st.map (tm_v f)) (fun sig hs => by
      rw [hs] at l5
      rw [List.length_map, hn]
      exact (Option.some.inj l5).symm) (by show List.map (tm_v f) (As.reverse ++ .ref o :: st) = _; rw [List.map_append, List.map_reverse, List.map_cons, hv]) (lv_room (by rw [tm_cats]; exact hw)) (by rw [hb]; exact hd) (fun vm₁ hWv => ⟨by rw [r3]; exact g3, by rw [r4]; exact g4, rfl, (tm_pre (av := []) (U := T.setVm vm₁) hsh hsz1 hP hS hK hf hSt hT hWv).2, hXX.to (U := T.setVm vm₁) hWv (fun a h1 h2 => by show T.heap[a]? = _; rw [hT]; exact hS.2.1 a h1 h2)⟩)
  dsimp only [Pt.U, Pt.locs, Pt.cells, Pt.slots] at X1 b1 b2 b3 b5 b6 st1
  subst b1; subst b2; subst b3; subst b4
  obtain ⟨ce, e1, e2, e3⟩ := va_recv hK b5 hq (tm_W_at (o := sh.length) (x := .inl ci) (by simp))
  obtain ⟨pre, x, rest, hsplit, hm1, hm2⟩ : ∃ pre x rest, c.exceptionTable.toList = pre ++ x :: rest ∧ pre.map (fun h => (h.startPc, h.endPc, h.handlerPc, h.catchType)) = hp ∧ (x.startPc, x.endPc, x.handlerPc, x.catchType) = hx0 := by
    obtain ⟨a, b, h1, h2, h3⟩ := List.map_eq_append_iff.mp hh
    obtain ⟨x, rest, h4, h5, h6⟩ := List.map_eq_cons_iff.mp h3
    exact ⟨a, x, rest, by rw [h1, h4], h2, h5⟩
  subst hm1; subst hm2
  obtain ⟨c3, cT, hc3', hcT, hasg⟩ := Cond.castable_spec (hXX.1 _ hcast)
  cases e3.symm.trans hc3'
  obtain ⟨hend, hk0⟩ := X1.catches_of_link hown (x := x) h0 (hts _ hlink) hcT hasg
  obtain ⟨vm', XV, stV⟩ := X1.caughtThrough (f sh.length) (g := { F0 m pc ls ((As.reverse ++ .ref o :: st).map (tm_v f)) with stack := st.map (tm_v f) }) rfl e1 e2 hk0 pre x rest hsplit (fun z hz => by
    obtain ⟨w1, w2, w3⟩ := hpass _ (List.mem_map.mpr ⟨z, hz, rfl⟩)
    obtain ⟨c', hc', hcl⟩ := Cond.classLink_spec hown (hts _ w2) e.platform hmag
    obtain ⟨n1, n2, n3, n4, n5⟩ := hXX.2.2.2
    rw [w3] at e3
    cases e3.symm.trans n3
    cases hc'.symm.trans n4
    exact Or.inr ⟨w1, _, hcl, n5⟩) (by simp only [covers, Bool.and_eq_true, decide_eq_true_eq]; exact hcov) hend
  have hlen2 : (sh ++ [(Sum.inl ci : tm_Sh)]).length = sh.length + 1 := by simp
  have K := k (by rw [hlen2]; exact g5) (by rw [hlen2]; omega) U1.heap _ ls b5 ⟨Nat.le_trans hS.1 (by have := b6.1; rw [show (T.setVm vm₁).heap = H from hT] at this; exact this), fun q h1 h2 => by
      have := b6.2 q (by rw [show (T.setVm vm₁).heap = H from hT]; exact Nat.lt_of_lt_of_le h1 hS.1) h2
      rw [this, show (T.setVm vm₁).heap = H from hT]
      exact hS.2.1 q h1 h2, hS.2.2⟩ hl (U1.setVm vm') rfl XV
  obtain ⟨t, a1, a2⟩ := K
  refine ⟨t, st1 t ?_, a2⟩
  rw [X1.pushThrowing_eq]
  refine stV t ?_
  have hv2 : [(Value.ref sh.length)].map (tm_v f) = [Value.ref (f sh.length)] := by rw [List.map_cons, tm_v_ref (tm_ge (by omega))]; rfl
  rw [hv2] at a1
  exact a1
end THE
