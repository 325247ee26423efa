/-! methods that throw: the road on which they do -/
def th_names : List String := ["java/lang/RuntimeException", "java/lang/Exception"]
def th_ref1 : Cond := .isRef (.static "java/lang/Throwable" "UNASSIGNED_STACK" "[Ljava/lang/StackTraceElement;")
def th_ref2 : Cond := .isRef (.static "java/lang/Throwable" "SUPPRESSED_SENTINEL" "Ljava/util/List;")
/-- words that a method is not given by the tables' list: they go from state to state by rows of their own -/
def th_face : List Cond := [.declares ⟨"java/lang/RuntimeException", "<init>", "(Ljava/lang/String;)V"⟩, .declares ⟨"java/lang/Exception", "<init>", "(Ljava/lang/String;)V"⟩, .declares ⟨"java/lang/Throwable", "<init>", "(Ljava/lang/String;)V"⟩, .castable "java/lang/IllegalArgumentException" "java/lang/IllegalArgumentException", .castable "java/lang/IndexOutOfBoundsException" "java/lang/IndexOutOfBoundsException"]
def th_Ls (C n d : String) (b : Nat) (U : State) : Prop := ∃ (c : ClassId) (k : Class) (i : Nat) (f : Field) (a : Nat) (cell : Cell), U.vm.findClass C = some c ∧ U.fieldFound? C n d = some (c, k, i, f) ∧ f.isStatic = true ∧ k.statics = some a ∧ U.heap[a]? = some cell ∧ cell.vm.isStatics = true ∧ cell.cls = c ∧ f.slot < cell.slots.size ∧ k.staticTypes[f.slot]? = some f.type ∧ ¬ b ≤ a
theorem th_Ls.use {C n d : String} {b : Nat} {U : State} {args : Array Value} (h : th_Ls C n d b U) : (Cond.laysStatic C n d).before args U = true := by
  obtain ⟨c, k, i, f, a, cell, h1, h2, h3, h4, h5, h6, h7, h8, h9, -⟩ := h
  simp [Cond.before, Cond.holds, Cond.value, h1, h2, h3, h4, h5, h6, h7, h8, h9]
theorem th_Ls.of {C n d : String} {b : Nat} {U : State} {args : Array Value} (h : (Cond.laysStatic C n d).before args U = true) (hb : ∀ a : Nat, a < U.heap.size → ¬ b ≤ a) : th_Ls C n d b U := by
  obtain ⟨c, k, i, f, a, cell, h1, h2, h3, h4, h5, h6, h7, h8, h9⟩ := Cond.laysStatic_spec h
  exact ⟨c, k, i, f, a, cell, h1, h2, h3, h4, h5, h6, h7, h8, h9, hb a (Array.getElem?_eq_some_iff.mp h5).1⟩
theorem th_Ls.to {C n d : String} {b : Nat} {u U : State} (h : th_Ls C n d b u) (hvm : u.vm.Alike U.vm) (hk : ∀ a : Nat, a < u.heap.size → ¬ b ≤ a → U.heap[a]? = u.heap[a]?) : th_Ls C n d b U := by
  obtain ⟨c, k, i, f, a, cell, h1, h2, h3, h4, h5, h6, h7, h8, h9, h10⟩ := h
  obtain ⟨k', hi', he⟩ := State.fieldFound?_setVm hvm h2
  exact ⟨c, k', i, f, a, cell, by rw [hvm.findClass]; exact h1, hi', h3, by rw [he]; exact h4, by rw [hk a (Array.getElem?_eq_some_iff.mp h5).1 h10]; exact h5, h6, h7, h8, by rw [he]; exact h9, h10⟩
def th_N (U : State) : Prop := ∃ a c : ClassId, U.vm.findClass "java/lang/IndexOutOfBoundsException" = some a ∧ U.vm.findClass "java/lang/IllegalArgumentException" = some c ∧ U.vm.assignable a c = false
theorem th_N.to {u U : State} (h : th_N u) (hvm : u.vm.Alike U.vm) : th_N U := by
  obtain ⟨a, c, h1, h2, h3⟩ := h
  exact ⟨a, c, by rw [hvm.findClass]; exact h1, by rw [hvm.findClass]; exact h2, by rw [hvm.assignable]; exact h3⟩
theorem th_N.of {U : State} {args : Array Value} {a c : ClassId} (h1 : U.vm.findClass "java/lang/IndexOutOfBoundsException" = some a) (h2 : U.vm.findClass "java/lang/IllegalArgumentException" = some c) (hno : (Cond.not (.castable "java/lang/IndexOutOfBoundsException" "java/lang/IllegalArgumentException")).before args U = true) : th_N U := by
  have hv := Cond.holds_not_iff.mp hno
  simp only [Cond.value, h1, h2] at hv
  exact ⟨a, c, h1, h2, Option.some.inj hv⟩
def th_X (b : Nat) (U : State) : Prop := (∀ w ∈ th_face, w.before #[] U = true) ∧ th_Ls "java/lang/Throwable" "UNASSIGNED_STACK" "[Ljava/lang/StackTraceElement;" b U ∧ th_Ls "java/lang/Throwable" "SUPPRESSED_SENTINEL" "Ljava/util/List;" b U ∧ th_N U
theorem th_X.to {b : Nat} {u U : State} (h : th_X b u) (hW : u.WarmedH U.vm) (hk : ∀ a : Nat, a < u.heap.size → ¬ b ≤ a → U.heap[a]? = u.heap[a]?) : th_X b U := by
  refine ⟨fun w hw => ?_, h.2.1.to hW.alike hk, h.2.2.1.to hW.alike hk, h.2.2.2.to hW.alike⟩
  have hf : w.keepsFace = true ∧ w.onTables = true := by
    have h9 : ∀ w ∈ th_face, w.keepsFace = true ∧ w.onTables = true := by decide +kernel
    exact h9 w hw
  exact va_tabs hf.2 (rfl : (u.setVm U.vm).vm = U.vm) (Cond.before_shiftedFace (args := #[]) (State.Shifted.of_warmed hW) w hf.1 (h.1 w hw))
theorem th_X.same {b : Nat} {u U : State} (h : th_X b u) (hv : u.vm = U.vm) (hh : U.heap = u.heap) : th_X b U := by
  refine ⟨fun w hw => ?_, h.2.1.to (by rw [hv]; exact Vm.Alike.refl _) (fun a _ _ => by rw [hh]), h.2.2.1.to (by rw [hv]; exact Vm.Alike.refl _) (fun a _ _ => by rw [hh]), h.2.2.2.to (by rw [hv]; exact Vm.Alike.refl _)⟩
  have h9 : ∀ w ∈ th_face, w.onTables = true := by decide +kernel
  exact va_tabs (h9 w hw) hv (h.1 w hw)
def th_st1 : Cond := .laysStatic "java/lang/Throwable" "UNASSIGNED_STACK" "[Ljava/lang/StackTraceElement;"
def th_st2 : Cond := .laysStatic "java/lang/Throwable" "SUPPRESSED_SENTINEL" "Ljava/util/List;"
def th_ok (a : Cond) : Prop := (a ∈ lw_tbl ∧ goodWord a = true) ∨ a ∈ th_face ∨ a = th_ref1 ∨ a = th_ref2 ∨ a = th_st1 ∨ a = th_st2
set_option maxRecDepth 100000 in
theorem th_atA : ∀ a ∈ Bundle.ownAtoms "LabelScript" 56 "java/lang/IllegalArgumentException" th_names, (a ∈ lw_tbl ∧ goodWord a = true) ∨ a ∈ th_face ∨ a = th_ref1 ∨ a = th_ref2 ∨ a = th_st1 ∨ a = th_st2 := by decide +kernel
set_option maxRecDepth 100000 in
theorem th_atI : ∀ a ∈ Bundle.ownAtoms "LabelScript" 128 "java/lang/IndexOutOfBoundsException" th_names, (a ∈ lw_tbl ∧ goodWord a = true) ∨ a ∈ th_face ∨ a = th_ref1 ∨ a = th_ref2 ∨ a = th_st1 ∨ a = th_st2 := by decide +kernel
theorem th_ref {C n d : String} {A : Nat → Prop} {s : State} {args : Array Value} (h : va_Zq C n d A s s.heap) : (Cond.isRef (.static C n d)).before args s = true := by
  have key : ∀ v : Value, va_Z C n d v A s s.heap → (Term.static C n d).eval args s none [] s = some v := by
    intro v hz
    obtain ⟨cf, kf, fi, fd, a, cell, h1, h2, h3, h4, h5, h6, h7, h8⟩ := hz
    have hn : s.fieldNamed? C n d true = some (cf, kf, fd.slot) := by simp [State.fieldNamed?, h1, h2]
    simp [Term.eval, hn, h4, h5, h6, h7]
  rcases h with h | ⟨t, h⟩
  · have e := key _ h
    simp [Cond.before, Cond.holds, Cond.value, e, Value.isRef]
  · have e := key _ h
    simp [Cond.before, Cond.holds, Cond.value, e, Value.isRef]
theorem th_htr {l : Launch} {e : Env} (ha : l.admits e) (hfl : l.flags = flags0) : e.platform.stackTraces = false := by
  have h := ha.2.2.2.2.1
  rw [h]
  show l.stackTraces = false
  unfold Launch.stackTraces
  rw [hfl]
  decide +kernel
def tm_FrT (first : State) (o : Outcome) (t : State) (L : List Loc) (k n : Nat) : Prop := (∃ x, o = .threw x) ∧ first.WarmedH t.vm ∧ first.sameButNew ({ t with vm := first.vm } : State) L k n
/-- the end by a throw: the exception is the one new cell, of kind ci; nothing else has changed -/
def tm_Qx (D : va_G) (f : Nat → Nat) (cA : FieldType → ClassId) (b : Nat) (X : tm_X) (ci : Nat) : Array Value → State → Outcome → State → Prop := fun _ st oc t =>
  (oc = .threw (f X.1.length) ∧ va_P D tm_cl (tm_W f cA tm_cl tm_ct (X.1 ++ [.inl ci]) X.2.1 X.2.2.1 X.2.2.2) t.heap ∧ va_F (fun q => b ≤ q) st t) ∧ tm_FrT st oc t [] 1 6
def tm_Mx (y : tm_Y) (fm lo : Nat) (av : List Value) (X : tm_X) (ci : Nat) : Prop :=
  X.1.length + 1 ≤ 1000000 → ∀ (l : Launch), l.flags = flags0 → ∀ (D : va_G) (f : Nat → Nat) (cA : FieldType → ClassId) (b : Nat), MetFree l y.1 (headSpec (tm_ws y) { frames := fm, cells := 1, slots := 6, locals := lo }) (va_Pc (av.map (tm_v f)) (fun U => tm_Pre D f cA b X U ∧ th_X b U)) (fun _ _ _ _ _ => True) (tm_Qx D f cA b X ci)
section THR
variable {p : Program} {l : Launch} {e : Env} {R : Room} {s : State} {m : MethodId} {args : Array Value} {below : List Frame} {meth : Method} {c : Code}
/-- new, dup, a text, the maker, athrow: where nothing has been written yet -/
theorem tm_thr {D : va_G} {f : Nat → Nat} {cA : FieldType → ClassId} {b : Nat} {X : tm_X} {cc : ByteArray} {nL : Nat} {ci ic ix ik i pc : Nat} {q : vw_C} {tx : String} {bs : List Int32} {ls : Array Slot}
    (hx : p.tables.exec = Jvm.exec) (hb : c.code = cc) (hml : c.maxLocals = nL) (hown : s.vm.findClass "LabelScript" = some m.cls) (hts : ∀ w ∈ tm_tb, w.before args s = true) (hlk : meth.locks = false) (hadm : l.admits e) (hfl : l.flags = flags0) (hnoh : c.exceptionTable.isEmpty = true)
    (hK : va_K D tm_cl (tm_tys cA) s) (hP : va_P D tm_cl (tm_W f cA tm_cl tm_ct X.1 X.2.1 X.2.2.1 X.2.2.2) s.heap) (hf : ∀ k, k < 1000000 → f k = b + k) (hlen : X.1.length + 1 ≤ 1000000) (hsz : s.heap.size = b + X.1.length) (hSt : tm_Sta f b s) (hXX : th_X b s)
    (hq : tm_cl[ci]? = some q) (hq0 : q.2.2 = 0) (hat : ∀ a ∈ Bundle.ownAtoms "LabelScript" ic q.1 th_names, th_ok a) (hfit : Bundle.fit q.1 = true) (hlink : Cond.classLink "LabelScript" ix q.1 ∈ tm_tb) (hins : Cond.instantiable q.1 6 ∈ tm_tb) (hini : Cond.initialized q.1 ∈ tm_tb)
    (hi : tm_ss[i]? = some ("LabelScript", ik, tx, bs)) (d0 : decode cc pc = .ok (.new ix, 3)) (d3 : decode cc (pc + 3) = .ok (.dup, 1)) (d4 : decode cc (pc + 3 + 1) = .ok (.ldc ik, 2)) (d6 : decode cc (pc + 3 + 1 + 2) = .ok (.invokespecial ic, 3)) (d9 : decode cc (pc + 3 + 1 + 2 + 3) = .ok (.athrow, 1))
    (hls : ls.size = nL) (hR : 5 < R.frames ∧ 90 ≤ R.locals ∧ 1 ≤ R.cells ∧ 6 ≤ R.slots) :
    W p l e R s m args below meth c s.heap [] 0 0 (fun t => ∃ o, t.status = .running ∧ Ended t below o ∧ tm_Qx D f cA b X ci args s o t) (F0 m pc ls []) := by
  have hfc : s.vm.findClass q.1 = some (D.1 ci) := (hK.1 ci q hq).2.1
  refine W.newcK hx hb hown (hts _ hlink) (hts _ hins) (hts _ hini) rfl d0 (by omega) (by omega) hfc rfl (fun H1 kC hkC e1 z1 o1 => ?_)
  refine lv_dup hx hb d3 rfl ?_
  refine va_ldcS hx hb hown (hSt.2.2.1 i _ hi) d4 ?_
  intro T hT Xs
  have hatoms : ∀ a ∈ Bundle.ownAtoms "LabelScript" ic q.1 th_names, a.before args s = true := by
    intro a ha
    rcases hat a ha with h | h | rfl | rfl | rfl | rfl
    · exact hts _ (List.mem_filter.mpr h)
    · have h9 : ∀ w ∈ th_face, w.onTables = true := by decide +kernel
      exact va_tabs (h9 a h) rfl (hXX.1 a h)
    · exact th_ref hSt.2.2.2.1.2.1
    · exact th_ref hSt.2.2.2.1.2.2
    · exact hXX.2.1.use
    · exact hXX.2.2.1.use
  obtain ⟨U, hst, hrun, hend, hWm, hsame, ce, hce, hoc⟩ := Xs.ctorThrowS hx (th_htr hadm hfl) hown hfit (by decide) hatoms (fun x hx => by cases hx) hfc hkC (by rw [hT]; exact e1) (Nat.le_refl _) (msg := .ref (f (1000101 + i))) rfl (g := F0 m (pc + 3 + 1 + 2) ls [Value.ref (f (1000101 + i)), .ref s.heap.size, .ref s.heap.size]) rfl (by rw [hml]; exact hls) rfl rfl (rest := []) rfl (by rw [hb]; exact d6) (by rw [hb]; exact d9) (fun x hx => by rw [Array.isEmpty_iff.mp hnoh] at hx; cases hx) (by show 2 + 3 < R.frames; omega) (by
      have h8 := lv_room (m := m) (pc := pc) (ls := ls) (rest := []) (st := [Value.ref s.heap.size]) (Nat.le_of_ble_eq_true rfl)
      have h7 : ((Value.ref s.heap.size :: ([] : List Value)).map fun v => v.category).sum = 1 := rfl
      show 2 * (F0 m (pc + 3 + 1 + 2) ls [Value.ref (f (1000101 + i)), .ref s.heap.size, .ref s.heap.size]).monitorRoom + ((Value.ref s.heap.size :: ([] : List Value)).map fun v => v.category).sum + (13 * (2 + 1) + 42) ≤ R.locals
      have h9 : (F0 m (pc + 3 + 1 + 2) ls [Value.ref (f (1000101 + i)), .ref s.heap.size, .ref s.heap.size]).monitorRoom = (F0 m pc ls ([] : List Value)).monitorRoom := rfl
      rw [h9]
      omega) hlk
  have hkeep : ∀ a : Nat, a < s.heap.size → U.heap[a]? = s.heap[a]? := by
    intro a ha
    obtain ⟨cell, hcell⟩ : ∃ cell, s.heap[a]? = some cell := ⟨_, Array.getElem?_eq_getElem ha⟩
    obtain ⟨c', h1, h2, h3, h4⟩ := hsame.2.2.2.2.2 a cell hcell
    have e9 : c'.slots = cell.slots := Array.ext_getElem? fun i => h4 i (by simp)
    have h1 : U.heap[a]? = some c' := h1
    rw [e9] at h2
    rw [h1, hcell, h2]
  refine ⟨U, hst, .threw s.heap.size, hrun, hend, ⟨by rw [hf _ (by omega), hsz], ?_, ?_⟩, ⟨_, rfl⟩, hWm, hsame⟩
  · rw [tm_W_push]
    refine va_P.app (hP.kept fun k z hz => ?_) (fun k z hz => ?_)
    · exact hkeep _ (hP k z hz).lt
    · have hk0 : k < 1 := (List.getElem?_eq_some_iff.mp hz).1
      rw [show k = 0 by omega] at hz
      cases hz
      refine ⟨q, hq, ?_⟩
      rw [hf _ (by omega), ← hsz]
      refine ⟨ce, hce, ?_, hoc.vm, fun k hk => ?_⟩
      · exact Option.some.inj (hoc.cls.symm.trans hfc)
      · rw [hq0] at hk; exact absurd hk (Nat.not_lt_zero k)
  · refine ⟨?_, fun a h1 h2 => hkeep a h1⟩
    have h5 := (Array.getElem?_eq_some_iff.mp hce).1
    omega
end THR
