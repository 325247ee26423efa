/-! contracts: a method with its arguments over a memory; what it answers, and the memory behind it -/
abbrev tm_X : Type := List tm_Sh × tm_I × tm_L × tm_R
def tm_Pre (D : va_G) (f : Nat → Nat) (cA : FieldType → ClassId) (b : Nat) (X : tm_X) (U : State) : Prop :=
  U.heap.size = b + X.1.length ∧ X.1.length ≤ 1000000 ∧ va_P D tm_cl (tm_W f cA tm_cl tm_ct X.1 X.2.1 X.2.2.1 X.2.2.2) U.heap ∧ va_K D tm_cl (tm_tys cA) U ∧ (∀ k, k < 1000000 → f k = b + k) ∧ tm_Sta f b U
def tm_Qc (D : va_G) (f : Nat → Nat) (cA : FieldType → ClassId) (b n1 : Nat) (Q : Option Value → tm_X → Prop) : Array Value → State → Outcome → State → Prop := fun _ st oc t =>
  (∃ (v : Option Value) (X : tm_X), oc = .returned (v.map (tm_v f)) ∧ Q v X ∧ X.1.length = n1 ∧ va_P D tm_cl (tm_W f cA tm_cl tm_ct X.1 X.2.1 X.2.2.1 X.2.2.2) t.heap) ∧ va_F (fun q => b ≤ q) st t
abbrev tm_Y : Type := MethodName × ByteArray × Nat × Option FieldType
abbrev tm_ws (y : tm_Y) : List Cond := Cond.code y.1 y.2.1 y.2.2.1 y.2.2.2 :: tm_tb
/-- y, called with av over X, ends with Q; it takes fm frames and lo words more, and makes mc cells of ms places -/
def tm_M (y : tm_Y) (fm lo mc ms : Nat) (av : List Value) (X : tm_X) (Q : Option Value → tm_X → Prop) : Prop :=
  X.1.length + mc ≤ 1000000 → ∀ (l : Launch) (D : va_G) (f : Nat → Nat) (cA : FieldType → ClassId) (b : Nat), Met l y.1 (tm_ws y) { frames := fm, cells := mc, slots := ms, locals := lo } (va_Pc (av.map (tm_v f)) (tm_Pre D f cA b X)) (tm_Qc D f cA b (X.1.length + mc) Q) mc ms (fun q => b ≤ q)
def tm_sl : List Value → List (Option Value)
  | [] => []
  | v :: vs => if v.category = 2 then some v :: none :: tm_sl vs else some v :: tm_sl vs
def tm_lv0 (nL : Nat) (av : List Value) : List (Option Value) := tm_sl av ++ List.replicate (nL - (tm_sl av).length) none
theorem tm_sl_len (f : Nat → Nat) (av : List Value) : (lg_sl (av.map (tm_v f))).length = (tm_sl av).length := by
  induction av with
  | nil => rfl
  | cons v vs ih =>
    have e : lg_sl ((v :: vs).map (tm_v f)) = (if (tm_v f v).category = 2 then [Slot.val (tm_v f v), Slot.second] else [Slot.val (tm_v f v)]) ++ lg_sl (vs.map (tm_v f)) := rfl
    rw [e, tm_v_cat]
    simp only [tm_sl]
    split <;> simp [ih]
theorem tm_sl_args (f : Nat → Nat) : ∀ (av : List Value) (i0 j : Nat) (v : Value), (tm_sl av)[j]? = some (some v) → (i0 + j, tm_v f v) ∈ lv_args i0 (av.map (tm_v f))
  | [], _, _, _, h => by simp [tm_sl] at h
  | w :: vs, i0, j, v, h => by
    simp only [List.map_cons, lv_args, tm_v_cat]
    simp only [tm_sl] at h
    split at h
    · rename_i hc
      rw [if_pos hc]
      match j, h with
      | 0, h =>
        simp at h
        subst h
        exact List.mem_cons_self
      | 1, h => simp at h
      | j + 2, h =>
        have h1 : (tm_sl vs)[j]? = some (some v) := by simpa using h
        have h2 := tm_sl_args f vs (i0 + 2) j v h1
        rw [show i0 + (j + 2) = i0 + 2 + j by omega]
        exact List.mem_cons_of_mem _ h2
    · rename_i hc
      rw [if_neg hc]
      match j, h with
      | 0, h =>
        simp at h
        subst h
        exact List.mem_cons_self
      | j + 1, h =>
        have h1 : (tm_sl vs)[j]? = some (some v) := by simpa using h
        have h2 := tm_sl_args f vs (i0 + 1) j v h1
        rw [show i0 + (j + 1) = i0 + 1 + j by omega]
        exact List.mem_cons_of_mem _ h2
theorem tm_lv0_has (f : Nat → Nat) {nL : Nat} {av : List Value} (h : (tm_sl av).length ≤ nL) : tm_has f ((lg_sl (av.map (tm_v f)) ++ List.replicate (nL - (lg_sl (av.map (tm_v f))).length) Slot.unset).toArray) nL (tm_lv0 nL av) := by
  have h0 := lv_entry (av.map (tm_v f)) (n := nL) (by rw [tm_sl_len]; exact h)
  refine ⟨h0.1, h0.2.1, by simp [tm_lv0]; omega, fun i v hi => ?_⟩
  have hi2 : (tm_sl av)[i]? = some (some v) := by
    unfold tm_lv0 at hi
    by_cases hl : i < (tm_sl av).length
    · rw [List.getElem?_append_left hl] at hi
      exact hi
    · rw [List.getElem?_append_right (by omega)] at hi
      have h9 := List.mem_of_getElem? hi
      have h8 := (List.mem_replicate.mp h9).2
      cases h8
  have h3 := tm_sl_args f av 0 i v hi2
  rw [Nat.zero_add] at h3
  exact h0.2.2 _ h3
theorem tm_hsz {D : va_G} {f : Nat → Nat} {cA : FieldType → ClassId} {b : Nat} {sh : List tm_Sh} {mI : tm_I} {mL : tm_L} {mR : tm_R} {s : State} {H : Heap} {locs : List Loc} (hP : va_P D tm_cl (tm_W f cA tm_cl tm_ct sh mI mL mR) H) (hS : va_S (fun q => b ≤ q) s.heap H locs) (hf : ∀ k, k < 1000000 → f k = b + k) (hbs : b ≤ s.heap.size) (hsh : sh.length ≤ 1000000) : b + sh.length ≤ H.size := by
  cases hn : sh.length with
  | zero => exact Nat.le_trans hbs hS.1
  | succ n =>
    have hlt : n < sh.length := by omega
    have h1 : sh[n]? = some sh[n] := List.getElem?_eq_getElem hlt
    have h2 := (hP n _ (tm_W_at h1)).lt
    have h3 : f n < H.size := h2
    rw [hf n (by omega)] at h3
    omega
theorem tm_hle {p : Program} {l : Launch} {e : Env} {R : Room} {s : State} {m : MethodId} {args : Array Value} {below : List Frame} {meth : Method} {c : Code} {H : Heap} {locs : List Loc} {cells slots : Nat} {Q : State → Prop} {g : JFrame} (k : H.size ≤ s.heap.size + cells → W p l e R s m args below meth c H locs cells slots Q g) : W p l e R s m args below meth c H locs cells slots Q g := by
  intro T hT X
  have h := X.heapSize
  rw [hT] at h
  exact k h T hT X
/-- a body's context -/
def tm_Γ (y : tm_Y) (fm lo mc ms : Nat) (av : List Value) (X : tm_X) (Q : Option Value → tm_X → Prop) (Γ : tm_G) : Prop := match Γ with
  | (_, _, _, R, s, _, args, below, meth, _, D, f, cA, b, QQ) => R = { frames := fm, cells := mc, slots := ms, locals := lo } ∧ args = (av.map (tm_v f)).toArray ∧ meth.sig.returnType = y.2.2.2 ∧ meth.name = y.1.name ∧ s.heap.size = b + X.1.length ∧ QQ = MQ below (tm_Qc D f cA b (X.1.length + mc) Q) args s mc ms (fun q => b ≤ q)
/-- A CONTRACT OUT OF A BODY -/
theorem tm_body {y : tm_Y} {fm lo mc ms : Nat} {av : List Value} {X : tm_X} {Q : Option Value → tm_X → Prop} (hy : plainName y.1.cls = true) (hav : (tm_sl av).length ≤ y.2.2.1)
    (k : ∀ Γ : tm_G, tm_C Γ y.1.cls y.2.1 y.2.2.1 → tm_Γ y fm lo mc ms av X Q Γ → tm_T Γ y.2.2.1 0 0 0 (tm_lv0 y.2.2.1 av) [] X.1 X.2.1 X.2.2.1 X.2.2.2) : tm_M y fm lo mc ms av X Q := by
  intro hlen l D f cA b
  refine Met.ofW (cc := y.2.1) (maxL := y.2.2.1) (ret := y.2.2.2) hy rfl ?_
  intro p e s m args below meth c s₁ B hml hv
  obtain ⟨hargs, hsz, hl6, hP, hK, hf, hSt⟩ := hv
  have hts := atoms_spec (ws := tm_ws y) B.pre
  have hown : s.vm.findClass y.1.cls = some m.cls := findClass_of_methodNamed B.named
  have hname : meth.name = y.1.name := (name_of_methodNamed B.named B.method).1
  have hC : tm_C (p, l, e, (headSpec (tm_ws y) { frames := fm, cells := mc, slots := ms, locals := lo }).room, s, m, args, below, meth, c, D, f, cA, b, MQ below (tm_Qc D f cA b (X.1.length + mc) Q) args s mc ms (fun q => b ≤ q)) y.1.cls y.2.1 y.2.2.1 :=
    ⟨B.exec, B.bytes, hml, hown, fun w hw => hts w (List.mem_cons_of_mem _ hw), hK, hf, by omega, B.notSynchronized, hSt⟩
  have hT := k _ hC ⟨rfl, hargs, B.returns, hname, hsz, rfl⟩ hl6 (by omega) s.heap []
  rw [hargs, lg_entry_eq]
  rw [hargs] at hT
  exact hT _ hP va_S.rf (tm_lv0_has f hav)
section TMV
variable {y : tm_Y} {fm lo mc ms : Nat} {av : List Value} {X : tm_X} {Q : Option Value → tm_X → Prop} {Γ : tm_G} {pc slots : Nat} {lv : List (Option Value)} {sh : List tm_Sh} {mI : tm_I} {mL : tm_L} {mR : tm_R}
/-- the end of a method without an answer -/
theorem tm_retv (C : tm_C Γ y.1.cls y.2.1 y.2.2.1) (G : tm_Γ y fm lo mc ms av X Q Γ) (hr : y.2.2.2 = none) (hs : slots ≤ ms) (hq : Q none (sh, mI, mL, mR)) (hd : decode y.2.1 pc = .ok (.return_, 1)) : tm_T Γ y.2.2.1 mc slots pc lv [] sh mI mL mR := by
  obtain ⟨p, l, e, R, s, m, args, below, meth, c, D, f, cA, b, QQ⟩ := Γ
  obtain ⟨hx, hb, hml, hown, hts, hK, hf, hbs, hlk, hSt⟩ := C
  obtain ⟨hR, hargs, hret, hname, hsz0, hQQ⟩ := G
  intro hsh hsz H locs ls hP hS hl
  rw [hQQ]
  refine W.widen (Nat.le_refl mc) hs ?_
  exact W.vret hx hb (hret.trans hr) (fun t ht hW => ⟨⟨none, (sh, mI, mL, mR), rfl, hq, by show sh.length = _; omega, by rw [ht]; exact hP⟩, hS.F ht⟩) hS.2.2 hd hlk
theorem tm_reti (C : tm_C Γ y.1.cls y.2.1 y.2.2.1) (G : tm_Γ y fm lo mc ms av X Q Γ) {x : Int32} {ty : FieldType} (hr : y.2.2.2 = some ty) (hn : narrow ty (.int x) = .int x) (hs : slots ≤ ms) (hq : Q (some (.int x)) (sh, mI, mL, mR)) (hd : decode y.2.1 pc = .ok (.ireturn, 1)) : tm_T Γ y.2.2.1 mc slots pc lv [.int x] sh mI mL mR := by
  obtain ⟨p, l, e, R, s, m, args, below, meth, c, D, f, cA, b, QQ⟩ := Γ
  obtain ⟨hx, hb, hml, hown, hts, hK, hf, hbs, hlk, hSt⟩ := C
  obtain ⟨hR, hargs, hret, hname, hsz0, hQQ⟩ := G
  intro hsh hsz H locs ls hP hS hl
  rw [hQQ]
  refine W.widen (Nat.le_refl mc) hs ?_
  exact W.zret hx hb (hret.trans hr) hn (fun t ht hW => ⟨⟨some (.int x), (sh, mI, mL, mR), rfl, hq, by show sh.length = _; omega, by rw [ht]; exact hP⟩, hS.F ht⟩) hS.2.2 hd hlk
theorem tm_retl (C : tm_C Γ y.1.cls y.2.1 y.2.2.1) (G : tm_Γ y fm lo mc ms av X Q Γ) {x : Int64} (hr : y.2.2.2 = some .long) (hs : slots ≤ ms) (hq : Q (some (.long x)) (sh, mI, mL, mR)) (hd : decode y.2.1 pc = .ok (.lreturn, 1)) : tm_T Γ y.2.2.1 mc slots pc lv [.long x] sh mI mL mR := by
  obtain ⟨p, l, e, R, s, m, args, below, meth, c, D, f, cA, b, QQ⟩ := Γ
  obtain ⟨hx, hb, hml, hown, hts, hK, hf, hbs, hlk, hSt⟩ := C
  obtain ⟨hR, hargs, hret, hname, hsz0, hQQ⟩ := G
  intro hsh hsz H locs ls hP hS hl
  rw [hQQ]
  refine W.widen (Nat.le_refl mc) hs ?_
  exact W.lret hx hb (hret.trans hr) (fun t ht hW => ⟨⟨some (.long x), (sh, mI, mL, mR), rfl, hq, by show sh.length = _; omega, by rw [ht]; exact hP⟩, hS.F ht⟩) hS.2.2 hd hlk
theorem tm_reta (C : tm_C Γ y.1.cls y.2.1 y.2.2.1) (G : tm_Γ y fm lo mc ms av X Q Γ) {x : Nat} {ty : FieldType} (hr : y.2.2.2 = some ty) (hrt : (∃ n, ty = .object n) ∨ ∃ t, ty = .array t) (hs : slots ≤ ms) (hq : Q (some (.ref x)) (sh, mI, mL, mR)) (hd : decode y.2.1 pc = .ok (.areturn, 1)) : tm_T Γ y.2.2.1 mc slots pc lv [.ref x] sh mI mL mR := by
  obtain ⟨p, l, e, R, s, m, args, below, meth, c, D, f, cA, b, QQ⟩ := Γ
  obtain ⟨hx, hb, hml, hown, hts, hK, hf, hbs, hlk, hSt⟩ := C
  obtain ⟨hR, hargs, hret, hname, hsz0, hQQ⟩ := G
  intro hsh hsz H locs ls hP hS hl
  rw [hQQ]
  refine W.widen (Nat.le_refl mc) hs ?_
  refine W.aret hx hb (hret.trans hr) hrt ?_ (fun t ht hW => ⟨⟨some (.ref x), (sh, mI, mL, mR), rfl, hq, by show sh.length = _; omega, by rw [ht]; exact hP⟩, hS.F ht⟩) hS.2.2 hd hlk
  rcases tm_ref_cases f x with h | h
  · exact Or.inl h
  · exact Or.inr ⟨_, h⟩
end TMV
