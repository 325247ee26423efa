/-! where a frame of the small machine stands: machine, launch, environment, room; start, method, arguments, frames below; method and code; tables of the worlds; addresses, kinds of arrays, the first address; the end that is walked to -/
abbrev tm_G : Type := Program × Launch × Env × Room × State × MethodId × Array Value × List Frame × Method × Code × va_G × (Nat → Nat) × (FieldType → ClassId) × Nat × (State → Prop)
def tm_tys (cA : FieldType → ClassId) : List (ClassId × FieldType) := [(cA .int, .int), (cA .long, .long), (cA .byte, .byte)]
def tm_T (Γ : tm_G) (nL cells slots pc : Nat) (lv : List (Option Value)) (st : List Value) (sh : List tm_Sh) (mI : tm_I) (mL : tm_L) (mR : tm_R) : Prop := match Γ with
  | (p, l, e, R, s, m, args, below, meth, c, D, f, cA, b, QQ) => sh.length ≤ 1000000 → s.heap.size + cells = b + sh.length → ∀ (H : Heap) (locs : List Loc) (ls : Array Slot), va_P D tm_cl (tm_W f cA tm_cl tm_ct sh mI mL mR) H → va_S (fun q => b ≤ q) s.heap H locs → tm_has f ls nL lv →
      W p l e R s m args below meth c H locs cells slots QQ (F0 m pc ls (st.map (tm_v f)))
def tm_C (Γ : tm_G) (own : String) (cc : ByteArray) (nL : Nat) : Prop := match Γ with
  | (p, _, _, _, s, m, args, _, meth, c, D, f, cA, b, _) => p.tables.exec = Jvm.exec ∧ c.code = cc ∧ c.maxLocals = nL ∧ s.vm.findClass own = some m.cls ∧ (∀ w ∈ tm_tb, w.before args s = true) ∧ va_K D tm_cl (tm_tys cA) s ∧ (∀ k, k < 1000000 → f k = b + k) ∧ b ≤ s.heap.size ∧ meth.locks = false ∧ tm_Sta f b s
/-- a field by its number in a pool -/
def tm_FOK (own : String) (idx : Nat) (q : Nat × Nat × FieldType) : Prop := ∃ (C : String) (T : u_T) (N : Nat), tm_cl[q.1]? = some (C, T, N) ∧ q.2.1 < N ∧ tm_ct q.1 q.2.1 = q.2.2 ∧ Cond.fieldLink own idx (T q.2.1).1 (T q.2.1).2.1 (T q.2.1).2.2.1 ∈ tm_tb
section TMS
variable {f : Nat → Nat} {cA : FieldType → ClassId} {cl : List vw_C} {ct : Nat → Nat → FieldType} {mI : tm_I} {mL : tm_L} {mR : tm_R}
theorem tm_rl {n k : Nat} {g : Nat → Value} (h : k < n) : ((List.range n).map g)[k]? = some (g k) := by
  rw [List.getElem?_map, List.getElem?_range h]; rfl
theorem tm_setmap {n k : Nat} {g g' : Nat → Value} {v : Value} (hk : k < n) (h1 : g' k = v) (h2 : ∀ j, j ≠ k → g' j = g j) : ((List.range n).map g).set k v = (List.range n).map g' := by
  apply List.ext_getElem?
  intro i
  by_cases hi : k = i
  · subst hi
    rw [List.getElem?_set_self (by simpa using hk), tm_rl hk, h1]
  · rw [List.getElem?_set_ne hi, List.getElem?_map, List.getElem?_map]
    cases hx : (List.range n)[i]? with
    | none => rfl
    | some j =>
      have hj : j = i := by
        obtain ⟨h3, h4⟩ := List.getElem?_eq_some_iff.mp hx
        rw [← h4, List.getElem_range]
      subst hj
      show some (g j) = some (g' j)
      rw [h2 j (Ne.symm hi)]
theorem tm_isI_fv {ty : FieldType} (h : tm_isI ty = true) (o k : Nat) : tm_fv ty mI mL mR o k = .int (mI o k) := by
  cases ty <;> first | rfl | (simp [tm_isI] at h)
theorem tm_isR_fv {ty : FieldType} (h : tm_isR ty = true) (o k : Nat) : tm_fv ty mI mL mR o k = .ref (mR o k) := by
  cases ty <;> first | rfl | (simp [tm_isR] at h)
theorem tm_fits_R {ty : FieldType} (h : tm_isR ty = true) (x : Nat) : fits ty (tm_v f (.ref x)) = true ∧ narrow ty (tm_v f (.ref x)) = tm_v f (.ref x) := by
  cases ty <;> (first | (simp [tm_isR] at h; done) | skip)
  all_goals
    simp only [tm_v]
    split <;> exact ⟨rfl, rfl⟩
theorem tm_put_I {o k ci : Nat} {x : Int32} (hk : k < tm_N cl ci) (hi : tm_isI (ct ci k) = true) : tm_E f cA cl ct (tm_up mI o k x) mL mR o (.inl ci) = .inr (ci, ((List.range (tm_N cl ci)).map fun j => tm_v f (tm_fv (ct ci j) mI mL mR o j)).set k (.int x)) := by
  simp only [tm_E]
  rw [tm_setmap (g' := fun j => tm_v f (tm_fv (ct ci j) (tm_up mI o k x) mL mR o j)) hk]
  · show tm_v f (tm_fv (ct ci k) (tm_up mI o k x) mL mR o k) = .int x
    rw [tm_isI_fv hi, tm_up_eq]; rfl
  · intro j hj
    show tm_v f (tm_fv (ct ci j) (tm_up mI o k x) mL mR o j) = tm_v f (tm_fv (ct ci j) mI mL mR o j)
    simp only [tm_fv, tm_up_k hj]
theorem tm_put_L {o k ci : Nat} {x : Int64} (hk : k < tm_N cl ci) (hi : ct ci k = .long) : tm_E f cA cl ct mI (tm_up mL o k x) mR o (.inl ci) = .inr (ci, ((List.range (tm_N cl ci)).map fun j => tm_v f (tm_fv (ct ci j) mI mL mR o j)).set k (.long x)) := by
  simp only [tm_E]
  rw [tm_setmap (g' := fun j => tm_v f (tm_fv (ct ci j) mI (tm_up mL o k x) mR o j)) hk]
  · show tm_v f (tm_fv (ct ci k) mI (tm_up mL o k x) mR o k) = .long x
    rw [hi]
    simp only [tm_fv, tm_up_eq]; rfl
  · intro j hj
    show tm_v f (tm_fv (ct ci j) mI (tm_up mL o k x) mR o j) = tm_v f (tm_fv (ct ci j) mI mL mR o j)
    simp only [tm_fv, tm_up_k hj]
theorem tm_put_R {o k ci : Nat} {x : Nat} (hk : k < tm_N cl ci) (hi : tm_isR (ct ci k) = true) : tm_E f cA cl ct mI mL (tm_up mR o k x) o (.inl ci) = .inr (ci, ((List.range (tm_N cl ci)).map fun j => tm_v f (tm_fv (ct ci j) mI mL mR o j)).set k (tm_v f (.ref x))) := by
  simp only [tm_E]
  rw [tm_setmap (g' := fun j => tm_v f (tm_fv (ct ci j) mI mL (tm_up mR o k x) o j)) hk]
  · show tm_v f (tm_fv (ct ci k) mI mL (tm_up mR o k x) o k) = tm_v f (.ref x)
    rw [tm_isR_fv hi, tm_up_eq]
  · intro j hj
    show tm_v f (tm_fv (ct ci j) mI mL (tm_up mR o k x) o j) = tm_v f (tm_fv (ct ci j) mI mL mR o j)
    simp only [tm_fv, tm_up_k hj]
theorem tm_arr_I {o k n : Nat} {ty : FieldType} {x : Int32} (hi : tm_isI ty = true) : tm_E f cA cl ct (tm_up mI o k x) mL mR o (.inr (ty, n)) = .inl (cA ty, n, .inl (upd (mI o) k x)) := by
  have e : tm_up mI o k x o = upd (mI o) k x := by
    funext j
    by_cases hj : j = k
    · subst hj
      rw [tm_up_eq, pk_us]
    · rw [tm_up_k hj, pk_un hj]
  cases ty <;> (first | (simp [tm_isI] at hi; done) | (simp only [tm_E, tm_ar]; rw [e]))
theorem tm_arr_L {o k n : Nat} {x : Int64} : tm_E f cA cl ct mI (tm_up mL o k x) mR o (.inr (.long, n)) = .inl (cA .long, n, .inr (.inl (vp_updL (mL o) k x))) := by
  have e : tm_up mL o k x o = vp_updL (mL o) k x := by
    funext j
    by_cases hj : j = k
    · subst hj
      rw [tm_up_eq, pk_uLs]
    · rw [tm_up_k hj, pk_uLn hj]
  simp only [tm_E, tm_ar]
  rw [e]
end TMS
