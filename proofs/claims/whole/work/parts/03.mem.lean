/-! THE SMALL MACHINE: its memory is four things: the kinds of its cells, and what ints, longs and references they hold, by cell and place. A cell's number k stands for the true address f k. -/
abbrev tm_Sh : Type := Nat ⊕ (FieldType × Nat)
abbrev tm_I : Type := Nat → Nat → Int32
abbrev tm_L : Type := Nat → Nat → Int64
abbrev tm_R : Type := Nat → Nat → Nat
/-- the number that stands for null -/
def tm_nul : Nat := 1000000000
def tm_v (f : Nat → Nat) (v : Value) : Value := match v with
  | .ref k => if k = tm_nul then .null else .ref (f k)
  | .int x => .int x
  | .long x => .long x
  | .float x => .float x
  | .double x => .double x
  | .null => .null
  | .retAddr p => .retAddr p
theorem tm_v_cat (f : Nat → Nat) (v : Value) : (tm_v f v).category = v.category := by
  cases v <;> simp only [tm_v]
  split <;> rfl
theorem tm_v_int {f : Nat → Nat} {x : Int32} : tm_v f (.int x) = .int x := rfl
theorem tm_v_long {f : Nat → Nat} {x : Int64} : tm_v f (.long x) = .long x := rfl
theorem tm_v_ref {f : Nat → Nat} {k : Nat} (h : k ≠ tm_nul) : tm_v f (.ref k) = .ref (f k) := by
  simp only [tm_v, if_neg h]
/-- one place of a memory changed -/
def tm_up {α : Type} (g : Nat → Nat → α) (o k : Nat) (x : α) : Nat → Nat → α := fun a b => if a = o ∧ b = k then x else g a b
theorem tm_up_eq {α : Type} (g : Nat → Nat → α) (o k : Nat) (x : α) : tm_up g o k x o k = x := by simp [tm_up]
theorem tm_up_o {α : Type} {g : Nat → Nat → α} {o k a b : Nat} {x : α} (h : a ≠ o) : tm_up g o k x a b = g a b := by simp [tm_up, h]
theorem tm_up_k {α : Type} {g : Nat → Nat → α} {o k a b : Nat} {x : α} (h : b ≠ k) : tm_up g o k x a b = g a b := by simp [tm_up, h]
/-- a field's value by its type -/
def tm_fv (ty : FieldType) (mI : tm_I) (mL : tm_L) (mR : tm_R) (o k : Nat) : Value := match ty with
  | .long => .long (mL o k)
  | .object _ => .ref (mR o k)
  | .array _ => .ref (mR o k)
  | _ => .int (mI o k)
def tm_ar (f : Nat → Nat) (ty : FieldType) (mI : tm_I) (mL : tm_L) (mR : tm_R) (o : Nat) : (Nat → Int32) ⊕ (Nat → Int64) ⊕ (Nat → UInt32) ⊕ (Nat → UInt64) ⊕ (Nat → Option Nat) := match ty with
  | .long => .inr (.inl (mL o))
  | .object _ => .inr (.inr (.inr (.inr fun j => if mR o j = tm_nul then none else some (f (mR o j)))))
  | .array _ => .inr (.inr (.inr (.inr fun j => if mR o j = tm_nul then none else some (f (mR o j)))))
  | _ => .inl (mI o)
def tm_N (cl : List vw_C) (ci : Nat) : Nat := match cl[ci]? with
  | some q => q.2.2
  | none => 0
def tm_E (f : Nat → Nat) (cA : FieldType → ClassId) (cl : List vw_C) (ct : Nat → Nat → FieldType) (mI : tm_I) (mL : tm_L) (mR : tm_R) (o : Nat) (x : tm_Sh) : va_E := match x with
  | .inl ci => .inr (ci, (List.range (tm_N cl ci)).map fun k => tm_v f (tm_fv (ct ci k) mI mL mR o k))
  | .inr y => .inl (cA y.1, y.2, tm_ar f y.1 mI mL mR o)
def tm_W (f : Nat → Nat) (cA : FieldType → ClassId) (cl : List vw_C) (ct : Nat → Nat → FieldType) (sh : List tm_Sh) (mI : tm_I) (mL : tm_L) (mR : tm_R) : va_W := sh.mapIdx fun o x => (f o, tm_E f cA cl ct mI mL mR o x)
section TMW
variable {f : Nat → Nat} {cA : FieldType → ClassId} {cl : List vw_C} {ct : Nat → Nat → FieldType} {sh : List tm_Sh} {mI mI' : tm_I} {mL mL' : tm_L} {mR mR' : tm_R}
theorem tm_W_at {o : Nat} {x : tm_Sh} (h : sh[o]? = some x) : (tm_W f cA cl ct sh mI mL mR)[o]? = some (f o, tm_E f cA cl ct mI mL mR o x) := by
  rw [tm_W, List.getElem?_mapIdx, h]; rfl
theorem tm_W_inv {o : Nat} {q : Nat × va_E} (h : (tm_W f cA cl ct sh mI mL mR)[o]? = some q) : ∃ x, sh[o]? = some x ∧ q = (f o, tm_E f cA cl ct mI mL mR o x) := by
  rw [tm_W, List.getElem?_mapIdx] at h
  cases hx : sh[o]? with
  | none => rw [hx] at h; cases h
  | some x => rw [hx] at h; exact ⟨x, rfl, (Option.some.inj h).symm⟩
theorem tm_W_len : (tm_W f cA cl ct sh mI mL mR).length = sh.length := by rw [tm_W, List.length_mapIdx]
theorem tm_W_set {o : Nat} {x : tm_Sh} {e : va_E} (ho : sh[o]? = some x) (he : tm_E f cA cl ct mI' mL' mR' o x = e) (hn : ∀ o' x', o' ≠ o → tm_E f cA cl ct mI' mL' mR' o' x' = tm_E f cA cl ct mI mL mR o' x') :
    (tm_W f cA cl ct sh mI mL mR).set o (f o, e) = tm_W f cA cl ct sh mI' mL' mR' := by
  apply List.ext_getElem?
  intro i
  by_cases hi : o = i
  · subst hi
    have hl : o < (tm_W f cA cl ct sh mI mL mR).length := by rw [tm_W_len]; exact (List.getElem?_eq_some_iff.mp ho).1
    rw [List.getElem?_set_self hl, tm_W_at ho, he]
  · rw [List.getElem?_set_ne hi]
    cases hx : sh[i]? with
    | none => rw [tm_W, tm_W, List.getElem?_mapIdx, List.getElem?_mapIdx, hx]; rfl
    | some y => rw [tm_W_at hx, tm_W_at hx, hn i y (Ne.symm hi)]
theorem tm_W_push {x : tm_Sh} : tm_W f cA cl ct (sh ++ [x]) mI mL mR = tm_W f cA cl ct sh mI mL mR ++ [(f sh.length, tm_E f cA cl ct mI mL mR sh.length x)] := by
  rw [tm_W, tm_W, List.mapIdx_append]; simp
theorem tm_W_D {b : Nat} (hf : ∀ k, k < 1000000 → f k = b + k) (hs : sh.length ≤ 1000000) : va_D (fun q => b ≤ q) (tm_W f cA cl ct sh mI mL mR) := by
  refine ⟨fun i j p q hi hj hpq => ?_, fun k q hk => ?_⟩
  · obtain ⟨x, hx, rfl⟩ := tm_W_inv hi
    obtain ⟨y, hy, rfl⟩ := tm_W_inv hj
    have h1 := (List.getElem?_eq_some_iff.mp hx).1
    have h2 := (List.getElem?_eq_some_iff.mp hy).1
    have h3 : f i = f j := hpq
    rw [hf i (by omega), hf j (by omega)] at h3
    omega
  · obtain ⟨x, hx, rfl⟩ := tm_W_inv hk
    have h1 := (List.getElem?_eq_some_iff.mp hx).1
    show b ≤ f k
    rw [hf k (by omega)]
    omega
/-- an object's field that holds an int, written -/
theorem tm_E_up_other_I {o k : Nat} {x : Int32} {o' : Nat} {y : tm_Sh} (h : o' ≠ o) : tm_E f cA cl ct (tm_up mI o k x) mL mR o' y = tm_E f cA cl ct mI mL mR o' y := by
  have e : ∀ j, tm_up mI o k x o' j = mI o' j := fun j => tm_up_o h
  cases y with
  | inl ci =>
    simp only [tm_E]
    congr 2
    apply List.map_congr_left
    intro j _
    simp only [tm_fv, e]
  | inr z =>
    simp only [tm_E]
    congr 3
    cases hz : z.1 <;> simp only [tm_ar] <;> congr 1 <;> (funext j; exact e j)
theorem tm_E_up_other_L {o k : Nat} {x : Int64} {o' : Nat} {y : tm_Sh} (h : o' ≠ o) : tm_E f cA cl ct mI (tm_up mL o k x) mR o' y = tm_E f cA cl ct mI mL mR o' y := by
  have e : ∀ j, tm_up mL o k x o' j = mL o' j := fun j => tm_up_o h
  cases y with
  | inl ci =>
    simp only [tm_E]
    congr 2
    apply List.map_congr_left
    intro j _
    simp only [tm_fv, e]
  | inr z =>
    simp only [tm_E]
    congr 3
    cases hz : z.1 <;> simp only [tm_ar]
    congr 2
    funext j
    exact e j
theorem tm_E_up_other_R {o k : Nat} {x : Nat} {o' : Nat} {y : tm_Sh} (h : o' ≠ o) : tm_E f cA cl ct mI mL (tm_up mR o k x) o' y = tm_E f cA cl ct mI mL mR o' y := by
  have e : ∀ j, tm_up mR o k x o' j = mR o' j := fun j => tm_up_o h
  cases y with
  | inl ci =>
    simp only [tm_E]
    congr 2
    apply List.map_congr_left
    intro j _
    simp only [tm_fv, e]
  | inr z =>
    simp only [tm_E]
    congr 3
    cases hz : z.1 <;> simp only [tm_ar, e]
end TMW
