/-! making: a new cell's places hold nothing yet -/
def tm_row {α : Type} (g : Nat → Nat → α) (o : Nat) (x : α) : Nat → Nat → α := fun a j => if a = o then x else g a j
theorem tm_row_o {α : Type} {g : Nat → Nat → α} {o a j : Nat} {x : α} (h : a ≠ o) : tm_row g o x a j = g a j := by simp [tm_row, h]
theorem tm_row_eq {α : Type} {g : Nat → Nat → α} {o j : Nat} {x : α} : tm_row g o x o j = x := by simp [tm_row]
def tm_okT (ty : FieldType) : Bool := match ty with
  | .float => false
  | .double => false
  | _ => true
section TMN
variable {f : Nat → Nat} {cA : FieldType → ClassId} {cl : List vw_C} {ct : Nat → Nat → FieldType} {sh : List tm_Sh} {mI mI' : tm_I} {mL mL' : tm_L} {mR mR' : tm_R}
theorem tm_E_eq {o : Nat} {x : tm_Sh} (h1 : ∀ j, mI' o j = mI o j) (h2 : ∀ j, mL' o j = mL o j) (h3 : ∀ j, mR' o j = mR o j) : tm_E f cA cl ct mI' mL' mR' o x = tm_E f cA cl ct mI mL mR o x := by
  cases x with
  | inl ci =>
    simp only [tm_E]
    congr 2
    apply List.map_congr_left
    intro j _
    simp only [tm_fv, h1, h2, h3]
  | inr z =>
    have e1 : mI' o = mI o := funext h1
    have e2 : mL' o = mL o := funext h2
    have e3 : mR' o = mR o := funext h3
    simp only [tm_E, tm_ar, e1, e2, e3]
theorem tm_W_eq (h : ∀ o x, sh[o]? = some x → tm_E f cA cl ct mI' mL' mR' o x = tm_E f cA cl ct mI mL mR o x) : tm_W f cA cl ct sh mI' mL' mR' = tm_W f cA cl ct sh mI mL mR := by
  apply List.ext_getElem?
  intro i
  cases hx : sh[i]? with
  | none => rw [tm_W, tm_W, List.getElem?_mapIdx, List.getElem?_mapIdx, hx]; rfl
  | some y => rw [tm_W_at hx, tm_W_at hx, h i y hx]
theorem tm_W_new {x : tm_Sh} : tm_W f cA cl ct (sh ++ [x]) (tm_row mI sh.length 0) (tm_row mL sh.length 0) (tm_row mR sh.length tm_nul) = tm_W f cA cl ct sh mI mL mR ++ [(f sh.length, tm_E f cA cl ct (tm_row mI sh.length 0) (tm_row mL sh.length 0) (tm_row mR sh.length tm_nul) sh.length x)] := by
  rw [tm_W_push, tm_W_eq (mI := mI) (mL := mL) (mR := mR)]
  intro o y ho
  have hlt := (List.getElem?_eq_some_iff.mp ho).1
  exact tm_E_eq (fun j => tm_row_o (by omega)) (fun j => tm_row_o (by omega)) (fun j => tm_row_o (by omega))
theorem tm_dflt {ty : FieldType} (h : tm_okT ty = true) {o k : Nat} : defaultValue ty = tm_v f (tm_fv ty (tm_row mI o 0) (tm_row mL o 0) (tm_row mR o tm_nul) o k) := by
  cases ty <;> first | (simp [tm_okT] at h; done) | (simp only [tm_fv, tm_row_eq]; rfl)
end TMN
section TMB
variable {Γ : tm_G} {own : String} {cc : ByteArray} {nL cells slots rf rl rc rs : Nat} {pc idx : Nat} {lv : List (Option Value)} {st : List Value} {sh : List tm_Sh} {mI : tm_I} {mL : tm_L} {mR : tm_R}
theorem tm_newq {b q n : Nat} {f : Nat → Nat} {D : va_G} {cA : FieldType → ClassId} {e0 : va_E} {H1 : Heap} (hf : ∀ k, k < 1000000 → f k = b + k) (hsh : sh.length < 1000000) (hP1 : va_P D tm_cl (tm_W f cA tm_cl tm_ct sh mI mL mR ++ [(q, e0)]) H1) (hD1 : va_D (fun q => b ≤ q) (tm_W f cA tm_cl tm_ct sh mI mL mR ++ [(q, e0)])) (hle : H1.size ≤ n) (hn : n = b + sh.length + 1) : q = f sh.length := by
  have hat : (tm_W f cA tm_cl tm_ct sh mI mL mR ++ [(q, e0)])[sh.length]? = some (q, e0) := by
    rw [List.getElem?_append_right (by rw [tm_W_len]; exact Nat.le_refl _), tm_W_len, Nat.sub_self]; rfl
  have h1 : q < H1.size := (hP1 _ _ hat).lt
  have h2 : b ≤ q := hD1.2 _ _ hat
  rw [hf _ hsh]
  rcases Nat.lt_or_ge (q - b) sh.length with h3 | h3
  · have h4 : (tm_W f cA tm_cl tm_ct sh mI mL mR ++ [(q, e0)])[q - b]? = some (f (q - b), tm_E f cA tm_cl tm_ct mI mL mR (q - b) sh[q - b]) := by
      rw [List.getElem?_append_left (by rw [tm_W_len]; exact h3)]
      exact tm_W_at (List.getElem?_eq_getElem h3)
    have h5 : f (q - b) = q := by rw [hf _ (by omega)]; omega
    have h6 := hD1.1 _ _ _ _ h4 hat h5
    omega
  · omega
/-- new -/
theorem tm_new (C : tm_C Γ own cc nL) (Ro : tm_Ro Γ rf rl rc rs) {ci : Nat} {q : vw_C} (hq : tm_cl[ci]? = some q) (hlink : Cond.classLink own idx q.1 ∈ tm_tb) (hins : Cond.instantiable q.1 q.2.2 ∈ tm_tb) (hini : Cond.initialized q.1 ∈ tm_tb) (hok : ∀ k, k < q.2.2 → tm_okT (tm_ct ci k) = true) (hr : cells + 1 ≤ rc ∧ slots + q.2.2 ≤ rs ∧ sh.length < 1000000) (hd : decode cc pc = .ok (.new idx, 3))
    (k : tm_T Γ nL (cells + 1) (slots + q.2.2) (pc + 3) lv (.ref sh.length :: st) (sh ++ [.inl ci]) (tm_row mI sh.length 0) (tm_row mL sh.length 0) (tm_row mR sh.length tm_nul)) : tm_T Γ nL cells slots pc lv st sh mI mL mR := by
  obtain ⟨p, l, e, R, s, m, args, below, meth, c, D, f, cA, b, QQ⟩ := Γ
  obtain ⟨hx, hb, hml, hown, hts, hK, hf, hbs, hlk, hSt⟩ := C
  obtain ⟨r1, r2, r3, r4⟩ := Ro
  obtain ⟨g1, g2, g3⟩ := hr
  obtain ⟨C, T, N⟩ := q
  obtain ⟨hw, hty, hnm⟩ := tm_cl_ok _ _ hq
  intro hsh hsz H locs ls hP hS hl
  have hN : tm_N tm_cl ci = N := by simp only [tm_N, hq]
  refine va_new (D := D) (ci := ci) (fs := (List.range (tm_N tm_cl ci)).map fun k => tm_v f (tm_fv (tm_ct ci k) (tm_row mI sh.length 0) (tm_row mL sh.length 0) (tm_row mR sh.length tm_nul) sh.length k)) hx hb hts hw (tm_ct ci) hty hown (hts _ hlink) (hts _ hins) (hts _ hini) hK hP (tm_W_D hf hsh) hS (fun z hz => Nat.le_trans hbs hz) hq (fun j hj => ?_) (by rw [r3]; exact g1) (by rw [r4]; exact g2) hd (fun z H1 hP1 hD1 hS1 => ?_)
  · rw [vp_V, List.getD_eq_getElem?_getD, tm_rl (by rw [hN]; exact hj), tm_dflt (hok j hj)]; rfl
  · refine tm_hle fun hle => ?_
    have hz := tm_newq hf g3 hP1 hD1 hle (by omega)
    subst hz
    have e9 := tm_W_new (f := f) (cA := cA) (cl := tm_cl) (ct := tm_ct) (sh := sh) (mI := mI) (mL := mL) (mR := mR) (x := .inl ci)
    have hP2 : va_P D tm_cl (tm_W f cA tm_cl tm_ct (sh ++ [.inl ci]) (tm_row mI sh.length 0) (tm_row mL sh.length 0) (tm_row mR sh.length tm_nul)) H1 := by
      rw [e9]; exact hP1
    have k1 := k (by rw [List.length_append]; show sh.length + 1 ≤ _; omega) (by rw [List.length_append]; show _ = b + (sh.length + 1); omega) H1 locs ls hP2 hS1 hl
    rw [tm_map_v, tm_v_ref (by have h2 : tm_nul = 1000000000 := rfl; omega)] at k1
    exact k1
/-- new arrays of ints and of longs -/
theorem tm_newI (C : tm_C Γ own cc nL) (Ro : tm_Ro Γ rf rl rc rs) {n : Int32} {N : Nat} (ha : Cond.arrayClass .int ∈ tm_tb) (hn : ¬ n < 0) (hN : n.toNatClampNeg = N) (hbt : N ≤ 1000000) (hr : cells + 1 ≤ rc ∧ slots + N ≤ rs ∧ sh.length < 1000000) (hd : decode cc pc = .ok (.newarray .int, 2))
    (k : tm_T Γ nL (cells + 1) (slots + N) (pc + 2) lv (.ref sh.length :: st) (sh ++ [.inr (.int, N)]) (tm_row mI sh.length 0) (tm_row mL sh.length 0) (tm_row mR sh.length tm_nul)) : tm_T Γ nL cells slots pc lv (.int n :: st) sh mI mL mR := by
  obtain ⟨p, l, e, R, s, m, args, below, meth, c, D, f, cA, b, QQ⟩ := Γ
  obtain ⟨hx, hb, hml, hown, hts, hK, hf, hbs, hlk, hSt⟩ := C
  obtain ⟨r1, r2, r3, r4⟩ := Ro
  obtain ⟨g1, g2, g3⟩ := hr
  intro hsh hsz H locs ls hP hS hl
  have hbytes : N * componentBytes .int ≤ 536870912 := by
    have h4 : componentBytes .int = 4 := rfl
    rw [h4]
    omega
  refine va_newa (atype := .int) (ty := .int) (a0 := (N, .inl fun _ => 0)) hx hb (hts _ ha) rfl hK hP (tm_W_D hf hsh) hS (fun z hz => Nat.le_trans hbs hz) (fun _ => rfl) hn hN hbytes (by rw [r3]; exact g1) (by rw [r4]; exact g2) hd (fun z cB H1 hK1 hP1 hD1 hS1 => ?_)
  refine tm_hle fun hle => ?_
  have hz := tm_newq hf g3 hP1 hD1 hle (by omega)
  subst hz
  have hcA : cB = cA .int := by
    have a1 : s.vm.findClass ("[" ++ (FieldType.int).toString) = some cB := (hK1.2 3 _ rfl).2
    have a2 : s.vm.findClass ("[" ++ (FieldType.int).toString) = some (cA .int) := (hK.2 0 _ rfl).2
    exact Option.some.inj (a1.symm.trans a2)
  subst hcA
  have e9 := tm_W_new (f := f) (cA := cA) (cl := tm_cl) (ct := tm_ct) (sh := sh) (mI := mI) (mL := mL) (mR := mR) (x := .inr (.int, N))
  have e8 : tm_E f cA tm_cl tm_ct (tm_row mI sh.length 0) (tm_row mL sh.length 0) (tm_row mR sh.length tm_nul) sh.length (.inr (.int, N)) = .inl (cA .int, N, .inl fun _ => 0) := by
    simp only [tm_E, tm_ar]
    congr 3
    congr 1
    funext j
    exact tm_row_eq
  have hP2 : va_P D tm_cl (tm_W f cA tm_cl tm_ct (sh ++ [.inr (.int, N)]) (tm_row mI sh.length 0) (tm_row mL sh.length 0) (tm_row mR sh.length tm_nul)) H1 := by
    rw [e9, e8]; exact hP1
  have k1 := k (by rw [List.length_append]; show sh.length + 1 ≤ _; omega) (by rw [List.length_append]; show _ = b + (sh.length + 1); omega) H1 locs ls hP2 hS1 hl
  rw [tm_map_v, tm_v_ref (by have h2 : tm_nul = 1000000000 := rfl; omega)] at k1
  exact k1
theorem tm_newL (C : tm_C Γ own cc nL) (Ro : tm_Ro Γ rf rl rc rs) {n : Int32} {N : Nat} (ha : Cond.arrayClass .long ∈ tm_tb) (hn : ¬ n < 0) (hN : n.toNatClampNeg = N) (hbt : N ≤ 1000000) (hr : cells + 1 ≤ rc ∧ slots + N ≤ rs ∧ sh.length < 1000000) (hd : decode cc pc = .ok (.newarray .long, 2))
    (k : tm_T Γ nL (cells + 1) (slots + N) (pc + 2) lv (.ref sh.length :: st) (sh ++ [.inr (.long, N)]) (tm_row mI sh.length 0) (tm_row mL sh.length 0) (tm_row mR sh.length tm_nul)) : tm_T Γ nL cells slots pc lv (.int n :: st) sh mI mL mR := by
  obtain ⟨p, l, e, R, s, m, args, below, meth, c, D, f, cA, b, QQ⟩ := Γ
  obtain ⟨hx, hb, hml, hown, hts, hK, hf, hbs, hlk, hSt⟩ := C
  obtain ⟨r1, r2, r3, r4⟩ := Ro
  obtain ⟨g1, g2, g3⟩ := hr
  intro hsh hsz H locs ls hP hS hl
  have hbytes : N * componentBytes .long ≤ 536870912 := by
    have h4 : componentBytes .long = 8 := rfl
    rw [h4]
    omega
  refine va_newa (atype := .long) (ty := .long) (a0 := (N, .inr (.inl fun _ => 0))) hx hb (hts _ ha) rfl hK hP (tm_W_D hf hsh) hS (fun z hz => Nat.le_trans hbs hz) (fun _ => rfl) hn hN hbytes (by rw [r3]; exact g1) (by rw [r4]; exact g2) hd (fun z cB H1 hK1 hP1 hD1 hS1 => ?_)
  refine tm_hle fun hle => ?_
  have hz := tm_newq hf g3 hP1 hD1 hle (by omega)
  subst hz
  have hcA : cB = cA .long := by
    have a1 : s.vm.findClass ("[" ++ (FieldType.long).toString) = some cB := (hK1.2 3 _ rfl).2
    have a2 : s.vm.findClass ("[" ++ (FieldType.long).toString) = some (cA .long) := (hK.2 1 _ rfl).2
    exact Option.some.inj (a1.symm.trans a2)
  subst hcA
  have e9 := tm_W_new (f := f) (cA := cA) (cl := tm_cl) (ct := tm_ct) (sh := sh) (mI := mI) (mL := mL) (mR := mR) (x := .inr (.long, N))
  have e8 : tm_E f cA tm_cl tm_ct (tm_row mI sh.length 0) (tm_row mL sh.length 0) (tm_row mR sh.length tm_nul) sh.length (.inr (.long, N)) = .inl (cA .long, N, .inr (.inl fun _ => 0)) := by
    simp only [tm_E, tm_ar]
    congr 3
    congr 2
    funext j
    exact tm_row_eq
  have hP2 : va_P D tm_cl (tm_W f cA tm_cl tm_ct (sh ++ [.inr (.long, N)]) (tm_row mI sh.length 0) (tm_row mL sh.length 0) (tm_row mR sh.length tm_nul)) H1 := by
    rw [e9, e8]; exact hP1
  have k1 := k (by rw [List.length_append]; show sh.length + 1 ≤ _; omega) (by rw [List.length_append]; show _ = b + (sh.length + 1); omega) H1 locs ls hP2 hS1 hl
  rw [tm_map_v, tm_v_ref (by have h2 : tm_nul = 1000000000 := rfl; omega)] at k1
  exact k1
end TMB
