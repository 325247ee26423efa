/-! what the Statement gives at the law's start -/
def ws_F : List Cond := flatC (Jvm.Cond.and given_1 narrow_1)
def ws_ta : List Nat := [9, 15, 21, 30, 39, 45, 60, 66, 81, 96, 108, 123, 135, 147, 153]
def ws_tl : List Nat := [503, 505, 507, 509, 511, 513, 515, 517, 519, 521, 523, 525, 527, 529, 531]
def ws_sb : List Nat := [180, 187, 213, 225, 247, 273, 300]
def ws_sr : List Nat := [394, 482, 678, 845, 878, 891, 905]
def ws_nx : List Nat := [89, 147, 153, 168, 174, 211, 218, 257, 260, 563, 660, 677, 679, 688, 754, 930]
def ws_fx : List Nat := [809, 811, 813, 807, 898]
def ws_cx : List Nat := [80, 210, 152, 259, 146, 167, 94, 88, 173, 932, 806, 897]
def ws_tw (q : String × List Int32) : List Cond := [.isRef (.static "LabelScript$Numbers" q.1 "[I"), .arrayOf (.static "LabelScript$Numbers" q.1 "[I") .int, .eq (.length (.static "LabelScript$Numbers" q.1 "[I")) (.int (Int32.ofNat q.2.length))] ++ (List.range q.2.length).map fun k => .eq (.elem (.static "LabelScript$Numbers" q.1 "[I") (.int (Int32.ofNat k))) (.int (q.2.getD k 0))
def ws_tm (i : Nat) : Term := match tm_ss[i]? with
  | some q => .string q.1 q.2.1
  | none => .int 0
def ws_sw (i : Nat) : List Cond := [.exactly (ws_tm i) "java/lang/String", .eq (.field (ws_tm i) "java/lang/String" "coder" "B") (.int 0), .arrayOf (.field (ws_tm i) "java/lang/String" "value" "[B") .byte, .eq (.length (.field (ws_tm i) "java/lang/String" "value" "[B")) (.int (Int32.ofNat (tm_slen.getD i 0)))] ++ ((List.range (tm_slen.getD i 0)).map (fun j => .eq (.elem (.field (ws_tm i) "java/lang/String" "value" "[B") (.int (Int32.ofNat j))) (.int ((tm_sbyt.getD i []).getD j 0))) ++ (List.range i).map fun k => .not (.eq (ws_tm k) (ws_tm i)))
set_option maxRecDepth 100000 in
theorem ws_t1 : ∀ j, j < 15 → ((tm_sa[j]?).map fun q => decide (q.2.length < 2147483648 ∧ lw_tbl[ws_tl.getD j 0]? = some (Cond.laysStatic "LabelScript$Numbers" q.1 "[I") ∧ (ws_F.drop (ws_ta.getD j 0)).take (ws_tw q).length = ws_tw q)) = some true := by decide +kernel
set_option maxRecDepth 100000 in
theorem ws_s1 : ∀ i, i < 7 → tm_slen.getD i 0 < 2147483648 ∧ (ws_F.drop (ws_sb.getD i 0)).take (ws_sw i).length = ws_sw i := by decide +kernel
set_option maxRecDepth 100000 in
theorem ws_s4 : ∀ i, i < 7 → ((tm_ss[i]?).map fun q => decide (lw_tbl[ws_sr.getD i 0]? = some (Cond.stringRef q.1 q.2.1 q.2.2.1))) = some true := by decide +kernel
set_option maxRecDepth 100000 in
theorem ws_n0 : ∀ i, i < 16 → ((tm_nw[i]?).map fun q => decide (lw_tbl[ws_nx.getD i 0]? = some (Cond.methodLinkNest q.1 q.2.1 q.2.2.1 q.2.2.2))) = some true := by decide +kernel
set_option maxRecDepth 100000 in
theorem ws_x0 : ∀ i, i < 5 → ((th_face[i]?).map fun w => decide (lw_tbl[ws_fx.getD i 0]? = some w ∧ w.onTables = true)) = some true := by decide +kernel
set_option maxRecDepth 100000 in
theorem ws_k0 : ∀ k, k < 12 → ((tm_cl[k]?).map fun q => decide (lw_tbl[ws_cx.getD k 0]? = some (Cond.instantiable q.1 ([8, 8, 1, 2, 1, 11, 4, 8, 9, 40, 6, 6].getD k 0)))) = some true := by decide +kernel
theorem ws_dec {α : Type} {P : α → Bool} {o : Option α} {q : α} (h : o.map P = some true) (hq : o = some q) : P q = true := by
  subst hq
  exact Option.some.inj h
theorem ws_sub {l w : List Cond} {a n : Nat} (h : (l.drop a).take n = w) {c : Cond} (hc : c ∈ w) : c ∈ l := by
  rw [← h] at hc
  exact List.mem_of_mem_drop (List.mem_of_mem_take hc)
theorem ws_n1 : ∀ q ∈ tm_nw, Cond.methodLinkNest q.1 q.2.1 q.2.2.1 q.2.2.2 ∈ lw_tbl := by
  intro q hq
  obtain ⟨i, hi, rfl⟩ := List.mem_iff_getElem.mp hq
  have h0 := ws_dec (ws_n0 i hi) (List.getElem?_eq_getElem hi)
  have h := of_decide_eq_true h0
  exact List.mem_of_getElem? h
theorem ws_x1 : ∀ w ∈ th_face, w ∈ lw_tbl ∧ w.onTables = true := by
  intro w hw
  obtain ⟨i, hi, rfl⟩ := List.mem_iff_getElem.mp hw
  have h0 := ws_dec (ws_x0 i hi) (List.getElem?_eq_getElem hi)
  have h := of_decide_eq_true h0
  exact ⟨List.mem_of_getElem? h.1, h.2⟩
theorem ws_h (i : Nat) {w : Cond} (h : ws_F[i]? = some w) : w ∈ ws_F := List.mem_of_getElem? h
theorem ws_g (i : Nat) {w : Cond} (h : lw_tbl[i]? = some w) : w ∈ lw_tbl := List.mem_of_getElem? h
section WSS
variable {args : Array Value} {s : State}
theorem ws_A : ∀ a : Nat, a < s.heap.size → ¬ (fun a : Nat => s.heap.size ≤ a) a := fun _ h => Nat.not_le.mpr h
theorem ws_tab (hts : ∀ w ∈ lw_tbl, w.before args s = true) (hgv : ∀ c ∈ ws_F, c.before args s = true) (j : Nat) (q : String × List Int32) (hq : tm_sa[j]? = some q) : ∃ t : Nat, va_Z "LabelScript$Numbers" q.1 "[I" (.ref t) (fun a => s.heap.size ≤ a) s s.heap ∧ va_T .int t q.2.length (fun k => .int (q.2.getD k 0)) (fun a => s.heap.size ≤ a) s s.heap := by
  have hj : j < 15 := (List.getElem?_eq_some_iff.mp hq).1
  have h0 := ws_dec (ws_t1 j hj) hq
  obtain ⟨a0, a1, a2⟩ := of_decide_eq_true h0
  have hel : ∀ k, k < q.2.length → Cond.eq (.elem (.static "LabelScript$Numbers" q.1 "[I") (.int (Int32.ofNat k))) (.int (q.2.getD k 0)) ∈ ws_tw q := fun k hk => List.mem_append_right _ (List.mem_map.mpr ⟨k, List.mem_range.mpr hk, rfl⟩)
  obtain ⟨t, ht, hT⟩ := va_Tof (f := fun k => .int (q.2.getD k 0)) (A := fun a => s.heap.size ≤ a) (tm := .static "LabelScript$Numbers" q.1 "[I") (ty := .int) (N := q.2.length) a0 (hgv _ (ws_sub a2 (List.mem_append_left _ (List.mem_cons_of_mem _ List.mem_cons_self)))) (va_eqt (hgv _ (ws_sub a2 (List.mem_append_left _ (List.mem_cons_of_mem _ (List.mem_cons_of_mem _ List.mem_cons_self)))))) (fun k hk => va_eqt (hgv _ (ws_sub a2 (hel k hk)))) ws_A
  exact ⟨t, va_Zof (hts _ (List.mem_of_getElem? a1)) (hts _ (ws_g 61 (by decide +kernel))) ht ws_A, hT⟩
theorem ws_str (hgv : ∀ c ∈ ws_F, c.before args s = true) : ∃ adK adV : Nat → Nat, vk_S 7 tm_slen tm_sbyt adK adV (fun a => s.heap.size ≤ a) s s.heap ∧ ∀ i : Nat, i < 7 → (ws_tm i).eval args s none [] s = some (.ref (adK i)) := by
  have G : ∀ i, i < 7 → ∀ c ∈ ws_sw i, c.before args s = true := fun i hi c hc => hgv _ (ws_sub (ws_s1 i hi).2 hc)
  have N : ∀ i j, i < j → j < 7 → (Cond.not (Cond.eq (ws_tm i) (ws_tm j))).before args s = true := fun i j hij hj => G j hj _ (List.mem_append_right _ (List.mem_append_right _ (List.mem_map.mpr ⟨i, List.mem_range.mpr hij, rfl⟩)))
  refine vk_Sof (tm := ws_tm) (fun i hi => (ws_s1 i hi).1) (fun i hi => G i hi _ (List.mem_append_left _ List.mem_cons_self)) (fun i hi => G i hi _ (List.mem_append_left _ (List.mem_cons_of_mem _ List.mem_cons_self))) (fun i hi => G i hi _ (List.mem_append_left _ (List.mem_cons_of_mem _ (List.mem_cons_of_mem _ List.mem_cons_self)))) (fun i hi => G i hi _ (List.mem_append_left _ (List.mem_cons_of_mem _ (List.mem_cons_of_mem _ (List.mem_cons_of_mem _ List.mem_cons_self))))) (fun i hi j hj => G i hi _ (List.mem_append_right _ (List.mem_append_left _ (List.mem_map.mpr ⟨j, List.mem_range.mpr hj, rfl⟩)))) (fun i j hi hj hij => ?_) ws_A
  rcases Nat.lt_or_gt_of_ne hij with h | h
  · exact Or.inl (N i j h hj)
  · exact Or.inr (N j i h hi)
theorem ws_Sc {N : Nat} {len : List Nat} {byt : List (List Int32)} {adK adV adK' adV' : Nat → Nat} {A : Nat → Prop} {U : State} {H : Heap} (h : vk_S N len byt adK adV A U H) (e1 : ∀ i, i < N → adK' i = adK i) (e2 : ∀ i, i < N → adV' i = adV i) : vk_S N len byt adK' adV' A U H :=
  ⟨fun i hi => by rw [e1 i hi, e2 i hi]; exact h.1 i hi, fun i j hi hj e => h.2 i j hi hj (by rw [← e1 i hi, ← e1 j hj]; exact e)⟩
def ws_f (n b : Nat) (T K V : Nat → Nat) : Nat → Nat := fun k => if k < 1000000 then n + k else if k = 1000301 then b else if k < 1000101 then T (k - 1000001) else if k < 1000201 then K (k - 1000101) else V (k - 1000201)
theorem ws_f1 {n b : Nat} {T K V : Nat → Nat} {j : Nat} (h : j < 100) : ws_f n b T K V (1000001 + j) = T j := by
  unfold ws_f; rw [if_neg (by omega), if_neg (by omega), if_pos (by omega)]; exact congrArg _ (by omega)
theorem ws_f2 {n b : Nat} {T K V : Nat → Nat} {j : Nat} (h : j < 100) : ws_f n b T K V (1000101 + j) = K j := by
  unfold ws_f; rw [if_neg (by omega), if_neg (by omega), if_neg (by omega), if_pos (by omega)]; exact congrArg _ (by omega)
theorem ws_f3 {n b : Nat} {T K V : Nat → Nat} {j : Nat} (h : j < 100) : ws_f n b T K V (1000201 + j) = V j := by
  unfold ws_f; rw [if_neg (by omega), if_neg (by omega), if_neg (by omega), if_neg (by omega)]; exact congrArg _ (by omega)
theorem ws_sta (bs : Nat) (hts : ∀ w ∈ lw_tbl, w.before args s = true) (hgv : ∀ c ∈ ws_F, c.before args s = true) : ∃ f : Nat → Nat, (∀ k, k < 1000000 → f k = s.heap.size + k) ∧ f 1000301 = bs ∧ tm_Sta f s.heap.size s := by
  have h0 : ∀ j : Nat, ∃ t : Nat, ∀ q : String × List Int32, tm_sa[j]? = some q → va_Z "LabelScript$Numbers" q.1 "[I" (.ref t) (fun a => s.heap.size ≤ a) s s.heap ∧ va_T .int t q.2.length (fun k => .int (q.2.getD k 0)) (fun a => s.heap.size ≤ a) s s.heap := by
    intro j
    cases h : tm_sa[j]? with
    | none => exact ⟨0, fun q h => by cases h⟩
    | some q =>
      obtain ⟨t, ht⟩ := ws_tab hts hgv j q h
      exact ⟨t, fun q' h' => by cases h'; exact ht⟩
  obtain ⟨T, hT⟩ := Classical.axiomOfChoice h0
  obtain ⟨K, V, hS, hE⟩ := ws_str hgv
  refine ⟨ws_f s.heap.size bs T K V, fun k hk => by unfold ws_f; rw [if_pos hk], by unfold ws_f; rw [if_neg (by decide), if_pos rfl], ⟨fun j q hq => ?_, ?_, fun i q hq => ?_, ⟨?_, ?_, ?_⟩, fun q hq => ?_⟩⟩
  · have hj : j < 15 := (List.getElem?_eq_some_iff.mp hq).1
    rw [ws_f1 (by omega)]
    exact hT j q hq
  · exact ws_Sc hS (fun i hi => ws_f2 (by omega)) (fun i hi => ws_f3 (by omega))
  · have hi : i < 7 := (List.getElem?_eq_some_iff.mp hq).1
    rw [ws_f2 (by omega)]
    have e := hE i hi
    rw [show ws_tm i = .string q.1 q.2.1 by unfold ws_tm; rw [hq]] at e
    have h0 := ws_dec (ws_s4 i hi) hq
    have h1 := of_decide_eq_true h0
    exact vk_R.of (hts _ (List.mem_of_getElem? h1)) e
  · exact va_Zof (hts _ (ws_g 411 (by decide +kernel))) (hts _ (ws_g 72 (by decide +kernel))) (va_eqt (hgv _ (ws_h 4 (by decide +kernel)))) ws_A
  · exact va_Zqof (hts _ (ws_g 832 (by decide +kernel))) (hts _ (ws_g 68 (by decide +kernel))) (hgv _ (ws_h 156 (by decide +kernel))) ws_A
  · exact va_Zqof (hts _ (ws_g 834 (by decide +kernel))) (hts _ (ws_g 68 (by decide +kernel))) (hgv _ (ws_h 157 (by decide +kernel))) ws_A
  · exact va_Nw.of rfl (hts _ (ws_n1 q hq))
theorem ws_th (hts : ∀ w ∈ lw_tbl, w.before args s = true) (hgv : ∀ c ∈ ws_F, c.before args s = true) : th_X s.heap.size s := by
  obtain ⟨a, a', h1, -, -⟩ := Cond.castable_spec (hts (.castable "java/lang/IndexOutOfBoundsException" "java/lang/IndexOutOfBoundsException") (ws_g 898 (by decide +kernel)))
  obtain ⟨c, c', h2, -, -⟩ := Cond.castable_spec (hts (.castable "java/lang/IllegalArgumentException" "java/lang/IllegalArgumentException") (ws_g 807 (by decide +kernel)))
  exact ⟨fun w hw => va_tabs (ws_x1 w hw).2 rfl (hts w (ws_x1 w hw).1), th_Ls.of (hts _ (ws_g 832 (by decide +kernel))) ws_A, th_Ls.of (hts _ (ws_g 834 (by decide +kernel))) ws_A, th_N.of h1 h2 (hgv _ (ws_h 168 (by decide +kernel)))⟩
theorem ws_arr {ty : FieldType} (h : (Cond.arrayClass ty).before args s = true) (hty : ∀ cA, s.vm.findClass ("[" ++ ty.toString) = some cA → va_RA s cA ty) : ∃ cA : ClassId, ArrOfT s cA ty ∧ va_RA s cA ty := by
  obtain ⟨cA, kA, comp, h1, h2, h3⟩ := Cond.arrayClass_spec h
  exact ⟨cA, fun n z => ⟨fun k h => (by cases h), kA, h2, comp, h3⟩, hty cA h1⟩
theorem ws_K (hts : ∀ w ∈ lw_tbl, w.before args s = true) : ∃ (D : va_G) (cA : FieldType → ClassId), va_K D tm_cl (tm_tys cA) s := by
  have hts2 : ∀ w ∈ tm_tb, w.before args s = true := fun w hw => hts w (List.mem_filter.mp hw).1
  have h0 : ∀ k : Nat, ∃ z : ClassId × (Nat → Nat), ∀ q : vw_C, tm_cl[k]? = some q → u_Kn s q.1 q.2.1 q.2.2 z.1 z.2 := by
    intro k
    cases h : tm_cl[k]? with
    | none => exact ⟨((Classical.choice ⟨0⟩ : Nat), fun _ => 0), fun q h => by cases h⟩
    | some q =>
      have hk : k < 12 := (List.getElem?_eq_some_iff.mp h).1
      have h1 := ws_dec (ws_k0 k hk) h
      have h2 := of_decide_eq_true h1
      obtain ⟨c, i, hc⟩ := u_known hts2 (tm_cl_ok k q h).1 (hts _ (List.mem_of_getElem? h2))
      exact ⟨(c, i), fun q' h' => by cases h'; exact hc⟩
  obtain ⟨g, hg⟩ := Classical.axiomOfChoice h0
  obtain ⟨c1, a1, b1⟩ := ws_arr (hts (.arrayClass .int) (ws_g 115 (by decide +kernel))) (fun _ h => h)
  obtain ⟨c2, a2, b2⟩ := ws_arr (hts (.arrayClass .long) (ws_g 116 (by decide +kernel))) (fun _ h => h)
  obtain ⟨c3, a3, b3⟩ := ws_arr (hts (.arrayClass .byte) (ws_g 788 (by decide +kernel))) (fun _ h => h)
  refine ⟨(fun k => (g k).1, fun k => (g k).2), fun ty => match ty with | .int => c1 | .long => c2 | _ => c3, fun k q hq => hg k q hq, fun k q hq => ?_⟩
  match k, hq with
  | 0, hq => cases hq; exact ⟨a1, b1⟩
  | 1, hq => cases hq; exact ⟨a2, b2⟩
  | 2, hq => cases hq; exact ⟨a3, b3⟩
  | k + 3, hq => simp [tm_tys] at hq
end WSS
