/-! what the Statement gives at the law's start -/
def ws_F : List Cond := flatC (Jvm.Cond.and given_1 narrow_1)
set_option maxRecDepth 100000 in
theorem ws_t1 : ∀ q ∈ tm_sa, q.2.length < 2 ^ 31 ∧ Cond.laysStatic "LabelScript$Numbers" q.1 "[I" ∈ lw_tbl ∧ Cond.arrayOf (.static "LabelScript$Numbers" q.1 "[I") .int ∈ ws_F ∧ Cond.eq (.length (.static "LabelScript$Numbers" q.1 "[I")) (.int (Int32.ofNat q.2.length)) ∈ ws_F := by decide +kernel
set_option maxRecDepth 100000 in
theorem ws_t2 : ∀ q ∈ tm_sa, ∀ k, k < q.2.length → Cond.eq (.elem (.static "LabelScript$Numbers" q.1 "[I") (.int (Int32.ofNat k))) (.int (q.2.getD k 0)) ∈ ws_F := by decide +kernel
def ws_tm (i : Nat) : Term := match tm_ss[i]? with
  | some q => .string q.1 q.2.1
  | none => .int 0
set_option maxRecDepth 100000 in
theorem ws_s1 : ∀ i, i < 7 → tm_slen.getD i 0 < 2 ^ 31 ∧ Cond.exactly (ws_tm i) "java/lang/String" ∈ ws_F ∧ Cond.eq (.field (ws_tm i) "java/lang/String" "coder" "B") (.int 0) ∈ ws_F ∧ Cond.arrayOf (.field (ws_tm i) "java/lang/String" "value" "[B") .byte ∈ ws_F ∧ Cond.eq (.length (.field (ws_tm i) "java/lang/String" "value" "[B")) (.int (Int32.ofNat (tm_slen.getD i 0))) ∈ ws_F := by decide +kernel
set_option maxRecDepth 100000 in
theorem ws_s2 : ∀ i, i < 7 → ∀ j, j < tm_slen.getD i 0 → Cond.eq (.elem (.field (ws_tm i) "java/lang/String" "value" "[B") (.int (Int32.ofNat j))) (.int ((tm_sbyt.getD i []).getD j 0)) ∈ ws_F := by decide +kernel
set_option maxRecDepth 100000 in
theorem ws_s3 : ∀ i, i < 7 → ∀ j, j < 7 → i ≠ j → Cond.not (Cond.eq (ws_tm i) (ws_tm j)) ∈ ws_F ∨ Cond.not (Cond.eq (ws_tm j) (ws_tm i)) ∈ ws_F := by decide +kernel
set_option maxRecDepth 100000 in
theorem ws_s4 : ∀ q ∈ tm_ss, Cond.stringRef q.1 q.2.1 q.2.2.1 ∈ lw_tbl := by decide +kernel
set_option maxRecDepth 100000 in
theorem ws_n1 : ∀ q ∈ tm_nw, Cond.methodLinkNest q.1 q.2.1 q.2.2.1 q.2.2.2 ∈ lw_tbl := by decide +kernel
set_option maxRecDepth 100000 in
theorem ws_x1 : ∀ w ∈ th_face, w ∈ lw_tbl ∧ w.onTables = true := by decide +kernel
theorem ws_g (i : Nat) {w : Cond} (h : lw_tbl[i]? = some w) : w ∈ lw_tbl := List.mem_of_getElem? h
section WSS
variable {args : Array Value} {s : State}
theorem ws_A : ∀ a : Nat, a < s.heap.size → ¬ (fun a : Nat => s.heap.size ≤ a) a := fun _ h => Nat.not_le.mpr h
theorem ws_tab (hts : ∀ w ∈ lw_tbl, w.before args s = true) (hgv : ∀ c ∈ ws_F, c.before args s = true) (j : Nat) (q : String × List Int32) (hq : tm_sa[j]? = some q) : ∃ t : Nat, va_Z "LabelScript$Numbers" q.1 "[I" (.ref t) (fun a => s.heap.size ≤ a) s s.heap ∧ va_T .int t q.2.length (fun k => .int (q.2.getD k 0)) (fun a => s.heap.size ≤ a) s s.heap := by
  have hm := List.mem_of_getElem? hq
  obtain ⟨a0, a1, a2, a3⟩ := ws_t1 q hm
  obtain ⟨t, ht, hT⟩ := va_Tof (f := fun k => .int (q.2.getD k 0)) (A := fun a => s.heap.size ≤ a) a0 (hgv _ a2) (va_eqt (hgv _ a3)) (fun k hk => va_eqt (hgv _ (ws_t2 q hm k hk))) ws_A
  exact ⟨t, va_Zof (hts _ a1) (hts _ (ws_g 61 (by decide +kernel))) ht ws_A, hT⟩
theorem ws_str (hgv : ∀ c ∈ ws_F, c.before args s = true) : ∃ adK adV : Nat → Nat, vk_S 7 tm_slen tm_sbyt adK adV (fun a => s.heap.size ≤ a) s s.heap ∧ ∀ i : Nat, i < 7 → (ws_tm i).eval args s none [] s = some (.ref (adK i)) :=
  vk_Sof (tm := ws_tm) (fun i hi => (ws_s1 i hi).1) (fun i hi => hgv _ (ws_s1 i hi).2.1) (fun i hi => hgv _ (ws_s1 i hi).2.2.1) (fun i hi => hgv _ (ws_s1 i hi).2.2.2.1) (fun i hi => hgv _ (ws_s1 i hi).2.2.2.2) (fun i hi j hj => hgv _ (ws_s2 i hi j hj)) (fun i j hi hj hij => (ws_s3 i hi j hj hij).imp (fun h => hgv _ h) (fun h => hgv _ h)) ws_A
theorem ws_Sc {N : Nat} {len : List Nat} {byt : List (List Int32)} {adK adV adK' adV' : Nat → Nat} {A : Nat → Prop} {U : State} {H : Heap} (h : vk_S N len byt adK adV A U H) (e1 : ∀ i, i < N → adK' i = adK i) (e2 : ∀ i, i < N → adV' i = adV i) : vk_S N len byt adK' adV' A U H :=
  ⟨fun i hi => by rw [e1 i hi, e2 i hi]; exact h.1 i hi, fun i j hi hj e => h.2 i j hi hj (by rw [← e1 i hi, ← e1 j hj]; exact e)⟩
def ws_f (n b : Nat) (T K V : Nat → Nat) : Nat → Nat := fun k => if k < 1000000 then n + k else if k = 1000301 then b else if k < 1000101 then T (k - 1000001) else if k < 1000201 then K (k - 1000101) else V (k - 1000201)
theorem ws_f1 {n b : Nat} {T K V : Nat → Nat} {j : Nat} (h : j < 100) : ws_f n b T K V (1000001 + j) = T j := by
  unfold ws_f; rw [if_neg (by omega), if_neg (by omega), if_pos (by omega)]; congr 1; omega
theorem ws_f2 {n b : Nat} {T K V : Nat → Nat} {j : Nat} (h : j < 100) : ws_f n b T K V (1000101 + j) = K j := by
  unfold ws_f; rw [if_neg (by omega), if_neg (by omega), if_neg (by omega), if_pos (by omega)]; congr 1; omega
theorem ws_f3 {n b : Nat} {T K V : Nat → Nat} {j : Nat} (h : j < 100) : ws_f n b T K V (1000201 + j) = V j := by
  unfold ws_f; rw [if_neg (by omega), if_neg (by omega), if_neg (by omega), if_neg (by omega)]; congr 1; omega
theorem ws_sta (bs : Nat) (hts : ∀ w ∈ lw_tbl, w.before args s = true) (hgv : ∀ c ∈ ws_F, c.before args s = true) : ∃ f : Nat → Nat, (∀ k, k < 1000000 → f k = s.heap.size + k) ∧ f 1000301 = bs ∧ tm_Sta f s.heap.size s := by
  have h0 : ∀ j : Nat, ∃ t : Nat, ∀ q : String × List Int32, tm_sa[j]? = some q → va_Z "LabelScript$Numbers" q.1 "[I" (.ref t) (fun a => s.heap.size ≤ a) s s.heap ∧ va_T .int t q.2.length (fun k => .int (q.2.getD k 0)) (fun a => s.heap.size ≤ a) s s.heap := by
    intro j
    cases h : tm_sa[j]? with
    | none => exact ⟨0, fun q h => by cases h⟩
    | some q =>
      obtain ⟨t, ht⟩ := ws_tab hts hgv j q h
      exact ⟨t, fun q' h' => by cases h'; exact ht⟩
  obtain ⟨T, hT⟩ := Classical.axiomOfChoice h0
  obtain ⟨K, V, hS, hE⟩ := ws_str hgv
  refine ⟨ws_f s.heap.size bs T K V, fun k hk => by unfold ws_f; rw [if_pos hk], by unfold ws_f; rw [if_neg (by decide), if_pos rfl], ⟨fun j q hq => ?_, ?_, fun i q hq => ?_, ⟨?_, ?_, ?_⟩, fun q hq => ?_⟩⟩
  · have hj : j < 15 := (List.getElem?_eq_some_iff.mp hq).1
    rw [ws_f1 (by omega)]
    exact hT j q hq
  · exact ws_Sc hS (fun i hi => ws_f2 (by omega)) (fun i hi => ws_f3 (by omega))
  · have hi : i < 7 := (List.getElem?_eq_some_iff.mp hq).1
    rw [ws_f2 (by omega)]
    have e := hE i hi
    rw [show ws_tm i = .string q.1 q.2.1 by unfold ws_tm; rw [hq]] at e
    exact vk_R.of (hts _ (ws_s4 q (List.mem_of_getElem? hq))) e
  · exact va_Zof (hts _ (ws_g 411 (by decide +kernel))) (hts _ (ws_g 72 (by decide +kernel))) (va_eqt (hgv _ (by decide +kernel))) ws_A
  · exact va_Zqof (hts _ (ws_g 832 (by decide +kernel))) (hts _ (ws_g 68 (by decide +kernel))) (hgv _ (by decide +kernel)) ws_A
  · exact va_Zqof (hts _ (ws_g 834 (by decide +kernel))) (hts _ (ws_g 68 (by decide +kernel))) (hgv _ (by decide +kernel)) ws_A
  · exact va_Nw.of rfl (hts _ (ws_n1 q hq))
theorem ws_th (hts : ∀ w ∈ lw_tbl, w.before args s = true) (hgv : ∀ c ∈ ws_F, c.before args s = true) : th_X s.heap.size s := by
  obtain ⟨a, a', h1, -, -⟩ := Cond.castable_spec (hts (.castable "java/lang/IndexOutOfBoundsException" "java/lang/IndexOutOfBoundsException") (ws_g 898 (by decide +kernel)))
  obtain ⟨c, c', h2, -, -⟩ := Cond.castable_spec (hts (.castable "java/lang/IllegalArgumentException" "java/lang/IllegalArgumentException") (ws_g 807 (by decide +kernel)))
  exact ⟨fun w hw => va_tabs (ws_x1 w hw).2 rfl (hts w (ws_x1 w hw).1), th_Ls.of (hts _ (ws_g 832 (by decide +kernel))) ws_A, th_Ls.of (hts _ (ws_g 834 (by decide +kernel))) ws_A, th_N.of h1 h2 (hgv _ (by decide +kernel))⟩
theorem ws_arr {ty : FieldType} (h : (Cond.arrayClass ty).before args s = true) (hty : ∀ cA, s.vm.findClass ("[" ++ ty.toString) = some cA → va_RA s cA ty) : ∃ cA : ClassId, ArrOfT s cA ty ∧ va_RA s cA ty := by
  obtain ⟨cA, kA, comp, h1, h2, h3⟩ := Cond.arrayClass_spec h
  exact ⟨cA, fun n z => ⟨fun k h => (by cases h), kA, h2, comp, h3⟩, hty cA h1⟩
def ws_in : List Nat := [8, 8, 1, 2, 1, 11, 4, 8, 9, 40, 6, 6]
set_option maxRecDepth 100000 in
theorem ws_k1 : ∀ k, k < 12 → ((tm_cl[k]?).map fun q => decide (Cond.instantiable q.1 (ws_in.getD k 0) ∈ lw_tbl)) = some true := by decide +kernel
theorem ws_K (hts : ∀ w ∈ lw_tbl, w.before args s = true) : ∃ (D : va_G) (cA : FieldType → ClassId), va_K D tm_cl (tm_tys cA) s := by
  have hts2 : ∀ w ∈ tm_tb, w.before args s = true := fun w hw => hts w (List.mem_filter.mp hw).1
  have h0 : ∀ k : Nat, ∃ z : ClassId × (Nat → Nat), ∀ q : vw_C, tm_cl[k]? = some q → u_Kn s q.1 q.2.1 q.2.2 z.1 z.2 := by
    intro k
    cases h : tm_cl[k]? with
    | none => exact ⟨((Classical.choice ⟨0⟩ : Nat), fun _ => 0), fun q h => by cases h⟩
    | some q =>
      have hk : k < 12 := (List.getElem?_eq_some_iff.mp h).1
      have h1 := ws_k1 k hk
      rw [h] at h1
      have h2 : Cond.instantiable q.1 (ws_in.getD k 0) ∈ lw_tbl := of_decide_eq_true (Option.some.inj h1)
      obtain ⟨c, i, hc⟩ := u_known (n := ws_in.getD k 0) hts2 (tm_cl_ok k q h).1 (hts _ h2)
      exact ⟨(c, i), fun q' h' => by cases h'; exact hc⟩
  obtain ⟨g, hg⟩ := Classical.axiomOfChoice h0
  obtain ⟨c1, a1, b1⟩ := ws_arr (hts (.arrayClass .int) (ws_g 115 (by decide +kernel))) (fun _ h => h)
  obtain ⟨c2, a2, b2⟩ := ws_arr (hts (.arrayClass .long) (ws_g 116 (by decide +kernel))) (fun _ h => h)
  obtain ⟨c3, a3, b3⟩ := ws_arr (hts (.arrayClass .byte) (ws_g 788 (by decide +kernel))) (fun _ h => h)
  refine ⟨(fun k => (g k).1, fun k => (g k).2), fun ty => match ty with | .int => c1 | .long => c2 | _ => c3, fun k q hq => hg k q hq, fun k q hq => ?_⟩
  match k, hq with
  | 0, hq => cases hq; exact ⟨a1, b1⟩
  | 1, hq => cases hq; exact ⟨a2, b2⟩
  | 2, hq => cases hq; exact ⟨a3, b3⟩
  | k + 3, hq => simp [tm_tys] at hq
end WSS
