/-! the law's own walk: it makes both objects and the long, goes round, answers 1 -/
theorem tk_La_init0 : tm_K0 ty_La_init 0 := ⟨tm_in 83 (by decide +kernel) rfl, tm_in 57 (by decide +kernel) rfl, by decide, by decide, by decide +kernel⟩
theorem tl_Lw_28 : tm_LI "LabelScriptLaw" 28 ty_La_init 0 := ⟨tk_La_init0, tm_in 81 (by decide +kernel) rfl, tm_in 82 (by decide +kernel) rfl, rfl, rfl⟩
theorem tk_Mo_init0 : tm_K0 ty_Mo_init 0 := ⟨tm_in 935 (by decide +kernel) rfl, tm_in 67 (by decide +kernel) rfl, by decide, by decide, by decide +kernel⟩
theorem tl_Lw_31 : tm_LI "LabelScriptLaw" 31 ty_Mo_init 0 := ⟨tk_Mo_init0, tm_in 933 (by decide +kernel) rfl, tm_in 934 (by decide +kernel) rfl, rfl, rfl⟩
theorem st_rr {Γ : tm_G} {nL cells slots pc : Nat} {lv : List (Option Value)} {st : List Value} {mI : tm_I} {mL : tm_L} (k : tm_T Γ nL cells slots pc lv st sh0 mI mL rr) : tm_T Γ nL cells slots pc lv st sh0 mI mL st_R := by
  obtain ⟨p, l, e, R, s, m, args, below, meth, c, D, f, cA, b, QQ⟩ := Γ
  intro hsh hsz H locs ls hP hS hl
  exact k hsh hsz H locs ls (by rw [st_W]; exact hP) hS hl
set_option maxRecDepth 100000 in
set_option maxHeartbeats 4000000 in
theorem st_go {Γ : tm_G} {L : Nat} {xs : Nat → Int32} (hL : L ≤ 2048) (C : tm_C Γ "LabelScriptLaw" code 8) (Ro : tm_Ro Γ 14 542 601024 7293033) (Hx : tm_Hx Γ) (S : tm_Sx Γ L xs)
    (k : ∀ (cells slots : Nat) (ex : List tm_Sh) (mI : tm_I) (mL : tm_L) (i : Int32) (a b c : Option Value), cells ≤ 601024 → slots ≤ 7293033 → tm_T Γ 8 cells slots 445 (lv_L i a b c) [] (sh0 ++ ex) mI mL rr) :
    tm_T Γ 8 0 0 0 [some (.ref 1000301), none, none, none, none, none, none, none] [] [] (fun _ _ => 0) (fun _ _ => 0) (fun _ _ => 0) := by
  refine tm_new C Ro (ci := 0) rfl (tm_in 79 (by decide +kernel) rfl) (tm_in 80 (by decide +kernel) rfl) (tm_in 57 (by decide +kernel) rfl) (by decide) ⟨Nat.le_of_ble_eq_true rfl, Nat.le_of_ble_eq_true rfl, tm_ltb rfl⟩ (tm_get_d to_Lw rfl) ?_
  refine tm_w C fr0_ok to_Lw 0 rfl rfl rfl trivial ?_
  refine tm_callI C Ro tl_Lw_28 (tm_get_d to_Lw rfl) (cm_La_init_0) rfl rfl rfl (Nat.le_of_ble_eq_true rfl) ⟨Nat.le_of_ble_eq_true rfl, Nat.le_of_ble_eq_true rfl, Nat.le_of_ble_eq_true rfl, Nat.le_of_ble_eq_true rfl, Nat.le_of_ble_eq_true rfl⟩ (fun v X hq => ?_)
  obtain ⟨rfl, rfl⟩ := hq
  refine tm_w C fr0_ok to_Lw 0 rfl rfl rfl trivial ?_
  refine tm_new C Ro (ci := 9) rfl (tm_in 931 (by decide +kernel) rfl) (tm_in 932 (by decide +kernel) rfl) (tm_in 67 (by decide +kernel) rfl) (by decide) ⟨Nat.le_of_ble_eq_true rfl, Nat.le_of_ble_eq_true rfl, tm_ltb rfl⟩ (tm_get_d to_Lw rfl) ?_
  refine tm_w C fr0_ok to_Lw 0 rfl rfl rfl trivial ?_
  refine tm_callI C Ro tl_Lw_31 (tm_get_d to_Lw rfl) (cm_Mo_init_39) rfl rfl rfl (Nat.le_of_ble_eq_true rfl) ⟨Nat.le_of_ble_eq_true rfl, Nat.le_of_ble_eq_true rfl, Nat.le_of_ble_eq_true rfl, Nat.le_of_ble_eq_true rfl, Nat.le_of_ble_eq_true rfl⟩ (fun v X hq => ?_)
  obtain ⟨rfl, rfl⟩ := hq
  refine tm_w C fr0_ok to_Lw 1 rfl rfl rfl trivial ?_
  refine tm_newL C Ro (N := 1) (n := (1 : Int32)) (tm_in 116 (by decide +kernel) rfl) (by decide) (by decide) (by decide) ⟨Nat.le_of_ble_eq_true rfl, Nat.le_of_ble_eq_true rfl, tm_ltb rfl⟩ (tm_get_d to_Lw rfl) ?_
  refine tm_w C fr0_ok to_Lw 2 rfl rfl rfl trivial ?_
  have K := lw_loop st_step hL C Ro Hx S k 512 0 58 73327 [] st_I st_L none none none (Nat.zero_le _) (by omega) (by decide) (by decide) (by decide) st_iv
  exact st_rr K
/-- the law's end -/
def R_law : String := "LabelScriptLaw"
def lw_P (b : Addr) (xs : List Int32) (args : Array Value) (s : State) : Prop := args = #[.ref b] ∧ s.IntsAt b xs ∧ xs.length ≤ 2048 ∧ (Jvm.Cond.and given_1 narrow_1).before args s = true
def lw_Q (_ : Array Value) (s : State) (o : Outcome) (t : State) : Prop := o = .returned (some (.int 1)) ∧ Framed s o t [] 601024 7293033
def lw_Z (below : List Frame) (a : Array Value) (s : State) : State → Prop := fun t => ∃ o, t.status = .running ∧ Ended t below o ∧ lw_Q a s o t
theorem lw_ret {p : Program} {l : Launch} {e : Env} {s : State} {m : MethodId} {below : List Frame} {meth : Method} {c : Code} {b : Nat} (hx : p.tables.exec = Jvm.exec) (hb : c.code = code) (hr : meth.sig.returnType = ret) (hlocks : meth.locks = false) {pc : Nat} {H : Heap} {ls : Array Slot} (hdg : decode code pc = .ok (.ireturn, 1)) : W p l e room_1 s m #[Value.ref b] below meth c H [] 601024 7293033 (lw_Z below #[Value.ref b] s) (F0 m pc ls [.int 1]) := by
  intro T hT X
  obtain ⟨fs, hret, hrun, hended, hW, hframe⟩ := X.leave (v := some (.int 1)) (hlocks := hlocks) (fun h => by rw [hr] at h; cases h)
  have hmeth' : T.vm.method? m = some meth := X.method'
  refine ⟨T.setFrames fs, ?_, .returned (some (.int 1)), hrun, hended, rfl, ⟨_, rfl⟩, hW, hframe⟩
  jvm_step X.here [X.here.top, hx, hb, hdg, hmeth', hr, ret, narrow_b1]
  (try refine ⟨rfl, ?_⟩); (try refine ⟨rfl, ?_⟩)
  first | (intro acts; rw [hret _ acts rfl rfl rfl]) | rw [hret _ _ rfl rfl rfl]
  exact Steps.refl _
def lw_At (p : Program) (s : State) (m : MethodId) (meth : Method) (c : Code) (b L : Nat) (xs : Nat → Int32) : Prop :=
  p.tables.exec = Jvm.exec ∧ c.code = code ∧ meth.sig.returnType = ret ∧ c.maxLocals = 8 ∧ s.vm.findClass R_law = some m.cls ∧ (∀ w ∈ lw_tbl, w.before #[Value.ref b] s = true) ∧ va_X b L xs s s.heap ∧ b < s.heap.size ∧ meth.locks = false ∧ (Jvm.Cond.and given_1 narrow_1).before #[Value.ref b] s = true
set_option maxRecDepth 100000 in
set_option maxHeartbeats 4000000 in
theorem whole_start {p : Program} {e : Env} {s : State} {m : MethodId} {below : List Frame} {meth : Method} {c : Code} (l : Launch) (hfl : l.flags = flags0) {b L : Nat} {xs : Nat → Int32} (hL : L ≤ 2048) (C0 : lw_At p s m meth c b L xs) : W p l e room_1 s m #[Value.ref b] below meth c s.heap [] 0 0 (lw_Z below #[Value.ref b] s) (entryFrame m ([Value.ref b] : List Value).toArray 8) := by
  obtain ⟨hx, hb, hr, hml, hown, hts, hX, hbl, hlocks, hgv⟩ := C0
  have hgv2 : ∀ c ∈ ws_F, c.before #[Value.ref b] s = true := flat_of_before _ hgv
  obtain ⟨f, f1, f2, hSt⟩ := ws_sta b hts hgv2
  obtain ⟨D, cA, hK⟩ := ws_K hts
  have hth := ws_th hts hgv2
  generalize hΓ : ((p, l, e, room_1, s, m, #[Value.ref b], below, meth, c, D, f, cA, s.heap.size, lw_Z below #[Value.ref b] s) : tm_G) = Γ
  have C : tm_C Γ "LabelScriptLaw" code 8 := by
    rw [← hΓ]
    exact ⟨hx, hb, hml, hown, fun w hw => hts w (List.mem_filter.mp hw).1, hK, f1, Nat.le_refl _, hlocks, hSt⟩
  have Ro : tm_Ro Γ 14 542 601024 7293033 := by
    rw [← hΓ]
    exact ⟨rfl, rfl, rfl, rfl⟩
  have Hx : tm_Hx Γ := by
    rw [← hΓ]
    exact ⟨hth, hfl⟩
  have S : tm_Sx Γ L xs := by
    rw [← hΓ]
    refine ⟨?_, ?_, ?_⟩
    · rw [f2]; exact hX
    · rw [f2]; exact hbl
    · rw [f2]; exact Nat.not_le.mpr hbl
  have K := st_go hL C Ro Hx S (fun cells slots ex mI mL i a' b' c' q1 q2 => by
    refine tm_w C fr0_ok to_Lw 0 rfl rfl rfl trivial ?_
    subst hΓ
    intro hsh hsz H locs ls hP hS hl
    refine va_forget (fun q hq => hS.2.2 q hq) ?_
    refine W.widen q1 q2 ?_
    exact lw_ret hx hb hr hlocks (tm_get_d to_Lw rfl))
  subst hΓ
  rw [lg_entry_eq]
  have hv : ([Value.ref b] : List Value) = ([Value.ref 1000301] : List Value).map (tm_v f) := by
    simp only [List.map_cons, List.map_nil]
    rw [tm_v_ref (by decide), f2]
  have hl := tm_lv0_has f (nL := 8) (av := [.ref 1000301]) (Nat.le_of_ble_eq_true rfl)
  rw [← hv] at hl
  exact K (Nat.zero_le _) rfl s.heap [] _ (fun k q h => by cases h) va_S.rf hl
