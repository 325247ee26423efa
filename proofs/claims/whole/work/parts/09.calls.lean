/-! calls: what the tables say at a place that calls -/
theorem tm_good {ws : List Cond} (h : ∀ w ∈ ws, w ∈ tm_tb) : GoodIn tm_tb ws := fun w hw => ⟨h w hw, good_of_word (List.mem_filter.mp (h w hw)).2⟩
def tm_K0 (y : tm_Y) (n : Nat) : Prop := Cond.code y.1 y.2.1 y.2.2.1 y.2.2.2 ∈ tm_tb ∧ Cond.initialized y.1.cls ∈ tm_tb ∧ y.1.cls ≠ "java/lang/invoke/MethodHandle" ∧ y.1.cls ≠ "java/lang/invoke/VarHandle" ∧ (parseMethodDescriptor y.1.desc).map (fun d => d.parameters.length) = some n
def tm_LS (own : String) (idx : Nat) (y : tm_Y) (n : Nat) : Prop := tm_K0 y n ∧ Cond.methodLink own idx y.1 ∈ tm_tb ∧ Cond.static y.1 ∈ tm_tb
def tm_LSN (own : String) (idx : Nat) (y : tm_Y) (n : Nat) (host : String) : Prop := tm_K0 y n ∧ (own, idx, y.1, host) ∈ tm_nw ∧ Cond.static y.1 ∈ tm_tb
def tm_LV (own : String) (idx : Nat) (y : tm_Y) (n : Nat) : Prop := tm_K0 y n ∧ Cond.methodLink own idx y.1 ∈ tm_tb ∧ Cond.instanceMethod y.1 ∈ tm_tb ∧ Cond.selects y.1.cls y.1 y.1 ∈ tm_tb
def tm_LI (own : String) (idx : Nat) (y : tm_Y) (n : Nat) : Prop := tm_K0 y n ∧ Cond.methodLink own idx y.1 ∈ tm_tb ∧ Cond.instanceMethod y.1 ∈ tm_tb ∧ y.1.name = "<init>" ∧ y.2.2.2 = none
def tm_LIN (own : String) (idx : Nat) (y : tm_Y) (n : Nat) (host : String) : Prop := tm_K0 y n ∧ (own, idx, y.1, host) ∈ tm_nw ∧ Cond.instanceMethod y.1 ∈ tm_tb ∧ y.1.name = "<init>" ∧ y.2.2.2 = none
def tm_Ro (Γ : tm_G) (rf rl rc rs : Nat) : Prop := match Γ with
  | (_, _, _, R, _, _, _, _, _, _, _, _, _, _, _) => R.frames = rf ∧ R.locals = rl ∧ R.cells = rc ∧ R.slots = rs
theorem tm_Γ.ro {y : tm_Y} {fm lo mc ms : Nat} {av : List Value} {X : tm_X} {Q : Option Value → tm_X → Prop} {Γ : tm_G} (G : tm_Γ y fm lo mc ms av X Q Γ) : tm_Ro Γ fm lo mc ms := by
  obtain ⟨p, l, e, R, s, m, args, below, meth, c, D, f, cA, b, QQ⟩ := Γ
  obtain ⟨hR, -⟩ := G
  subst hR
  exact ⟨rfl, rfl, rfl, rfl⟩
theorem tm_blind {D : va_G} {f : Nat → Nat} {cA : FieldType → ClassId} {b : Nat} {X : tm_X} {av : List Value} : FrameBlind (va_Pc av (tm_Pre D f cA b X)) := by
  intro a U g mk h
  obtain ⟨h0, h1, h2, h3, h4, h5, h6⟩ := h
  exact ⟨h0, h1, h2, h3, va_K.moved (u := U) (U := U.calling g mk a) (Vm.Alike.refl U.vm) h4, h5, h6.same rfl rfl⟩
theorem tm_cats {f : Nat → Nat} {st : List Value} : ((st.map (tm_v f)).map fun v => v.category).sum = (st.map fun v => v.category).sum := by
  rw [List.map_map]
  congr 1
  apply List.map_congr_left
  intro v _
  exact tm_v_cat f v
theorem tm_pre {D : va_G} {f : Nat → Nat} {cA : FieldType → ClassId} {b : Nat} {sh : List tm_Sh} {mI : tm_I} {mL : tm_L} {mR : tm_R} {s U : State} {H : Heap} {locs : List Loc} {av : List Value} (hsh : sh.length ≤ 1000000) (hsz : H.size = b + sh.length) (hP : va_P D tm_cl (tm_W f cA tm_cl tm_ct sh mI mL mR) H) (hS : va_S (fun q => b ≤ q) s.heap H locs) (hK : va_K D tm_cl (tm_tys cA) s) (hf : ∀ k, k < 1000000 → f k = b + k) (hSt : tm_Sta f b s) (hU : U.heap = H) (hW : s.WarmedH U.vm) : va_Pc (av.map (tm_v f)) (tm_Pre D f cA b (sh, mI, mL, mR)) (av.map (tm_v f)).toArray U := by
  refine ⟨rfl, by rw [hU]; exact hsz, hsh, by rw [hU]; exact hP, va_K.moved hW.alike hK, hf, hSt.to hW fun a h1 h2 => ?_⟩
  rw [hU]
  exact hS.2.1 a h1 h2
section TMK
variable {p : Program} {l : Launch} {e : Env} {R : Room} {s : State} {m : MethodId} {args : Array Value} {below : List Frame} {meth : Method} {c : Code} {H : Heap} {locs : List Loc} {cells slots : Nat} {QQ : State → Prop}
/-- behind a call -/
theorem tm_after {D : va_G} {f : Nat → Nat} {cA : FieldType → ClassId} {b nL mc ms pc : Nat} {lv : List (Option Value)} {st : List Value} {st0 : List Value} {sh : List tm_Sh} {a : Array Value} {Q : Option Value → tm_X → Prop} {ls : Array Slot}
    (hr : va_Run p l e R s m args below meth c H locs cells slots mc ms (F0 m pc ls st0) (st.map (tm_v f)) (tm_Qc D f cA b (sh.length + mc) Q a) (fun q => b ≤ q)) (hS : va_S (fun q => b ≤ q) s.heap H locs) (hl : tm_has f ls nL lv) (hsz : s.heap.size + cells = b + sh.length) (hlen : sh.length + mc ≤ 1000000)
    (k : ∀ (v : Option Value) (X : tm_X), Q v X → tm_T (p, l, e, R, s, m, args, below, meth, c, D, f, cA, b, QQ) nL (cells + mc) (slots + ms) (pc + 3) lv (v.toList ++ st) X.1 X.2.1 X.2.2.1 X.2.2.2) :
    W p l e R s m args below meth c H locs cells slots QQ (F0 m pc ls st0) := by
  intro T hT X
  obtain ⟨v, st₀, t, T', L, h0, X', hL, e1, e2, ⟨⟨v', Y, hv, hq, hY, hPt⟩, hz, hk⟩, stp⟩ := hr T hT X
  cases hv
  rw [h0] at hz hk
  have hk1 := k v' Y hq (by omega) (by omega) T'.heap (locs ++ L) ls (by rw [e1]; exact hPt)
    ⟨Nat.le_trans hS.1 (by rw [e1]; exact hz), fun q h1 h2 => by rw [e1, hk q (Nat.lt_of_lt_of_le h1 hS.1) h2]; exact hS.2.1 q h1 h2, fun q hq => by
      rcases List.mem_append.mp hq with h | h
      · exact hS.2.2 q h
      · exact hL q h⟩ hl
  have e9 : (v'.map (tm_v f)).toList ++ st.map (tm_v f) = (v'.toList ++ st).map (tm_v f) := by cases v' <;> rfl
  obtain ⟨t2, a1, b1⟩ := hk1 T' rfl X'
  rw [← e9] at a1
  exact ⟨t2, stp t2 a1, b1⟩
end TMK
section TMJ
variable {Γ : tm_G} {own : String} {cc : ByteArray} {nL cells slots rf rl rc rs : Nat} {pc idx n : Nat} {lv : List (Option Value)} {st stk As : List Value} {sh : List tm_Sh} {mI : tm_I} {mL : tm_L} {mR : tm_R} {y : tm_Y} {fm lo mc ms : Nat} {Q : Option Value → tm_X → Prop} {host : String} {o ci : Nat}
/-- invokestatic -/
theorem tm_callS (C : tm_C Γ own cc nL) (Ro : tm_Ro Γ rf rl rc rs) (L : tm_LS own idx y n) (hd : decode cc pc = .ok (.invokestatic idx, 3)) (M : tm_M y fm lo mc ms As (sh, mI, mL, mR) Q) (hstk : stk = As.reverse ++ st) (hn : As.length = n) (hw : (st.map fun v => v.category).sum ≤ 8) (hr : fm + 1 ≤ rf ∧ 8 + (y.2.2.1 + 11) + lo ≤ rl ∧ cells + mc ≤ rc ∧ slots + ms ≤ rs ∧ sh.length + mc ≤ 1000000)
    (k : ∀ (v : Option Value) (X : tm_X), Q v X → tm_T Γ nL (cells + mc) (slots + ms) (pc + 3) lv (v.toList ++ st) X.1 X.2.1 X.2.2.1 X.2.2.2) : tm_T Γ nL cells slots pc lv stk sh mI mL mR := by
  obtain ⟨p, l, e, R, s, m, args, below, meth, c, D, f, cA, b, QQ⟩ := Γ
  obtain ⟨hx, hb, hml, hown, hts, hK, hf, hbs, hlk, hSt⟩ := C
  obtain ⟨r1, r2, r3, r4⟩ := Ro
  obtain ⟨⟨l1, l2, l3, l4, l5⟩, l6, l7⟩ := L
  obtain ⟨g1, g2, g3, g4, g5⟩ := hr
  intro hsh hsz H locs ls hP hS hl
  subst hstk
  refine tm_hle fun hle => ?_
  have hsz1 : H.size = b + sh.length := by have := tm_hsz hP hS hf hbs hsh; omega
  refine tm_after (va_runS (As := As.map (tm_v f)) (n := n) ⟨hx, hb, hml, hown, hts⟩ (M g5 l D f cA b) (va_cwS n hts (tm_good fun w hw => ?_) rfl rfl rfl ⟨l3, l4, l5⟩ ⟨by rw [r1]; exact g1, by rw [r2]; exact g2⟩) ⟨tm_blind, fun U hU hW => tm_pre hsh hsz1 hP hS hK hf hSt hU hW⟩ rfl (by rw [List.length_map]; exact hn) hl.1 (by show List.map (tm_v f) (As.reverse ++ st) = _; rw [List.map_append, List.map_reverse]) (lv_room (by rw [tm_cats]; exact hw)) hd ⟨by rw [r3]; exact g3, by rw [r4]; exact g4⟩) hS hl hsz g5 k
  rcases List.mem_append.mp hw with h | h
  · rcases List.mem_cons.mp h with rfl | h
    · exact l6
    · rcases List.mem_cons.mp h with rfl | h
      · exact l7
      · rcases List.mem_cons.mp h with rfl | h
        · exact l2
        · cases h
  · rcases List.mem_cons.mp h with rfl | h
    · exact l1
    · exact h
/-- invokestatic of a nest mate's own -/
theorem tm_callSN (C : tm_C Γ own cc nL) (Ro : tm_Ro Γ rf rl rc rs) (L : tm_LSN own idx y n host) (hd : decode cc pc = .ok (.invokestatic idx, 3)) (M : tm_M y fm lo mc ms As (sh, mI, mL, mR) Q) (hstk : stk = As.reverse ++ st) (hn : As.length = n) (hw : (st.map fun v => v.category).sum ≤ 8) (hr : fm + 1 ≤ rf ∧ 8 + (y.2.2.1 + 11) + lo ≤ rl ∧ cells + mc ≤ rc ∧ slots + ms ≤ rs ∧ sh.length + mc ≤ 1000000)
    (k : ∀ (v : Option Value) (X : tm_X), Q v X → tm_T Γ nL (cells + mc) (slots + ms) (pc + 3) lv (v.toList ++ st) X.1 X.2.1 X.2.2.1 X.2.2.2) : tm_T Γ nL cells slots pc lv stk sh mI mL mR := by
  obtain ⟨p, l, e, R, s, m, args, below, meth, c, D, f, cA, b, QQ⟩ := Γ
  obtain ⟨hx, hb, hml, hown, hts, hK, hf, hbs, hlk, hSt⟩ := C
  obtain ⟨r1, r2, r3, r4⟩ := Ro
  obtain ⟨⟨l1, l2, l3, l4, l5⟩, l6, l7⟩ := L
  obtain ⟨g1, g2, g3, g4, g5⟩ := hr
  intro hsh hsz H locs ls hP hS hl
  subst hstk
  refine tm_hle fun hle => ?_
  have hsz1 : H.size = b + sh.length := by have := tm_hsz hP hS hf hbs hsh; omega
  refine tm_after (va_runSN (As := As.map (tm_v f)) (n := n) (host := host) ⟨hx, hb, hml, hown, hts⟩ (M g5 l D f cA b) ⟨va_cnB n hts (tm_good fun w hw => ?_) rfl rfl rfl (hSt.2.2.2.2 _ l6) (hts _ l2) ⟨l3, l4, l5⟩ ⟨by rw [r1]; exact g1, by rw [r2]; exact g2⟩, hts _ l7, trivial⟩ ⟨tm_blind, fun U hU hW => tm_pre hsh hsz1 hP hS hK hf hSt hU hW⟩ rfl (by rw [List.length_map]; exact hn) hl.1 (by show List.map (tm_v f) (As.reverse ++ st) = _; rw [List.map_append, List.map_reverse]) (lv_room (by rw [tm_cats]; exact hw)) hd ⟨by rw [r3]; exact g3, by rw [r4]; exact g4⟩) hS hl hsz g5 k
  rcases List.mem_cons.mp hw with rfl | h
  · exact l1
  · exact h
/-- invokevirtual on an object of a known kind -/
theorem tm_callV (C : tm_C Γ own cc nL) (Ro : tm_Ro Γ rf rl rc rs) (L : tm_LV own idx y n) (hd : decode cc pc = .ok (.invokevirtual idx, 3)) (M : tm_M y fm lo mc ms (.ref o :: As) (sh, mI, mL, mR) Q) (ho : sh[o]? = some (.inl ci)) (hci : (tm_cl[ci]?).map (fun q => q.1) = some y.1.cls) (hstk : stk = As.reverse ++ .ref o :: st) (hn : As.length = n) (hw : (st.map fun v => v.category).sum ≤ 8) (hr : fm + 1 ≤ rf ∧ 8 + (y.2.2.1 + 11) + lo ≤ rl ∧ cells + mc ≤ rc ∧ slots + ms ≤ rs ∧ sh.length + mc ≤ 1000000)
    (k : ∀ (v : Option Value) (X : tm_X), Q v X → tm_T Γ nL (cells + mc) (slots + ms) (pc + 3) lv (v.toList ++ st) X.1 X.2.1 X.2.2.1 X.2.2.2) : tm_T Γ nL cells slots pc lv stk sh mI mL mR := by
  obtain ⟨p, l, e, R, s, m, args, below, meth, c, D, f, cA, b, QQ⟩ := Γ
  obtain ⟨hx, hb, hml, hown, hts, hK, hf, hbs, hlk, hSt⟩ := C
  obtain ⟨r1, r2, r3, r4⟩ := Ro
  obtain ⟨⟨l1, l2, l3, l4, l5⟩, l6, l7, l8⟩ := L
  obtain ⟨g1, g2, g3, g4, g5⟩ := hr
  intro hsh hsz H locs ls hP hS hl
  subst hstk
  refine tm_hle fun hle => ?_
  have hsz1 : H.size = b + sh.length := by have := tm_hsz hP hS hf hbs hsh; omega
  have hv : tm_v f (.ref o) = .ref (f o) := tm_v_ref (tm_sh_ne ho hsh)
  have M1 := M g5 l D f cA b
  rw [List.map_cons, hv] at M1
  obtain ⟨q, hq, hqc⟩ : ∃ q, tm_cl[ci]? = some q ∧ q.1 = y.1.cls := by
    cases hz : tm_cl[ci]? with
    | none => rw [hz] at hci; cases hci
    | some q => rw [hz] at hci; exact ⟨q, rfl, Option.some.inj hci⟩
  have hrv := va_recv hK hP hq (tm_W_at ho)
  rw [hqc] at hrv
  refine tm_after (va_runV (As := As.map (tm_v f)) (n := n) (C := y.1.cls) (b := f o) ⟨hx, hb, hml, hown, hts⟩ M1 (cwV n hts (tm_good fun w hw => ?_) rfl rfl rfl ⟨rfl, l3, l4, l5⟩ ⟨by rw [r1]; exact g1, by rw [r2]; exact g2⟩) ⟨tm_blind, hrv, fun U hU hW => ?_⟩ rfl (by rw [List.length_map]; exact hn) hl.1 (by show List.map (tm_v f) (As.reverse ++ .ref o :: st) = _; rw [List.map_append, List.map_reverse, List.map_cons, hv]) (lv_room (by rw [tm_cats]; exact hw)) hd ⟨by rw [r3]; exact g3, by rw [r4]; exact g4⟩) hS hl hsz g5 k
  · rcases List.mem_append.mp hw with h | h
    · rcases List.mem_cons.mp h with rfl | h
      · exact l6
      · rcases List.mem_cons.mp h with rfl | h
        · exact l7
        · rcases List.mem_cons.mp h with rfl | h
          · exact l8
          · rcases List.mem_cons.mp h with rfl | h
            · exact l2
            · cases h
    · rcases List.mem_cons.mp h with rfl | h
      · exact l1
      · exact h
  · have h9 := tm_pre (av := .ref o :: As) hsh hsz1 hP hS hK hf hSt hU hW
    rw [List.map_cons, hv] at h9
    exact h9
/-- invokespecial of a maker -/
theorem tm_callI (C : tm_C Γ own cc nL) (Ro : tm_Ro Γ rf rl rc rs) (L : tm_LI own idx y n) (hd : decode cc pc = .ok (.invokespecial idx, 3)) (M : tm_M y fm lo mc ms (.ref o :: As) (sh, mI, mL, mR) Q) (ho : sh[o]? = some (.inl ci)) (hstk : stk = As.reverse ++ .ref o :: st) (hn : As.length = n) (hw : (st.map fun v => v.category).sum ≤ 8) (hr : fm + 1 ≤ rf ∧ 8 + (y.2.2.1 + 11) + lo ≤ rl ∧ cells + mc ≤ rc ∧ slots + ms ≤ rs ∧ sh.length + mc ≤ 1000000)
    (k : ∀ (v : Option Value) (X : tm_X), Q v X → tm_T Γ nL (cells + mc) (slots + ms) (pc + 3) lv (v.toList ++ st) X.1 X.2.1 X.2.2.1 X.2.2.2) : tm_T Γ nL cells slots pc lv stk sh mI mL mR := by
  obtain ⟨p, l, e, R, s, m, args, below, meth, c, D, f, cA, b, QQ⟩ := Γ
  obtain ⟨hx, hb, hml, hown, hts, hK, hf, hbs, hlk, hSt⟩ := C
  obtain ⟨r1, r2, r3, r4⟩ := Ro
  obtain ⟨⟨l1, l2, l3, l4, l5⟩, l6, l7, l8, l9⟩ := L
  obtain ⟨g1, g2, g3, g4, g5⟩ := hr
  obtain ⟨yn, yb, yl, yr⟩ := y
  dsimp only at l9
  subst l9
  intro hsh hsz H locs ls hP hS hl
  subst hstk
  refine tm_hle fun hle => ?_
  have hsz1 : H.size = b + sh.length := by have := tm_hsz hP hS hf hbs hsh; omega
  have hv : tm_v f (.ref o) = .ref (f o) := tm_v_ref (tm_sh_ne ho hsh)
  have M1 := M g5 l D f cA b
  rw [List.map_cons, hv] at M1
  refine tm_after (va_runI (As := As.map (tm_v f)) (n := n) (b := f o) ⟨hx, hb, hml, hown, hts⟩ M1 ⟨callB_of n hts (tm_good fun w hw => ?_) rfl rfl rfl (hts _ l2) (hts _ l6) ⟨l3, l4, l5⟩ ⟨by rw [r1]; exact g1, by rw [r2]; exact g2⟩, l8, hts _ l7⟩ ⟨tm_blind, fun U hU hW => ?_⟩ rfl (by rw [List.length_map]; exact hn) hl.1 (by show List.map (tm_v f) (As.reverse ++ .ref o :: st) = _; rw [List.map_append, List.map_reverse, List.map_cons, hv]) (lv_room (by rw [tm_cats]; exact hw)) hd ⟨by rw [r3]; exact g3, by rw [r4]; exact g4⟩) hS hl hsz g5 k
  · rcases List.mem_cons.mp hw with rfl | h
    · exact l1
    · exact h
  · have h9 := tm_pre (av := .ref o :: As) hsh hsz1 hP hS hK hf hSt hU hW
    rw [List.map_cons, hv] at h9
    exact h9
theorem tm_callIN (C : tm_C Γ own cc nL) (Ro : tm_Ro Γ rf rl rc rs) (L : tm_LIN own idx y n host) (hd : decode cc pc = .ok (.invokespecial idx, 3)) (M : tm_M y fm lo mc ms (.ref o :: As) (sh, mI, mL, mR) Q) (ho : sh[o]? = some (.inl ci)) (hstk : stk = As.reverse ++ .ref o :: st) (hn : As.length = n) (hw : (st.map fun v => v.category).sum ≤ 8) (hr : fm + 1 ≤ rf ∧ 8 + (y.2.2.1 + 11) + lo ≤ rl ∧ cells + mc ≤ rc ∧ slots + ms ≤ rs ∧ sh.length + mc ≤ 1000000)
    (k : ∀ (v : Option Value) (X : tm_X), Q v X → tm_T Γ nL (cells + mc) (slots + ms) (pc + 3) lv (v.toList ++ st) X.1 X.2.1 X.2.2.1 X.2.2.2) : tm_T Γ nL cells slots pc lv stk sh mI mL mR := by
  obtain ⟨p, l, e, R, s, m, args, below, meth, c, D, f, cA, b, QQ⟩ := Γ
  obtain ⟨hx, hb, hml, hown, hts, hK, hf, hbs, hlk, hSt⟩ := C
  obtain ⟨r1, r2, r3, r4⟩ := Ro
  obtain ⟨⟨l1, l2, l3, l4, l5⟩, l6, l7, l8, l9⟩ := L
  obtain ⟨g1, g2, g3, g4, g5⟩ := hr
  obtain ⟨yn, yb, yl, yr⟩ := y
  dsimp only at l9
  subst l9
  intro hsh hsz H locs ls hP hS hl
  subst hstk
  refine tm_hle fun hle => ?_
  have hsz1 : H.size = b + sh.length := by have := tm_hsz hP hS hf hbs hsh; omega
  have hv : tm_v f (.ref o) = .ref (f o) := tm_v_ref (tm_sh_ne ho hsh)
  have M1 := M g5 l D f cA b
  rw [List.map_cons, hv] at M1
  refine tm_after (va_runIN (As := As.map (tm_v f)) (n := n) (b := f o) (host := host) ⟨hx, hb, hml, hown, hts⟩ M1 ⟨va_cnB n hts (tm_good fun w hw => ?_) rfl rfl rfl (hSt.2.2.2.2 _ l6) (hts _ l2) ⟨l3, l4, l5⟩ ⟨by rw [r1]; exact g1, by rw [r2]; exact g2⟩, l8, hts _ l7⟩ ⟨tm_blind, fun U hU hW => ?_⟩ rfl (by rw [List.length_map]; exact hn) hl.1 (by show List.map (tm_v f) (As.reverse ++ .ref o :: st) = _; rw [List.map_append, List.map_reverse, List.map_cons, hv]) (lv_room (by rw [tm_cats]; exact hw)) hd ⟨by rw [r3]; exact g3, by rw [r4]; exact g4⟩) hS hl hsz g5 k
  · rcases List.mem_cons.mp hw with rfl | h
    · exact l1
    · exact h
  · have h9 := tm_pre (av := .ref o :: As) hsh hsz1 hP hS hK hf hSt hU hW
    rw [List.map_cons, hv] at h9
    exact h9
end TMJ
