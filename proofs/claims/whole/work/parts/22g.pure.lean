theorem pu_tm_up_c {α : Type} {g : Nat → Nat → α} {o k a : Nat} {x : α} (h : a ≠ o) : tm_up g o k x a = g a := by funext b; exact tm_up_o h
def pu_Keep (F V : Nat → List Int32) (T : List Int32) (m : tm_I) (mL : tm_L) : Prop := (m 2 0 = 4096) ∧ (m 2 1 = 512) ∧ (m 5 0 = 400) ∧ (m 5 1 = 50) ∧ (m 10 0 = 200) ∧ (m 10 1 = 25) ∧ (m 13 0 = 200) ∧ (m 13 1 = 25) ∧ (m 23 0 = 200) ∧ (m 23 1 = 25) ∧ (m 27 0 = 200) ∧ (m 27 1 = 25) ∧ (pu_Row (m 3) (mL 4) 512 0 T) ∧ (T.length ≤ 4096) ∧ (∀ k, k < 8 → pu_Row (m 6) (mL 7) 50 k (F k) ∧ (F k).length ≤ 400) ∧ (∀ k, k < 10 → pu_Row (m 11) (mL 12) 25 k (V k) ∧ (V k).length ≤ 200)
theorem pu_Keep.a0 {F : Nat → List Int32} {V : Nat → List Int32} {T : List Int32} {m : tm_I} {mL : tm_L} (h_ : pu_Keep F V T m mL) : m 2 0 = 4096 := h_.1
theorem pu_Keep.a1 {F : Nat → List Int32} {V : Nat → List Int32} {T : List Int32} {m : tm_I} {mL : tm_L} (h_ : pu_Keep F V T m mL) : m 2 1 = 512 := h_.2.1
theorem pu_Keep.b0 {F : Nat → List Int32} {V : Nat → List Int32} {T : List Int32} {m : tm_I} {mL : tm_L} (h_ : pu_Keep F V T m mL) : m 5 0 = 400 := h_.2.2.1
theorem pu_Keep.b1 {F : Nat → List Int32} {V : Nat → List Int32} {T : List Int32} {m : tm_I} {mL : tm_L} (h_ : pu_Keep F V T m mL) : m 5 1 = 50 := h_.2.2.2.1
theorem pu_Keep.c0 {F : Nat → List Int32} {V : Nat → List Int32} {T : List Int32} {m : tm_I} {mL : tm_L} (h_ : pu_Keep F V T m mL) : m 10 0 = 200 := h_.2.2.2.2.1
theorem pu_Keep.c1 {F : Nat → List Int32} {V : Nat → List Int32} {T : List Int32} {m : tm_I} {mL : tm_L} (h_ : pu_Keep F V T m mL) : m 10 1 = 25 := h_.2.2.2.2.2.1
theorem pu_Keep.d0 {F : Nat → List Int32} {V : Nat → List Int32} {T : List Int32} {m : tm_I} {mL : tm_L} (h_ : pu_Keep F V T m mL) : m 13 0 = 200 := h_.2.2.2.2.2.2.1
theorem pu_Keep.d1 {F : Nat → List Int32} {V : Nat → List Int32} {T : List Int32} {m : tm_I} {mL : tm_L} (h_ : pu_Keep F V T m mL) : m 13 1 = 25 := h_.2.2.2.2.2.2.2.1
theorem pu_Keep.e0 {F : Nat → List Int32} {V : Nat → List Int32} {T : List Int32} {m : tm_I} {mL : tm_L} (h_ : pu_Keep F V T m mL) : m 23 0 = 200 := h_.2.2.2.2.2.2.2.2.1
theorem pu_Keep.e1 {F : Nat → List Int32} {V : Nat → List Int32} {T : List Int32} {m : tm_I} {mL : tm_L} (h_ : pu_Keep F V T m mL) : m 23 1 = 25 := h_.2.2.2.2.2.2.2.2.2.1
theorem pu_Keep.f0 {F : Nat → List Int32} {V : Nat → List Int32} {T : List Int32} {m : tm_I} {mL : tm_L} (h_ : pu_Keep F V T m mL) : m 27 0 = 200 := h_.2.2.2.2.2.2.2.2.2.2.1
theorem pu_Keep.f1 {F : Nat → List Int32} {V : Nat → List Int32} {T : List Int32} {m : tm_I} {mL : tm_L} (h_ : pu_Keep F V T m mL) : m 27 1 = 25 := h_.2.2.2.2.2.2.2.2.2.2.2.1
theorem pu_Keep.tx {F : Nat → List Int32} {V : Nat → List Int32} {T : List Int32} {m : tm_I} {mL : tm_L} (h_ : pu_Keep F V T m mL) : pu_Row (m 3) (mL 4) 512 0 T := h_.2.2.2.2.2.2.2.2.2.2.2.2.1
theorem pu_Keep.tl {F : Nat → List Int32} {V : Nat → List Int32} {T : List Int32} {m : tm_I} {mL : tm_L} (h_ : pu_Keep F V T m mL) : T.length ≤ 4096 := h_.2.2.2.2.2.2.2.2.2.2.2.2.2.1
theorem pu_Keep.fm {F : Nat → List Int32} {V : Nat → List Int32} {T : List Int32} {m : tm_I} {mL : tm_L} (h_ : pu_Keep F V T m mL) : ∀ k, k < 8 → pu_Row (m 6) (mL 7) 50 k (F k) ∧ (F k).length ≤ 400 := h_.2.2.2.2.2.2.2.2.2.2.2.2.2.2.1
theorem pu_Keep.vr {F : Nat → List Int32} {V : Nat → List Int32} {T : List Int32} {m : tm_I} {mL : tm_L} (h_ : pu_Keep F V T m mL) : ∀ k, k < 10 → pu_Row (m 11) (mL 12) 25 k (V k) ∧ (V k).length ≤ 200 := h_.2.2.2.2.2.2.2.2.2.2.2.2.2.2.2
abbrev pu_kpc (a : Nat) : Prop := a = 2 ∨ a = 3 ∨ a = 5 ∨ a = 6 ∨ a = 10 ∨ a = 11 ∨ a = 13 ∨ a = 23 ∨ a = 27
theorem pu_Keep.fr {F V : Nat → List Int32} {T : List Int32} {m m' : tm_I} {mL mL' : tm_L} (h : pu_Keep F V T m mL) (q : ∀ a, pu_kpc a → m' a = m a) (q2 : ∀ e, e = 4 ∨ e = 7 ∨ e = 12 → mL' e = mL e) : pu_Keep F V T m' mL' := by
  have e2 : m' 2 = m 2 := q 2 (by decide)
  have e3 : m' 3 = m 3 := q 3 (by decide)
  have e5 : m' 5 = m 5 := q 5 (by decide)
  have e6 : m' 6 = m 6 := q 6 (by decide)
  have e10 : m' 10 = m 10 := q 10 (by decide)
  have e11 : m' 11 = m 11 := q 11 (by decide)
  have e13 : m' 13 = m 13 := q 13 (by decide)
  have e23 : m' 23 = m 23 := q 23 (by decide)
  have e27 : m' 27 = m 27 := q 27 (by decide)
  have l4 : mL' 4 = mL 4 := q2 4 (by decide)
  have l7 : mL' 7 = mL 7 := q2 7 (by decide)
  have l12 : mL' 12 = mL 12 := q2 12 (by decide)
  refine ⟨?_, ?_, ?_, ?_, ?_, ?_, ?_, ?_, ?_, ?_, ?_, ?_, ?_, h.tl, ?_, ?_⟩
  · rw [e2]; exact h.a0
  · rw [e2]; exact h.a1
  · rw [e5]; exact h.b0
  · rw [e5]; exact h.b1
  · rw [e10]; exact h.c0
  · rw [e10]; exact h.c1
  · rw [e13]; exact h.d0
  · rw [e13]; exact h.d1
  · rw [e23]; exact h.e0
  · rw [e23]; exact h.e1
  · rw [e27]; exact h.f0
  · rw [e27]; exact h.f1
  · rw [e3, l4]; exact h.tx
  · rw [e6, l7]; exact h.fm
  · rw [e11, l12]; exact h.vr
def pu_srcL (F : Nat → List Int32) (T : List Int32) (fo : Nat → Nat) (j : Nat) : List Int32 := if j = 0 then T else F (fo j)
def pu_RScr (d : Nat) (lv : Nat → List Int32) (outer : Int32) (F : Nat → List Int32) (T : List Int32) (m : tm_I) (po fo : Nat → Nat) : Prop := (d ≤ 4) ∧ (m 1 4 = Int32.ofNat d) ∧ (m 1 6 = Int32.ofNat (po d)) ∧ (0 < d → m 1 5 = Int32.ofNat (fo d)) ∧ (0 < d → m 1 7 = outer) ∧ (∀ j, j < d → m 9 j = Int32.ofNat (po j)) ∧ (∀ j, 0 < j → j < d → m 8 j = Int32.ofNat (fo j)) ∧ (∀ j, j ≤ d → lv j = (pu_srcL F T fo j).drop (po j) ∧ po j ≤ (pu_srcL F T fo j).length) ∧ (∀ j, 0 < j → j ≤ d → fo j < 8)
theorem pu_RScr.d4 {d : Nat} {lv : Nat → List Int32} {outer : Int32} {F : Nat → List Int32} {T : List Int32} {m : tm_I} {po : Nat → Nat} {fo : Nat → Nat} (h_ : pu_RScr d lv outer F T m po fo) : d ≤ 4 := h_.1
theorem pu_RScr.dep {d : Nat} {lv : Nat → List Int32} {outer : Int32} {F : Nat → List Int32} {T : List Int32} {m : tm_I} {po : Nat → Nat} {fo : Nat → Nat} (h_ : pu_RScr d lv outer F T m po fo) : m 1 4 = Int32.ofNat d := h_.2.1
theorem pu_RScr.at_ {d : Nat} {lv : Nat → List Int32} {outer : Int32} {F : Nat → List Int32} {T : List Int32} {m : tm_I} {po : Nat → Nat} {fo : Nat → Nat} (h_ : pu_RScr d lv outer F T m po fo) : m 1 6 = Int32.ofNat (po d) := h_.2.2.1
theorem pu_RScr.frm {d : Nat} {lv : Nat → List Int32} {outer : Int32} {F : Nat → List Int32} {T : List Int32} {m : tm_I} {po : Nat → Nat} {fo : Nat → Nat} (h_ : pu_RScr d lv outer F T m po fo) : 0 < d → m 1 5 = Int32.ofNat (fo d) := h_.2.2.2.1
theorem pu_RScr.out {d : Nat} {lv : Nat → List Int32} {outer : Int32} {F : Nat → List Int32} {T : List Int32} {m : tm_I} {po : Nat → Nat} {fo : Nat → Nat} (h_ : pu_RScr d lv outer F T m po fo) : 0 < d → m 1 7 = outer := h_.2.2.2.2.1
theorem pu_RScr.s9 {d : Nat} {lv : Nat → List Int32} {outer : Int32} {F : Nat → List Int32} {T : List Int32} {m : tm_I} {po : Nat → Nat} {fo : Nat → Nat} (h_ : pu_RScr d lv outer F T m po fo) : ∀ j, j < d → m 9 j = Int32.ofNat (po j) := h_.2.2.2.2.2.1
theorem pu_RScr.s8 {d : Nat} {lv : Nat → List Int32} {outer : Int32} {F : Nat → List Int32} {T : List Int32} {m : tm_I} {po : Nat → Nat} {fo : Nat → Nat} (h_ : pu_RScr d lv outer F T m po fo) : ∀ j, 0 < j → j < d → m 8 j = Int32.ofNat (fo j) := h_.2.2.2.2.2.2.1
theorem pu_RScr.lv {d : Nat} {lv : Nat → List Int32} {outer : Int32} {F : Nat → List Int32} {T : List Int32} {m : tm_I} {po : Nat → Nat} {fo : Nat → Nat} (h_ : pu_RScr d lv outer F T m po fo) : ∀ j, j ≤ d → lv j = (pu_srcL F T fo j).drop (po j) ∧ po j ≤ (pu_srcL F T fo j).length := h_.2.2.2.2.2.2.2.1
theorem pu_RScr.f8 {d : Nat} {lv : Nat → List Int32} {outer : Int32} {F : Nat → List Int32} {T : List Int32} {m : tm_I} {po : Nat → Nat} {fo : Nat → Nat} (h_ : pu_RScr d lv outer F T m po fo) : ∀ j, 0 < j → j ≤ d → fo j < 8 := h_.2.2.2.2.2.2.2.2
theorem pu_RScr.fr {d : Nat} {lv : Nat → List Int32} {outer : Int32} {F : Nat → List Int32} {T : List Int32} {m m' : tm_I} {po fo : Nat → Nat} (h : pu_RScr d lv outer F T m po fo) (e1 : m' 1 = m 1) (e8 : m' 8 = m 8) (e9 : m' 9 = m 9) : pu_RScr d lv outer F T m' po fo :=
  ⟨h.d4, by rw [e1]; exact h.dep, by rw [e1]; exact h.at_, by rw [e1]; exact h.frm, by rw [e1]; exact h.out, by rw [e9]; exact h.s9, by rw [e8]; exact h.s8, h.lv, h.f8⟩
def pu_RRes (os : List pu_Od) (ls : List pu_Lb) (ops : List pu_Od) (m : tm_I) (mL : tm_L) : Prop := (m 20 3 = Int32.ofNat ls.length) ∧ (m 20 4 = Int32.ofNat os.length) ∧ (m 20 5 = Int32.ofNat ops.length) ∧ (∃ Fc, m 20 6 = Int32.ofNat Fc ∧ Fc ≤ os.length + ops.length ∧ pu_CN Fc m mL 0 os ∧ pu_CN Fc m mL os.length ops) ∧ (pu_CLb m ls)
theorem pu_RRes.n3 {os : List pu_Od} {ls : List pu_Lb} {ops : List pu_Od} {m : tm_I} {mL : tm_L} (h_ : pu_RRes os ls ops m mL) : m 20 3 = Int32.ofNat ls.length := h_.1
theorem pu_RRes.n4 {os : List pu_Od} {ls : List pu_Lb} {ops : List pu_Od} {m : tm_I} {mL : tm_L} (h_ : pu_RRes os ls ops m mL) : m 20 4 = Int32.ofNat os.length := h_.2.1
theorem pu_RRes.n5 {os : List pu_Od} {ls : List pu_Lb} {ops : List pu_Od} {m : tm_I} {mL : tm_L} (h_ : pu_RRes os ls ops m mL) : m 20 5 = Int32.ofNat ops.length := h_.2.2.1
theorem pu_RRes.n6 {os : List pu_Od} {ls : List pu_Lb} {ops : List pu_Od} {m : tm_I} {mL : tm_L} (h_ : pu_RRes os ls ops m mL) : ∃ Fc, m 20 6 = Int32.ofNat Fc ∧ Fc ≤ os.length + ops.length ∧ pu_CN Fc m mL 0 os ∧ pu_CN Fc m mL os.length ops := h_.2.2.2.1
theorem pu_RRes.lb {os : List pu_Od} {ls : List pu_Lb} {ops : List pu_Od} {m : tm_I} {mL : tm_L} (h_ : pu_RRes os ls ops m mL) : pu_CLb m ls := h_.2.2.2.2
theorem pu_RRes.fr {os : List pu_Od} {ls : List pu_Lb} {ops : List pu_Od} {m m' : tm_I} {mL mL' : tm_L} (h : pu_RRes os ls ops m mL) (e20 : m' 20 = m 20) (e21 : m' 21 = m 21) (e22 : m' 22 = m 22) (e24 : m' 24 = m 24) (l25 : mL' 25 = mL 25) : pu_RRes os ls ops m' mL' := by
  obtain ⟨Fc, a1, a2, a3, a4⟩ := h.n6
  exact ⟨by rw [e20]; exact h.n3, by rw [e20]; exact h.n4, by rw [e20]; exact h.n5, ⟨Fc, by rw [e20]; exact a1, a2, a3.fr e22 e24 l25, a4.fr e22 e24 l25⟩, fun k hk j hj => by rw [e21]; exact h.lb k hk j hj⟩
def pu_RLab (s : pu_Sp) (m : tm_I) (mL : tm_L) : Prop := m 19 6 = s.w ∧ m 19 7 = s.h ∧ m 19 8 = s.hx ∧ m 19 9 = s.hy ∧ m 19 10 = Int32.ofNat s.cp ∧ (∀ i, i < 4 → m 33 i = s.tx i) ∧ m 26 2 = s.lt ∧ m 26 3 = s.fx ∧ m 26 4 = s.fy ∧ m 26 5 = pu_bi s.t ∧ m 26 6 = pu_bi s.cnt ∧ m 26 7 = s.sp ∧ pu_Row (m 28) (mL 29) 25 0 s.D ∧ (s.lt ≠ -1 → ∀ i, i < 4 → m 31 i = s.sh i)
theorem pu_RLab.fr {s : pu_Sp} {m m' : tm_I} {mL mL' : tm_L} (h : pu_RLab s m mL) (e19 : m' 19 = m 19) (e26 : m' 26 = m 26) (e28 : m' 28 = m 28) (e31 : m' 31 = m 31) (e33 : m' 33 = m 33) (l29 : mL' 29 = mL 29) : pu_RLab s m' mL' := by
  unfold pu_RLab at *; rw [e19, e26, e28, e31, e33, l29]; exact h
def pu_RC (s : pu_Sp) (T : List Int32) (m : tm_I) (mL : tm_L) (po fo : Nat → Nat) : Prop := (pu_Keep s.F s.V T m mL) ∧ (pu_RScr s.d s.lv s.outer s.F T m po fo) ∧ (m 0 5 = Int32.ofNat s.cmds) ∧ (m 19 5 = pu_bi s.opn) ∧ (pu_RRes s.os s.ls (pu_opens s) m mL) ∧ (s.opn = true → pu_RLab s m mL)
theorem pu_RC.k {s : pu_Sp} {T : List Int32} {m : tm_I} {mL : tm_L} {po : Nat → Nat} {fo : Nat → Nat} (h_ : pu_RC s T m mL po fo) : pu_Keep s.F s.V T m mL := h_.1
theorem pu_RC.scr {s : pu_Sp} {T : List Int32} {m : tm_I} {mL : tm_L} {po : Nat → Nat} {fo : Nat → Nat} (h_ : pu_RC s T m mL po fo) : pu_RScr s.d s.lv s.outer s.F T m po fo := h_.2.1
theorem pu_RC.cm {s : pu_Sp} {T : List Int32} {m : tm_I} {mL : tm_L} {po : Nat → Nat} {fo : Nat → Nat} (h_ : pu_RC s T m mL po fo) : m 0 5 = Int32.ofNat s.cmds := h_.2.2.1
theorem pu_RC.op {s : pu_Sp} {T : List Int32} {m : tm_I} {mL : tm_L} {po : Nat → Nat} {fo : Nat → Nat} (h_ : pu_RC s T m mL po fo) : m 19 5 = pu_bi s.opn := h_.2.2.2.1
theorem pu_RC.res {s : pu_Sp} {T : List Int32} {m : tm_I} {mL : tm_L} {po : Nat → Nat} {fo : Nat → Nat} (h_ : pu_RC s T m mL po fo) : pu_RRes s.os s.ls (pu_opens s) m mL := h_.2.2.2.2.1
theorem pu_RC.lab {s : pu_Sp} {T : List Int32} {m : tm_I} {mL : tm_L} {po : Nat → Nat} {fo : Nat → Nat} (h_ : pu_RC s T m mL po fo) : s.opn = true → pu_RLab s m mL := h_.2.2.2.2.2
abbrev pu_rcf (a : Nat) : Prop := a = 14 ∨ a = 18 ∨ a = 35 ∨ a = 37 ∨ a = 38
theorem pu_RC.fr {s : pu_Sp} {T : List Int32} {m m' : tm_I} {mL mL' : tm_L} {po fo : Nat → Nat} (h : pu_RC s T m mL po fo) (q : ∀ a, ¬ pu_rcf a → m' a = m a) (q2 : ∀ e, e ≠ 15 → mL' e = mL e) : pu_RC s T m' mL' po fo := by
  have Q : ∀ a, (a = 14 ∨ a = 18 ∨ a = 35 ∨ a = 37 ∨ a = 38) = False → m' a = m a := fun a ha => q a (by unfold pu_rcf; rw [ha]; exact id)
  have D : ∀ {a}, ¬ pu_rcf a → m' a = m a := fun ha => q _ ha
  refine ⟨h.k.fr (fun a ha => q a (by unfold pu_kpc at ha; unfold pu_rcf; omega)) (fun e he => q2 e (by omega)), h.scr.fr (D (by unfold pu_rcf; omega)) (D (by unfold pu_rcf; omega)) (D (by unfold pu_rcf; omega)), ?_, ?_, h.res.fr (D (by unfold pu_rcf; omega)) (D (by unfold pu_rcf; omega)) (D (by unfold pu_rcf; omega)) (D (by unfold pu_rcf; omega)) (q2 25 (by decide)), fun ho => (h.lab ho).fr (D (by unfold pu_rcf; omega)) (D (by unfold pu_rcf; omega)) (D (by unfold pu_rcf; omega)) (D (by unfold pu_rcf; omega)) (D (by unfold pu_rcf; omega)) (q2 29 (by decide))⟩
  · rw [D (a := 0) (by unfold pu_rcf; omega)]; exact h.cm
  · rw [D (a := 19) (by unfold pu_rcf; omega)]; exact h.op
def pu_fup (po : Nat → Nat) (d q : Nat) : Nat → Nat := fun j => if j = d then q else po j
theorem pu_RScr.mv {d : Nat} {lv : Nat → List Int32} {outer : Int32} {F : Nat → List Int32} {T : List Int32} {m : tm_I} {po fo : Nat → Nat} (h : pu_RScr d lv outer F T m po fo) {q : Nat} (hq : q ≤ (pu_srcL F T fo d).length) : pu_RScr d (pu_fl lv d ((pu_srcL F T fo d).drop q)) outer F T (tm_up m 1 6 (Int32.ofNat q)) (pu_fup po d q) fo := by
  refine ⟨h.d4, by rw [tm_up_k (by decide)]; exact h.dep, by rw [tm_up_eq]; unfold pu_fup; rw [if_pos rfl], fun pu_hd => by rw [tm_up_k (by decide)]; exact h.frm pu_hd, fun pu_hd => by rw [tm_up_k (by decide)]; exact h.out pu_hd, fun j hj => ?_, fun j h0 hj => by rw [tm_up_o (by decide)]; exact h.s8 j h0 hj, fun j hj => ?_, h.f8⟩
  · rw [tm_up_o (by decide), h.s9 j hj]; unfold pu_fup; rw [if_neg (by omega)]
  · unfold pu_fl pu_fup
    by_cases e : j = d
    · subst e; rw [if_pos rfl, if_pos rfl]; exact ⟨rfl, hq⟩
    · rw [if_neg e, if_neg e]; exact h.lv j hj
theorem pu_RC.mv {s : pu_Sp} {T : List Int32} {m : tm_I} {mL : tm_L} {po fo : Nat → Nat} (h : pu_RC s T m mL po fo) {q : Nat} (hq : q ≤ (pu_srcL s.F T fo s.d).length) : pu_RC (pu_onL s ((pu_srcL s.F T fo s.d).drop q)) T (tm_up m 1 6 (Int32.ofNat q)) mL (pu_fup po s.d q) fo :=
  ⟨h.k.fr (fun a ha => pu_tm_up_c (by unfold pu_kpc at ha; omega)) (fun _ _ => rfl), h.scr.mv hq, by rw [tm_up_o (by decide)]; exact h.cm, by rw [tm_up_o (by decide)]; exact h.op, h.res.fr (pu_tm_up_c (by decide)) (pu_tm_up_c (by decide)) (pu_tm_up_c (by decide)) (pu_tm_up_c (by decide)) rfl, fun ho => pu_RLab.fr (s := pu_onL s ((pu_srcL s.F T fo s.d).drop q)) (h.lab ho) (pu_tm_up_c (by decide)) (pu_tm_up_c (by decide)) (pu_tm_up_c (by decide)) (pu_tm_up_c (by decide)) (pu_tm_up_c (by decide)) rfl⟩
theorem pu_RC.src {s : pu_Sp} {T : List Int32} {m : tm_I} {mL : tm_L} {po fo : Nat → Nat} (h : pu_RC s T m mL po fo) : pu_Src m mL (pu_srcL s.F T fo s.d) := by
  unfold pu_srcL
  by_cases pu_hd : s.d = 0
  · left
    rw [if_pos pu_hd]
    exact ⟨by rw [h.scr.dep, pu_hd]; rfl, h.k.a1, h.k.tx, h.k.tl⟩
  · right
    rw [if_neg pu_hd]
    have h8 := h.scr.f8 s.d (by omega) (Nat.le_refl _)
    exact ⟨s.d, fo s.d, by omega, h.scr.d4, h.scr.dep, h8, h.scr.frm (by omega), h.k.b1, (h.k.fm _ h8).1, (h.k.fm _ h8).2⟩
section SCR
variable {s : pu_Sp} {T : List Int32} {m : tm_I} {mL : tm_L} {po fo : Nat → Nat}
def pu_spotS (s : pu_Sp) (T : List Int32) : Int32 := if 0 < s.d then s.outer else Int32.ofNat (T.length - (s.lv 0).length)
theorem pu_sc_spot (h : pu_RC s T m mL po fo) : f_Sc_spot m mL = some (pu_spotS s T, m, mL) := by
  unfold f_Sc_spot f_Sc_spot_b0 f_Sc_spot_b18 pu_spotS
  have hd4 := h.scr.d4
  rw [h.scr.dep]
  by_cases pu_hd : 0 < s.d
  · rw [if_neg (by simp (disch := omega) only [pu_n_lit, pu_n_add, pu_n_mul, pu_n_sub, pu_n_div, pu_n_nat, pu_q_ltT, pu_q_ltF, pu_q_leT, pu_q_leF, pu_q_eqT, pu_q_eqF, pu_n_lt, pu_n_le, pu_n_eq, pu_p_ltT, pu_p_ltF, pu_p_leT, pu_p_leF, not_true_eq_false, not_false_eq_true, or_false, false_or, or_true, true_or, and_true, true_and, and_false, false_and, ↓reduceIte, pu_b_some]), h.scr.out pu_hd, if_pos pu_hd]
  · have h0 : s.d = 0 := by omega
    have := h.scr.lv 0 (by omega)
    rw [if_pos (by simp (disch := omega) only [pu_n_lit, pu_n_add, pu_n_mul, pu_n_sub, pu_n_div, pu_n_nat, pu_q_ltT, pu_q_ltF, pu_q_leT, pu_q_leF, pu_q_eqT, pu_q_eqF, pu_n_lt, pu_n_le, pu_n_eq, pu_p_ltT, pu_p_ltF, pu_p_leT, pu_p_leF, not_true_eq_false, not_false_eq_true, or_false, false_or, or_true, true_or, and_true, true_and, and_false, false_and, ↓reduceIte, pu_b_some]), if_neg pu_hd, this.1, h.scr.at_, h0]
    have h2 := this.2
    have e : pu_srcL s.F T fo 0 = T := rfl
    rw [e] at h2 ⊢
    rw [List.length_drop, show T.length - (T.length - po 0) = po 0 by omega]
end SCR
