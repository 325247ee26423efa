abbrev pu_Od : Type := (Int32) × (Int32) × (Int32) × (Int32) × (Int32) × (Int32) × (Int32) × (Int32) × (Nat) × (Nat) × (List Int32) × (Nat) × (Nat) × (Int32)
abbrev pu_Od.kd (s_ : pu_Od) : Int32 := s_.1
abbrev pu_Od.x (s_ : pu_Od) : Int32 := s_.2.1
abbrev pu_Od.y (s_ : pu_Od) : Int32 := s_.2.2.1
abbrev pu_Od.r (s_ : pu_Od) : Int32 := s_.2.2.2.1
abbrev pu_Od.wy (s_ : pu_Od) : Int32 := s_.2.2.2.2.1
abbrev pu_Od.a (s_ : pu_Od) : Int32 := s_.2.2.2.2.2.1
abbrev pu_Od.b (s_ : pu_Od) : Int32 := s_.2.2.2.2.2.2.1
abbrev pu_Od.c (s_ : pu_Od) : Int32 := s_.2.2.2.2.2.2.2.1
abbrev pu_Od.st (s_ : pu_Od) : Nat := s_.2.2.2.2.2.2.2.2.1
abbrev pu_Od.sz (s_ : pu_Od) : Nat := s_.2.2.2.2.2.2.2.2.2.1
abbrev pu_Od.D (s_ : pu_Od) : List Int32 := s_.2.2.2.2.2.2.2.2.2.2.1
abbrev pu_Od.tl (s_ : pu_Od) : Nat := s_.2.2.2.2.2.2.2.2.2.2.2.1
abbrev pu_Od.nm (s_ : pu_Od) : Nat := s_.2.2.2.2.2.2.2.2.2.2.2.2.1
abbrev pu_Od.sp (s_ : pu_Od) : Int32 := s_.2.2.2.2.2.2.2.2.2.2.2.2.2
abbrev pu_Od.mk_ (a0 : Int32) (a1 : Int32) (a2 : Int32) (a3 : Int32) (a4 : Int32) (a5 : Int32) (a6 : Int32) (a7 : Int32) (a8 : Nat) (a9 : Nat) (a10 : List Int32) (a11 : Nat) (a12 : Nat) (a13 : Int32) : pu_Od := (a0, a1, a2, a3, a4, a5, a6, a7, a8, a9, a10, a11, a12, a13)
abbrev pu_Fd : Type := (Int32) × (Int32) × (Int32) × (Bool) × (Nat → Int32) × (Nat → Int32) × (List Int32) × (Bool) × (Int32)
abbrev pu_Fd.lt (s_ : pu_Fd) : Int32 := s_.1
abbrev pu_Fd.x (s_ : pu_Fd) : Int32 := s_.2.1
abbrev pu_Fd.y (s_ : pu_Fd) : Int32 := s_.2.2.1
abbrev pu_Fd.t (s_ : pu_Fd) : Bool := s_.2.2.2.1
abbrev pu_Fd.sh (s_ : pu_Fd) : Nat → Int32 := s_.2.2.2.2.1
abbrev pu_Fd.tx (s_ : pu_Fd) : Nat → Int32 := s_.2.2.2.2.2.1
abbrev pu_Fd.D (s_ : pu_Fd) : List Int32 := s_.2.2.2.2.2.2.1
abbrev pu_Fd.cnt (s_ : pu_Fd) : Bool := s_.2.2.2.2.2.2.2.1
abbrev pu_Fd.sp (s_ : pu_Fd) : Int32 := s_.2.2.2.2.2.2.2.2
abbrev pu_Fd.mk_ (a0 : Int32) (a1 : Int32) (a2 : Int32) (a3 : Bool) (a4 : Nat → Int32) (a5 : Nat → Int32) (a6 : List Int32) (a7 : Bool) (a8 : Int32) : pu_Fd := (a0, a1, a2, a3, a4, a5, a6, a7, a8)
def pu_mk (R : pu_Fd) (pu_kd r i j a b c : Int32) (st sz : Nat) : pu_Od := ⟨pu_kd, R.x + pu_stX r i j, R.y + pu_stY r i j, r, pu_wy R.t, a, b, c, st, sz, R.D, pu_tailOf R.cnt R.D, pu_spNum R.D.reverse 0 (pu_tailOf R.cnt R.D), R.sp⟩
def pu_cb (side left : Int32) : Int32 := if side = 0 then 0 else if side = 1 then left else left / 2
def pu_lineO (R : pu_Fd) (k : Nat) (q : Nat × Nat) : pu_Od := pu_mk R 0 (R.tx 3) (R.sh 3 * pu_cb (R.sh 2) (R.sh 0 - Int32.ofNat q.2)) (Int32.ofNat k * R.sh 1) (R.tx 0) (R.tx 1) (R.tx 2) q.1 q.2
def pu_linesO (R : pu_Fd) : Nat → List (Nat × Nat) → List pu_Od
  | _, [] => []
  | k, q :: r => pu_lineO R k q :: pu_linesO R (k + 1) r
def pu_linesOf (R : pu_Fd) : List (Nat × Nat) := pu_spLines (R.sh 0).toNatClampNeg R.D 202 0
def pu_ords (R : pu_Fd) : List pu_Od :=
  if R.lt = 87 then pu_linesO R 0 (pu_linesOf R)
  else if R.lt = 66 then pu_mk R 1 (R.sh 2) 0 0 (R.sh 0) (R.sh 1) 0 0 R.D.length :: (if R.sh 3 = 1 then [pu_mk R 0 (R.sh 2) 0 (R.sh 1 + 3) (R.tx 0) (R.tx 1) (R.tx 2) 0 R.D.length] else [])
  else if R.lt = 78 then [pu_mk R 2 (R.sh 2) 0 0 (R.sh 0) (R.sh 1) 0 0 R.D.length]
  else if R.lt = 84 then [pu_mk R 0 (R.sh 3) 0 0 (R.sh 0) (R.sh 1) (R.sh 2) 0 R.D.length]
  else if R.lt = 81 then [pu_mk R 3 (R.sh 3) 0 0 (R.sh 0) (R.sh 1) (R.sh 2) 0 R.D.length]
  else if R.lt = 70 then [pu_mk R 4 (R.sh 3) 0 0 (R.sh 0) (R.sh 1) (R.sh 2) 0 0]
  else if R.lt = 73 then [pu_mk R 5 (R.sh 3) 0 0 (R.sh 0) (R.sh 1) (R.sh 2) 0 0]
  else if R.lt = 71 then [pu_mk R 6 (R.sh 3) 0 0 (R.sh 0) (R.sh 1) (R.sh 2) 0 0]
  else if R.lt = 80 then [pu_mk R 7 (R.sh 3) 0 0 (R.sh 0) (R.sh 1) (R.sh 2) 0 (R.D.length / 2)]
  else []
def pu_nearO (o : pu_Od) : Bool := pu_near o.x && pu_near o.y
def pu_okF (R : pu_Fd) : Bool := (pu_ords R).all pu_nearO && (if R.lt = 87 then decide ((pu_linesOf R).length ≤ 20) else if R.lt = 71 then pu_near (R.x + R.sh 0) && pu_near (R.y + R.sh 1) else decide (pu_ords R ≠ []))
def pu_ordRow (o : pu_Od) (F : Nat) : Nat → Int32 := pu_rowF o.kd o.x o.y o.r o.wy o.a o.b o.c (Int32.ofNat o.sz) (Int32.ofNat F) (Int32.ofNat o.st) (Int32.ofNat o.tl) (Int32.ofNat o.nm) o.sp
def pu_frO (m m' : tm_I) : Prop := ∀ a, a ≠ 20 → a ≠ 22 → a ≠ 35 → a ≠ 37 → a ≠ 38 → m' a = m a
def pu_Ext (m m' : tm_I) (A B : Nat) (os : List pu_Od) (F : Nat) : Prop := (pu_frO m m') ∧ (∀ b, b ≠ 5 → m' 20 b = m 20 b) ∧ (m' 20 5 = Int32.ofNat (B + os.length)) ∧ (∀ b, b < (A + B) * 14 → m' 22 b = m 22 b) ∧ (∀ (i : Nat) (h : i < os.length), A + B + i < 120 → ∀ j, j < 14 → m' 22 ((A + B + i) * 14 + j) = pu_ordRow os[i] F j)
theorem pu_Ext.o {m : tm_I} {m' : tm_I} {A : Nat} {B : Nat} {os : List pu_Od} {F : Nat} (h_ : pu_Ext m m' A B os F) : pu_frO m m' := h_.1
theorem pu_Ext.c20 {m : tm_I} {m' : tm_I} {A : Nat} {B : Nat} {os : List pu_Od} {F : Nat} (h_ : pu_Ext m m' A B os F) : ∀ b, b ≠ 5 → m' 20 b = m 20 b := h_.2.1
theorem pu_Ext.n5 {m : tm_I} {m' : tm_I} {A : Nat} {B : Nat} {os : List pu_Od} {F : Nat} (h_ : pu_Ext m m' A B os F) : m' 20 5 = Int32.ofNat (B + os.length) := h_.2.2.1
theorem pu_Ext.old {m : tm_I} {m' : tm_I} {A : Nat} {B : Nat} {os : List pu_Od} {F : Nat} (h_ : pu_Ext m m' A B os F) : ∀ b, b < (A + B) * 14 → m' 22 b = m 22 b := h_.2.2.2.1
theorem pu_Ext.new {m : tm_I} {m' : tm_I} {A : Nat} {B : Nat} {os : List pu_Od} {F : Nat} (h_ : pu_Ext m m' A B os F) : ∀ (i : Nat) (h : i < os.length), A + B + i < 120 → ∀ j, j < 14 → m' 22 ((A + B + i) * 14 + j) = pu_ordRow os[i] F j := h_.2.2.2.2
theorem pu_Ext.trans {m m1 m2 : tm_I} {A B F : Nat} {os1 os2 : List pu_Od} (h1 : pu_Ext m m1 A B os1 F) (h2 : pu_Ext m1 m2 A (B + os1.length) os2 F) : pu_Ext m m2 A B (os1 ++ os2) F := by
  refine ⟨fun a q1 q2 q3 q4 q5 => (h2.o a q1 q2 q3 q4 q5).trans (h1.o a q1 q2 q3 q4 q5), fun b hb => (h2.c20 b hb).trans (h1.c20 b hb), ?_, fun b hb => (h2.old b (by omega)).trans (h1.old b hb), ?_⟩
  · rw [h2.n5, List.length_append]; congr 1; omega
  · intro i hi hlt j hj
    rw [List.length_append] at hi
    by_cases h : i < os1.length
    · rw [h2.old _ (by omega), h1.new i h hlt j hj, List.getElem_append_left h]
    · rw [List.getElem_append_right (by omega)]
      have := h2.new (i - os1.length) (by omega) (by omega) j hj
      rw [show A + (B + os1.length) + (i - os1.length) = A + B + i by omega] at this
      exact this
theorem pu_Ext.none {m m' : tm_I} {A B F : Nat} (h5 : m 20 5 = Int32.ofNat B) (h : ∀ a, a ≠ 35 → a ≠ 37 → a ≠ 38 → m' a = m a) : pu_Ext m m' A B [] F := by
  refine ⟨fun a _ _ q1 q2 q3 => h a q1 q2 q3, fun b _ => ?_, ?_, fun b _ => ?_, fun i hi => absurd hi (Nat.not_lt_zero i)⟩
  · rw [h 20 (by decide) (by decide) (by decide)]
  · rw [h 20 (by decide) (by decide) (by decide), h5]; rfl
  · rw [h 22 (by decide) (by decide) (by decide)]
def pu_Dr (m : tm_I) (mL : tm_L) (R : pu_Fd) (A B F : Nat) : Prop := (m 19 8 + m 26 3 = R.x) ∧ (m 19 9 + m 26 4 = R.y) ∧ (m 26 2 = R.lt) ∧ (m 26 5 = pu_bi R.t) ∧ (m 26 7 = R.sp) ∧ (∀ i, i < 4 → m 31 i = R.sh i) ∧ (∀ i, i < 4 → m 33 i = R.tx i) ∧ (pu_TD m mL R.D) ∧ (m 20 4 = Int32.ofNat A) ∧ (m 20 5 = Int32.ofNat B) ∧ (m 20 6 = Int32.ofNat (F + 1)) ∧ (m 20 7 = Int32.ofNat (pu_tailOf R.cnt R.D)) ∧ (m 20 8 = Int32.ofNat (pu_spNum R.D.reverse 0 (pu_tailOf R.cnt R.D)))
theorem pu_Dr.x {m : tm_I} {mL : tm_L} {R : pu_Fd} {A : Nat} {B : Nat} {F : Nat} (h_ : pu_Dr m mL R A B F) : m 19 8 + m 26 3 = R.x := h_.1
theorem pu_Dr.y {m : tm_I} {mL : tm_L} {R : pu_Fd} {A : Nat} {B : Nat} {F : Nat} (h_ : pu_Dr m mL R A B F) : m 19 9 + m 26 4 = R.y := h_.2.1
theorem pu_Dr.lt {m : tm_I} {mL : tm_L} {R : pu_Fd} {A : Nat} {B : Nat} {F : Nat} (h_ : pu_Dr m mL R A B F) : m 26 2 = R.lt := h_.2.2.1
theorem pu_Dr.t {m : tm_I} {mL : tm_L} {R : pu_Fd} {A : Nat} {B : Nat} {F : Nat} (h_ : pu_Dr m mL R A B F) : m 26 5 = pu_bi R.t := h_.2.2.2.1
theorem pu_Dr.sp {m : tm_I} {mL : tm_L} {R : pu_Fd} {A : Nat} {B : Nat} {F : Nat} (h_ : pu_Dr m mL R A B F) : m 26 7 = R.sp := h_.2.2.2.2.1
theorem pu_Dr.sh {m : tm_I} {mL : tm_L} {R : pu_Fd} {A : Nat} {B : Nat} {F : Nat} (h_ : pu_Dr m mL R A B F) : ∀ i, i < 4 → m 31 i = R.sh i := h_.2.2.2.2.2.1
theorem pu_Dr.tx {m : tm_I} {mL : tm_L} {R : pu_Fd} {A : Nat} {B : Nat} {F : Nat} (h_ : pu_Dr m mL R A B F) : ∀ i, i < 4 → m 33 i = R.tx i := h_.2.2.2.2.2.2.1
theorem pu_Dr.td {m : tm_I} {mL : tm_L} {R : pu_Fd} {A : Nat} {B : Nat} {F : Nat} (h_ : pu_Dr m mL R A B F) : pu_TD m mL R.D := h_.2.2.2.2.2.2.2.1
theorem pu_Dr.a {m : tm_I} {mL : tm_L} {R : pu_Fd} {A : Nat} {B : Nat} {F : Nat} (h_ : pu_Dr m mL R A B F) : m 20 4 = Int32.ofNat A := h_.2.2.2.2.2.2.2.2.1
theorem pu_Dr.b {m : tm_I} {mL : tm_L} {R : pu_Fd} {A : Nat} {B : Nat} {F : Nat} (h_ : pu_Dr m mL R A B F) : m 20 5 = Int32.ofNat B := h_.2.2.2.2.2.2.2.2.2.1
theorem pu_Dr.f {m : tm_I} {mL : tm_L} {R : pu_Fd} {A : Nat} {B : Nat} {F : Nat} (h_ : pu_Dr m mL R A B F) : m 20 6 = Int32.ofNat (F + 1) := h_.2.2.2.2.2.2.2.2.2.2.1
theorem pu_Dr.tl {m : tm_I} {mL : tm_L} {R : pu_Fd} {A : Nat} {B : Nat} {F : Nat} (h_ : pu_Dr m mL R A B F) : m 20 7 = Int32.ofNat (pu_tailOf R.cnt R.D) := h_.2.2.2.2.2.2.2.2.2.2.2.1
theorem pu_Dr.nm {m : tm_I} {mL : tm_L} {R : pu_Fd} {A : Nat} {B : Nat} {F : Nat} (h_ : pu_Dr m mL R A B F) : m 20 8 = Int32.ofNat (pu_spNum R.D.reverse 0 (pu_tailOf R.cnt R.D)) := h_.2.2.2.2.2.2.2.2.2.2.2.2
theorem pu_Dr.ext {m m' : tm_I} {mL : tm_L} {R : pu_Fd} {A B F : Nat} {os : List pu_Od} (h : pu_Dr m mL R A B F) (e : pu_Ext m m' A B os F) : pu_Dr m' mL R A (B + os.length) F := by
  have q : ∀ a, a ≠ 20 → a ≠ 22 → a ≠ 35 → a ≠ 37 → a ≠ 38 → m' a = m a := e.o
  refine ⟨?_, ?_, ?_, ?_, ?_, ?_, ?_, ?_, ?_, e.n5, ?_, ?_, ?_⟩
  · rw [q 19 (by decide) (by decide) (by decide) (by decide) (by decide), q 26 (by decide) (by decide) (by decide) (by decide) (by decide)]; exact h.x
  · rw [q 19 (by decide) (by decide) (by decide) (by decide) (by decide), q 26 (by decide) (by decide) (by decide) (by decide) (by decide)]; exact h.y
  · rw [q 26 (by decide) (by decide) (by decide) (by decide) (by decide)]; exact h.lt
  · rw [q 26 (by decide) (by decide) (by decide) (by decide) (by decide)]; exact h.t
  · rw [q 26 (by decide) (by decide) (by decide) (by decide) (by decide)]; exact h.sp
  · rw [q 31 (by decide) (by decide) (by decide) (by decide) (by decide)]; exact h.sh
  · rw [q 33 (by decide) (by decide) (by decide) (by decide) (by decide)]; exact h.tx
  · exact h.td.fr (q 28 (by decide) (by decide) (by decide) (by decide) (by decide)) (q 27 (by decide) (by decide) (by decide) (by decide) (by decide)) rfl
  · rw [e.c20 4 (by decide)]; exact h.a
  · rw [e.c20 6 (by decide)]; exact h.f
  · rw [e.c20 7 (by decide)]; exact h.tl
  · rw [e.c20 8 (by decide)]; exact h.nm
section DRAW
variable {m : tm_I} {mL : tm_L} {R : pu_Fd} {A B F : Nat}
theorem pu_Ext.row {A B F : Nat} {o : pu_Od} {m : tm_I} {r : Nat → Int32} (hr : ∀ j, j < 14 → r j = pu_ordRow o F j) : pu_Ext m (if A + B < 120 then pu_W14 (tm_up m 20 5 (Int32.ofNat (B + 1))) (A + B) r else tm_up m 20 5 (Int32.ofNat (B + 1))) A B [o] F := by
  have e : ∀ a, a ≠ 20 → tm_up m 20 5 (Int32.ofNat (B + 1)) a = m a := fun a ha => by funext b; exact tm_up_o ha
  by_cases h : A + B < 120
  · rw [if_pos h]
    refine ⟨fun a q1 q2 _ _ _ => (pu_W14_o q2).trans (e a q1), fun b hb => ?_, ?_, fun b hb => ?_, ?_⟩
    · rw [pu_W14_o (by decide), tm_up_k hb]
    · rw [pu_W14_o (by decide), tm_up_eq]; rfl
    · rw [pu_W14_k (by omega), e 22 (by decide)]
    · intro i hi hlt j hj
      have : i = 0 := by simp at hi; exact hi
      subst this
      rw [show A + B + 0 = A + B from rfl, pu_W14_in hj, hr j hj]; rfl
  · rw [if_neg h]
    refine ⟨fun a q1 _ _ _ _ => e a q1, fun b hb => tm_up_k hb, tm_up_eq _ _ _ _, fun b hb => ?_, ?_⟩
    · rw [e 22 (by decide)]
    · intro i hi hlt; omega
theorem pu_rowF_eq {k x y r w a b c s f st tl nm sp k' x' y' r' w' a' b' c' s' f' st' tl' nm' sp' : Int32} (h0 : k = k') (h1 : x = x') (h2 : y = y') (h3 : r = r') (h4 : w = w') (h5 : a = a') (h6 : b = b') (h7 : c = c') (h8 : s = s') (h9 : f = f') (h10 : st = st') (h11 : tl = tl') (h12 : nm = nm') (h13 : sp = sp') : ∀ j, j < 14 → pu_rowF k x y r w a b c s f st tl nm sp j = pu_rowF k' x' y' r' w' a' b' c' s' f' st' tl' nm' sp' j := by
  subst h0 h1 h2 h3 h4 h5 h6 h7 h8 h9 h10 h11 h12 h13
  intro _ _; rfl
theorem pu_dr_add30 (h : pu_Dr m mL R A B F) (hA : A ≤ 1000) (hB : B ≤ 1000) (pu_kd i j : Int32) (st sz : Nat) : ∃ m', f_Pr_add_30 pu_kd i j (Int32.ofNat st) (Int32.ofNat sz) m mL = some (pu_bi (pu_nearO (pu_mk R pu_kd (m 31 3) i j (m 31 0) (m 31 1) (m 31 2) st sz)), m', mL) ∧ pu_Ext m m' A B [pu_mk R pu_kd (m 31 3) i j (m 31 0) (m 31 1) (m 31 2) st sz] F := by
  have e := pu_pr_add30 (mL := mL) h.a h.b h.t hA hB pu_kd i j (Int32.ofNat st) (Int32.ofNat sz)
  rw [h.x, h.y] at e
  refine ⟨_, e, ?_⟩
  unfold pu_AO30
  refine pu_Ext.row ?_
  unfold pu_ordRow pu_mk
  refine pu_rowF_eq rfl rfl rfl rfl rfl rfl rfl rfl rfl ?_ rfl h.tl h.nm h.sp
  rw [h.f, pu_n_lit 1, pu_n_sub (by omega)]; rfl
theorem pu_dr_add32 (h : pu_Dr m mL R A B F) (hA : A ≤ 1000) (hB : B ≤ 1000) (pu_kd i j : Int32) (st sz : Nat) : ∃ m', f_Pr_add_32 pu_kd i j (Int32.ofNat st) (Int32.ofNat sz) m mL = some (pu_bi (pu_nearO (pu_mk R pu_kd (m 33 3) i j (m 33 0) (m 33 1) (m 33 2) st sz)), m', mL) ∧ pu_Ext m m' A B [pu_mk R pu_kd (m 33 3) i j (m 33 0) (m 33 1) (m 33 2) st sz] F := by
  have e := pu_pr_add32 (mL := mL) h.a h.b h.t hA hB pu_kd i j (Int32.ofNat st) (Int32.ofNat sz)
  rw [h.x, h.y] at e
  refine ⟨_, e, ?_⟩
  unfold pu_AO32
  refine pu_Ext.row ?_
  unfold pu_ordRow pu_mk
  refine pu_rowF_eq rfl rfl rfl rfl rfl rfl rfl rfl rfl ?_ rfl h.tl h.nm h.sp
  rw [h.f, pu_n_lit 1, pu_n_sub (by omega)]; rfl
theorem pu_dr_add34 (h : pu_Dr m mL R A B F) (hA : A ≤ 1000) (hB : B ≤ 1000) (pu_kd i j : Int32) (st sz : Nat) : ∃ m', f_Pr_add_34 pu_kd i j (Int32.ofNat st) (Int32.ofNat sz) m mL = some (pu_bi (pu_nearO (pu_mk R pu_kd (m 35 3) i j (m 35 0) (m 35 1) (m 35 2) st sz)), m', mL) ∧ pu_Ext m m' A B [pu_mk R pu_kd (m 35 3) i j (m 35 0) (m 35 1) (m 35 2) st sz] F := by
  have e := pu_pr_add34 (mL := mL) h.a h.b h.t hA hB pu_kd i j (Int32.ofNat st) (Int32.ofNat sz)
  rw [h.x, h.y] at e
  refine ⟨_, e, ?_⟩
  unfold pu_AO34
  refine pu_Ext.row ?_
  unfold pu_ordRow pu_mk
  refine pu_rowF_eq rfl rfl rfl rfl rfl rfl rfl rfl rfl ?_ rfl h.tl h.nm h.sp
  rw [h.f, pu_n_lit 1, pu_n_sub (by omega)]; rfl
theorem pu_bi_ok (b : Bool) : pu_bi b = 0 ∨ pu_bi b = 1 := by cases b <;> simp [pu_bi]
theorem pu_bi_inj {b : Bool} : pu_bi b = 0 ↔ b = false := by cases b <;> simp [pu_bi]
theorem pu_li_size {k : Nat} (hk : k < 20) : f_Li_size (Int32.ofNat k) m mL = some (m 38 k, m, mL) := by
  unfold f_Li_size f_Li_size_b0 f_Li_size_b23
  simp (disch := omega) only [pu_n_lit, pu_n_add, pu_n_mul, pu_n_sub, pu_n_div, pu_n_nat, pu_q_ltT, pu_q_ltF, pu_q_leT, pu_q_leF, pu_q_eqT, pu_q_eqF, pu_n_lt, pu_n_le, pu_n_eq, pu_p_ltT, pu_p_ltF, pu_p_leT, pu_p_leF, not_true_eq_false, not_false_eq_true, or_false, false_or, or_true, true_or, and_true, true_and, and_false, false_and, ↓reduceIte, pu_b_some]
theorem pu_li_start {k : Nat} (hk : k < 20) : f_Li_start (Int32.ofNat k) m mL = some (m 37 k, m, mL) := by
  unfold f_Li_start f_Li_start_b0 f_Li_start_b23
  simp (disch := omega) only [pu_n_lit, pu_n_add, pu_n_mul, pu_n_sub, pu_n_div, pu_n_nat, pu_q_ltT, pu_q_ltF, pu_q_leT, pu_q_leF, pu_q_eqT, pu_q_eqF, pu_n_lt, pu_n_le, pu_n_eq, pu_p_ltT, pu_p_ltF, pu_p_leT, pu_p_leF, not_true_eq_false, not_false_eq_true, or_false, false_or, or_true, true_or, and_true, true_and, and_false, false_and, ↓reduceIte, pu_b_some]
theorem pu_pr_cb (s l : Int32) : f_Pr_cellsBefore s l m mL = some (pu_cb s l, m, mL) := by
  unfold f_Pr_cellsBefore f_Pr_cellsBefore_b0 f_Pr_cellsBefore_b18 pu_cb
  by_cases h0 : s = 0
  · simp [h0]
  · by_cases h1 : s = 1
    · simp [h1]
    · simp [h0, h1]
theorem pu_linesO_len (R : pu_Fd) : ∀ (k : Nat) (L : List (Nat × Nat)), (pu_linesO R k L).length = L.length
  | _, [] => rfl
  | k, q :: r => by simp [pu_linesO, pu_linesO_len R (k + 1) r]
theorem pu_dr_lines (hA : A ≤ 120) : ∀ (L : List (Nat × Nat)) (k N B : Nat) (m : tm_I) (n : Nat), pu_Dr m mL R A B F → B + L.length ≤ 900 → k + L.length = n → n ≤ 20 → L.length < N → (∀ (j : Nat) (hj : j < L.length), m 37 (k + j) = Int32.ofNat L[j].1 ∧ m 38 (k + j) = Int32.ofNat L[j].2) →
    ∃ m', f_Pr_drawBlock_l33 N (R.sh 0) (Int32.ofNat n) (Int32.ofNat k) m mL = some (pu_bi ((pu_linesO R k L).all pu_nearO), m', mL) ∧ pu_frO m m' ∧ ((pu_linesO R k L).all pu_nearO = true → pu_Ext m m' A B (pu_linesO R k L) F) := by
  intro L
  induction L with
  | nil =>
    intro k N B m n h hB hk hn hN hj
    obtain ⟨N, rfl⟩ : ∃ n', N = n' + 1 := ⟨N - 1, by omega⟩
    simp only [List.length_nil, Nat.add_zero] at hk
    refine ⟨m, ?_, fun _ _ _ _ _ _ => rfl, fun _ => pu_Ext.none h.b (fun _ _ _ _ => rfl)⟩
    rw [f_Pr_drawBlock_l33, if_pos (by simp (disch := omega) only [pu_n_lit, pu_n_add, pu_n_mul, pu_n_sub, pu_n_div, pu_n_nat, pu_q_ltT, pu_q_ltF, pu_q_leT, pu_q_leF, pu_q_eqT, pu_q_eqF, pu_n_lt, pu_n_le, pu_n_eq, pu_p_ltT, pu_p_ltF, pu_p_leT, pu_p_leF, not_true_eq_false, not_false_eq_true, or_false, false_or, or_true, true_or, and_true, true_and, and_false, false_and, ↓reduceIte, pu_b_some]), if_neg]
    · rfl
    · intro q
      rw [← Int32.toInt_inj, pu_n_toInt (by omega)] at q
      rw [show (-1 : Int32).toInt = -1 from rfl] at q; omega
  | cons q L ih =>
    intro k N B m n h hB hk hn hN hj
    obtain ⟨N, rfl⟩ : ∃ n', N = n' + 1 := ⟨N - 1, by omega⟩
    simp only [List.length_cons] at hB hk hN
    obtain ⟨s1, s2⟩ := hj 0 (by simp)
    simp only [Nat.add_zero, List.getElem_cons_zero] at s1 s2
    have g3 : f_Fo_get 30 3 m mL = some (R.sh 3, m, mL) := by rw [← h.sh 3 (by decide)]; exact pu_fg30 (i := 3) (by decide)
    have g2 : f_Fo_get 30 2 m mL = some (R.sh 2, m, mL) := by rw [← h.sh 2 (by decide)]; exact pu_fg30 (i := 2) (by decide)
    have g1 : f_Fo_get 30 1 m mL = some (R.sh 1, m, mL) := by rw [← h.sh 1 (by decide)]; exact pu_fg30 (i := 1) (by decide)
    obtain ⟨m1, a1, a2⟩ := pu_dr_add32 h (by omega) (by omega) 0 (R.sh 3 * pu_cb (R.sh 2) (R.sh 0 - Int32.ofNat q.2)) (Int32.ofNat k * R.sh 1) q.1 q.2
    rw [h.tx 3 (by decide), h.tx 0 (by decide), h.tx 1 (by decide), h.tx 2 (by decide)] at a1 a2
    have F1 : f_Pr_drawBlock_l33 (N + 1) (R.sh 0) (Int32.ofNat n) (Int32.ofNat k) m mL = if ¬ pu_bi (pu_nearO (pu_lineO R k q)) = 0 then f_Pr_drawBlock_l33 N (R.sh 0) (Int32.ofNat n) (Int32.ofNat (k + 1)) m1 mL else some (0, m1, mL) := by
      rw [f_Pr_drawBlock_l33, if_neg (by simp (disch := omega) only [pu_n_lit, pu_n_add, pu_n_mul, pu_n_sub, pu_n_div, pu_n_nat, pu_q_ltT, pu_q_ltF, pu_q_leT, pu_q_leF, pu_q_eqT, pu_q_eqF, pu_n_lt, pu_n_le, pu_n_eq, pu_p_ltT, pu_p_ltF, pu_p_leT, pu_p_leF, not_true_eq_false, not_false_eq_true, or_false, false_or, or_true, true_or, and_true, true_and, and_false, false_and, ↓reduceIte, pu_b_some]), pu_li_size (by omega), pu_b_some]
      simp only []
      rw [g3, pu_b_some]
      simp only []
      rw [g2, pu_b_some]
      simp only []
      rw [pu_pr_cb, pu_b_some]
      simp only []
      rw [g1, pu_b_some]
      simp only []
      rw [pu_li_start (by omega), pu_b_some]
      simp only []
      rw [s1, s2, a1, pu_b_some, pu_n_lit 1, pu_n_add]
      rfl
    rw [F1, pu_linesO, List.all_cons]
    cases hq : pu_nearO (pu_lineO R k q)
    · refine ⟨m1, ?_, a2.o, fun w => by simp at w⟩
      simp [pu_bi]
    · rw [if_pos (by simp [pu_bi])]
      have hm1 : pu_Dr m1 mL R A (B + 1) F := h.ext a2
      obtain ⟨m', b1, b2, b3⟩ := ih (k + 1) N (B + 1) m1 n hm1 (by omega) (by omega) hn (by omega) (fun j hj2 => by
        have := hj (j + 1) (by simp; omega)
        simp only [List.getElem_cons_succ] at this
        rw [show k + (j + 1) = k + 1 + j by omega] at this
        have e37 : m1 37 = m 37 := by
          have := pu_pr_add32 (mL := mL) h.a h.b h.t (by omega : A ≤ 1000) (by omega) 0 (R.sh 3 * pu_cb (R.sh 2) (R.sh 0 - Int32.ofNat q.2)) (Int32.ofNat k * R.sh 1) (Int32.ofNat q.1) (Int32.ofNat q.2)
          rw [this] at a1
          simp only [Option.some.injEq, Prod.mk.injEq] at a1
          rw [← a1.2.1]; unfold pu_AO32
          split
          · rw [pu_W14_o (by decide)]; funext b; exact tm_up_o (by decide)
          · funext b; exact tm_up_o (by decide)
        have e38 : m1 38 = m 38 := by
          have := pu_pr_add32 (mL := mL) h.a h.b h.t (by omega : A ≤ 1000) (by omega) 0 (R.sh 3 * pu_cb (R.sh 2) (R.sh 0 - Int32.ofNat q.2)) (Int32.ofNat k * R.sh 1) (Int32.ofNat q.1) (Int32.ofNat q.2)
          rw [this] at a1
          simp only [Option.some.injEq, Prod.mk.injEq] at a1
          rw [← a1.2.1]; unfold pu_AO32
          split
          · rw [pu_W14_o (by decide)]; funext b; exact tm_up_o (by decide)
          · funext b; exact tm_up_o (by decide)
        rw [e37, e38]
        exact this)
      refine ⟨m', ?_, fun a q1 q2 q3 q4 q5 => (b2 a q1 q2 q3 q4 q5).trans (a2.o a q1 q2 q3 q4 q5), fun w => ?_⟩
      · rw [b1]; simp
      · have w2 : (pu_linesO R (k + 1) L).all pu_nearO = true := by simpa using w
        exact a2.trans (b3 w2)
end DRAW
def pu_Fl (m : tm_I) (mL : tm_L) (R : pu_Fd) : Prop := (m 19 8 + m 26 3 = R.x) ∧ (m 19 9 + m 26 4 = R.y) ∧ (m 26 2 = R.lt) ∧ (m 26 5 = pu_bi R.t) ∧ (m 26 6 = pu_bi R.cnt) ∧ (m 26 7 = R.sp) ∧ (∀ i, i < 4 → m 31 i = R.sh i) ∧ (∀ i, i < 4 → m 33 i = R.tx i) ∧ (pu_TD m mL R.D)
theorem pu_Fl.x {m : tm_I} {mL : tm_L} {R : pu_Fd} (h_ : pu_Fl m mL R) : m 19 8 + m 26 3 = R.x := h_.1
theorem pu_Fl.y {m : tm_I} {mL : tm_L} {R : pu_Fd} (h_ : pu_Fl m mL R) : m 19 9 + m 26 4 = R.y := h_.2.1
theorem pu_Fl.lt {m : tm_I} {mL : tm_L} {R : pu_Fd} (h_ : pu_Fl m mL R) : m 26 2 = R.lt := h_.2.2.1
theorem pu_Fl.t {m : tm_I} {mL : tm_L} {R : pu_Fd} (h_ : pu_Fl m mL R) : m 26 5 = pu_bi R.t := h_.2.2.2.1
theorem pu_Fl.cn {m : tm_I} {mL : tm_L} {R : pu_Fd} (h_ : pu_Fl m mL R) : m 26 6 = pu_bi R.cnt := h_.2.2.2.2.1
theorem pu_Fl.sp {m : tm_I} {mL : tm_L} {R : pu_Fd} (h_ : pu_Fl m mL R) : m 26 7 = R.sp := h_.2.2.2.2.2.1
theorem pu_Fl.sh {m : tm_I} {mL : tm_L} {R : pu_Fd} (h_ : pu_Fl m mL R) : ∀ i, i < 4 → m 31 i = R.sh i := h_.2.2.2.2.2.2.1
theorem pu_Fl.tx {m : tm_I} {mL : tm_L} {R : pu_Fd} (h_ : pu_Fl m mL R) : ∀ i, i < 4 → m 33 i = R.tx i := h_.2.2.2.2.2.2.2.1
theorem pu_Fl.td {m : tm_I} {mL : tm_L} {R : pu_Fd} (h_ : pu_Fl m mL R) : pu_TD m mL R.D := h_.2.2.2.2.2.2.2.2
def pu_kindL (l : Int32) : Prop := l = 84 ∨ l = 87 ∨ l = 66 ∨ l = 78 ∨ l = 81 ∨ l = 70 ∨ l = 73 ∨ l = 71 ∨ l = 80
def pu_WFd (R : pu_Fd) : Prop := (pu_kindL R.lt) ∧ (R.lt = 87 → ∃ n, 1 ≤ n ∧ n ≤ 99 ∧ R.sh 0 = Int32.ofNat n) ∧ (R.lt = 80 → ∃ n, 1 ≤ n ∧ n ≤ 1024 ∧ R.sh 0 = Int32.ofNat n) ∧ (R.lt = 70 ∨ R.lt = 73 ∨ R.lt = 71 ∨ R.lt = 80 → R.sh 3 = 0) ∧ (R.lt = 80 → R.sh 1 = 0 ∧ R.sh 2 = 0)
theorem pu_WFd.k {R : pu_Fd} (h_ : pu_WFd R) : pu_kindL R.lt := h_.1
theorem pu_WFd.w {R : pu_Fd} (h_ : pu_WFd R) : R.lt = 87 → ∃ n, 1 ≤ n ∧ n ≤ 99 ∧ R.sh 0 = Int32.ofNat n := h_.2.1
theorem pu_WFd.p {R : pu_Fd} (h_ : pu_WFd R) : R.lt = 80 → ∃ n, 1 ≤ n ∧ n ≤ 1024 ∧ R.sh 0 = Int32.ofNat n := h_.2.2.1
theorem pu_WFd.z3 {R : pu_Fd} (h_ : pu_WFd R) : R.lt = 70 ∨ R.lt = 73 ∨ R.lt = 71 ∨ R.lt = 80 → R.sh 3 = 0 := h_.2.2.2.1
theorem pu_WFd.z1 {R : pu_Fd} (h_ : pu_WFd R) : R.lt = 80 → R.sh 1 = 0 ∧ R.sh 2 = 0 := h_.2.2.2.2
section FIELD
variable {m : tm_I} {mL : tm_L} {R : pu_Fd} {A B F : Nat}
theorem pu_sh_addField (h : pu_Fl m mL R) (hF : m 20 6 = Int32.ofNat F) (hF2 : F < 99999) (c0 : m 23 0 = 200) (c1 : m 23 1 = 25) : ∃ m1 mL1, f_Sh_addField m mL = some (0, m1, mL1) ∧ (∀ a, a ≠ 20 → a ≠ 24 → m1 a = m a) ∧ (∀ e, e ≠ 25 → mL1 e = mL e) ∧ (∀ b, b ≠ 6 → b ≠ 7 → b ≠ 8 → m1 20 b = m 20 b) ∧ m1 20 6 = Int32.ofNat (F + 1) ∧ m1 20 7 = Int32.ofNat (pu_tailOf R.cnt R.D) ∧ m1 20 8 = Int32.ofNat (pu_spNum R.D.reverse 0 (pu_tailOf R.cnt R.D)) ∧ (F < 120 → pu_Row (m1 24) (mL1 25) 25 F R.D) ∧ (∀ r T, r ≠ F → T.length ≤ 200 → pu_Row (m 24) (mL 25) 25 r T → pu_Row (m1 24) (mL1 25) 25 r T) := by
  have hl := h.td.len
  obtain ⟨ma, mLa, a1, a2, a3, a4, a5⟩ : ∃ ma mLa, f_Ro_copy_23_27 (m 20 6) 0 m mL = some (0, ma, mLa) ∧ (∀ a, a ≠ 24 → ma a = m a) ∧ (∀ e, e ≠ 25 → mLa e = mL e) ∧ (F < 120 → pu_Row (ma 24) (mLa 25) 25 F R.D) ∧ (∀ r T, r ≠ F → T.length ≤ 200 → pu_Row (m 24) (mL 25) 25 r T → pu_Row (ma 24) (mLa 25) 25 r T) := by
    rw [hF]
    by_cases hq : F < 120
    · refine ⟨_, _, pu_co_23_27 hl hq h.td.row c0 c1 h.td.wid, fun a ha => by funext b; exact tm_up_o ha, fun e he => pu_tm_cpy_ne he, fun _ => h.td.row.cpy (tm_up_eq _ _ _ _), fun r T hr hT H => ?_⟩
      exact H.cpy_o hT (tm_up_k hr) hr (by omega)
    · exact ⟨m, mL, pu_co_23_27_no (by omega) (by omega), fun _ _ => rfl, fun _ _ => rfl, fun q => absurd q hq, fun r T _ _ H => H⟩
  have t2 : pu_TD (tm_up ma 20 6 (ma 20 6 + 1)) mLa R.D := h.td.fr (by funext b; rw [tm_up_o (by decide), a2 28 (by decide)]) (by funext b; rw [tm_up_o (by decide), a2 27 (by decide)]) (a3 29 (by decide))
  have t3 : pu_TD (tm_up (tm_up ma 20 6 (ma 20 6 + 1)) 20 7 (Int32.ofNat (pu_tailOf R.cnt R.D))) mLa R.D := t2.fr (by funext b; rw [tm_up_o (by decide)]) (by funext b; rw [tm_up_o (by decide)]) rfl
  refine ⟨tm_up (tm_up (tm_up ma 20 6 (ma 20 6 + 1)) 20 7 (Int32.ofNat (pu_tailOf R.cnt R.D))) 20 8 (Int32.ofNat (pu_spNum R.D.reverse 0 (pu_tailOf R.cnt R.D))), mLa, ?_, fun a q1 q2 => ?_, a3, fun b q1 q2 q3 => ?_, ?_, ?_, ?_, ?_, ?_⟩
  · unfold f_Sh_addField f_Sh_addField_b0
    rw [a1, pu_b_some]
    simp only []
    rw [pu_fi_tail t2 (cnt := R.cnt) (by rw [tm_up_o (by decide), a2 26 (by decide)]; exact h.cn), pu_b_some]
    simp only [tm_up_eq]
    rw [pu_fi_number t3 (pu_tailOf_le _ _).1 (pu_tailOf_dig _ _), pu_b_some]
  · funext b; rw [tm_up_o q1, tm_up_o q1, tm_up_o q1, a2 a q2]
  · rw [tm_up_k q3, tm_up_k q2, tm_up_k q1, a2 20 (by decide)]
  · rw [tm_up_k (by decide), tm_up_k (by decide), tm_up_eq, a2 20 (by decide), hF, pu_n_lit 1, pu_n_add]
  · rw [tm_up_k (by decide), tm_up_eq]
  · rw [tm_up_eq]
  · intro q
    have e : tm_up (tm_up (tm_up ma 20 6 (ma 20 6 + 1)) 20 7 (Int32.ofNat (pu_tailOf R.cnt R.D))) 20 8 (Int32.ofNat (pu_spNum R.D.reverse 0 (pu_tailOf R.cnt R.D))) 24 = ma 24 := by
      funext b; rw [tm_up_o (by decide), tm_up_o (by decide), tm_up_o (by decide)]
    rw [e]; exact a4 q
  · intro r T hr hT H
    have e : tm_up (tm_up (tm_up ma 20 6 (ma 20 6 + 1)) 20 7 (Int32.ofNat (pu_tailOf R.cnt R.D))) 20 8 (Int32.ofNat (pu_spNum R.D.reverse 0 (pu_tailOf R.cnt R.D))) 24 = ma 24 := by
      funext b; rw [tm_up_o (by decide), tm_up_o (by decide), tm_up_o (by decide)]
    rw [e]; exact a5 r T hr hT H
def pu_DrQ (f : Option (Int32 × tm_I × tm_L)) (m : tm_I) (mL : tm_L) (A B F : Nat) (ok : Bool) (os : List pu_Od) : Prop := ∃ m', f = some (pu_bi ok, m', mL) ∧ pu_frO m m' ∧ (ok = true → pu_Ext m m' A B os F)
theorem pu_pr_block (h : pu_Dr m mL R A B F) (hw : R.lt = 87) (w : pu_WFd R) (hA : A ≤ 120) (hB : B ≤ 120) : pu_DrQ (f_Pr_drawBlock m mL) m mL A B F (pu_okF R) (pu_ords R) := by
  obtain ⟨n, n1, n2, n3⟩ := w.w hw
  have e0 : pu_ords R = pu_linesO R 0 (pu_linesOf R) := by unfold pu_ords; rw [if_pos hw]
  have e1 : pu_okF R = ((pu_linesO R 0 (pu_linesOf R)).all pu_nearO && decide ((pu_linesOf R).length ≤ 20)) := by unfold pu_okF; rw [if_pos hw, e0]
  have el : pu_linesOf R = pu_spLines n R.D 202 0 := by unfold pu_linesOf; rw [n3, pu_n_nat (by omega)]
  have hl := h.td.len
  have g0 : f_Fo_get 30 0 m mL = some (R.sh 0, m, mL) := by rw [← h.sh 0 (by decide)]; exact pu_fg30 (i := 0) (by decide)
  obtain ⟨m1, a1, a2, a3, a4⟩ := pu_li_cut1 (mL := mL) (D := R.D) n1 (by omega) 20 0 tm_F 202 0 m h.td (by omega) (by decide) (by omega) (by omega)
  rw [← el] at a1 a4
  simp only [Nat.zero_add] at a1 a4
  have E0 : pu_Ext m m1 A B [] F := pu_Ext.none h.b (fun a _ q1 q2 => a2 a q1 q2)
  have hD := h.ext E0
  have F1 : f_Pr_drawBlock m mL = f_Pr_drawBlock_l33 tm_F (R.sh 0) (if (pu_linesOf R).length ≤ 20 then Int32.ofNat (pu_linesOf R).length else -1) 0 m1 mL := by
    unfold f_Pr_drawBlock f_Pr_drawBlock_b0
    rw [g0, pu_b_some]
    simp only []
    unfold f_Li_cut f_Li_cut_b0
    rw [n3]
    have a1' : f_Li_cut_l5 tm_F (Int32.ofNat n) 0 0 m mL = _ := a1
    rw [a1', pu_b_some]
  rw [F1]
  by_cases h20 : (pu_linesOf R).length ≤ 20
  · rw [if_pos h20]
    obtain ⟨m', b1, b2, b3⟩ := pu_dr_lines hA (pu_linesOf R) 0 tm_F B m1 (pu_linesOf R).length (by simpa using hD) (by omega) (by omega) h20 (by unfold tm_F; omega) (fun j hj => by
      have := a4 h20 j hj
      rw [Nat.zero_add]; exact this)
    refine ⟨m', ?_, fun a q1 q2 q3 q4 q5 => (b2 a q1 q2 q3 q4 q5).trans (E0.o a q1 q2 q3 q4 q5), fun w2 => ?_⟩
    · have b1' : f_Pr_drawBlock_l33 tm_F (R.sh 0) (Int32.ofNat (pu_linesOf R).length) 0 m1 mL = _ := b1
      rw [b1', e1, decide_eq_true h20, Bool.and_true]
    · rw [e1, decide_eq_true h20, Bool.and_true] at w2
      rw [e0]
      have := E0.trans (b3 w2)
      simpa using this
  · rw [if_neg h20]
    refine ⟨m1, ?_, E0.o, fun w2 => ?_⟩
    · rw [e1, decide_eq_false h20, Bool.and_false]
      rw [show tm_F = 99999 + 1 from rfl, f_Pr_drawBlock_l33, if_pos (by decide), if_pos rfl]
      rfl
    · rw [e1, decide_eq_false h20, Bool.and_false] at w2; cases w2
theorem pu_DrQ.one {f : Option (Int32 × tm_I × tm_L)} {o : pu_Od} {m' : tm_I} (e : f = some (pu_bi (pu_nearO o), m', mL)) (x : pu_Ext m m' A B [o] F) : pu_DrQ (f.bind fun v => if v.1 = 0 ∨ v.1 = 1 then some (v.1, v.2.1, v.2.2) else none) m mL A B F (pu_nearO o) [o] := by
  refine ⟨m', ?_, x.o, fun _ => x⟩
  rw [e, pu_b_some]
  simp only []
  rw [if_pos (pu_bi_ok _)]
end FIELD
section WHOLE
variable {m : tm_I} {mL : tm_L} {R : pu_Fd} {A B F : Nat}
def pu_ord1 (R : pu_Fd) : pu_Od :=
  if R.lt = 66 then pu_mk R 1 (R.sh 2) 0 0 (R.sh 0) (R.sh 1) 0 0 R.D.length
  else if R.lt = 78 then pu_mk R 2 (R.sh 2) 0 0 (R.sh 0) (R.sh 1) 0 0 R.D.length
  else if R.lt = 84 then pu_mk R 0 (R.sh 3) 0 0 (R.sh 0) (R.sh 1) (R.sh 2) 0 R.D.length
  else if R.lt = 81 then pu_mk R 3 (R.sh 3) 0 0 (R.sh 0) (R.sh 1) (R.sh 2) 0 R.D.length
  else if R.lt = 70 then pu_mk R 4 (R.sh 3) 0 0 (R.sh 0) (R.sh 1) (R.sh 2) 0 0
  else if R.lt = 73 then pu_mk R 5 (R.sh 3) 0 0 (R.sh 0) (R.sh 1) (R.sh 2) 0 0
  else if R.lt = 71 then pu_mk R 6 (R.sh 3) 0 0 (R.sh 0) (R.sh 1) (R.sh 2) 0 0
  else pu_mk R 7 (R.sh 3) 0 0 (R.sh 0) (R.sh 1) (R.sh 2) 0 (R.D.length / 2)
def pu_ok1 (R : pu_Fd) : Bool := pu_nearO (pu_ord1 R) && (if R.lt = 71 then pu_near (R.x + R.sh 0) && pu_near (R.y + R.sh 1) else true)
theorem pu_dr_a30 (h : pu_Dr m mL R A B F) (hA : A ≤ 1000) (hB : B ≤ 1000) (pu_kd : Int32) (sz : Nat) : ∃ m', f_Pr_add_30 pu_kd 0 0 0 (Int32.ofNat sz) m mL = some (pu_bi (pu_nearO (pu_mk R pu_kd (R.sh 3) 0 0 (R.sh 0) (R.sh 1) (R.sh 2) 0 sz)), m', mL) ∧ pu_Ext m m' A B [pu_mk R pu_kd (R.sh 3) 0 0 (R.sh 0) (R.sh 1) (R.sh 2) 0 sz] F := by
  obtain ⟨m', a1, a2⟩ := pu_dr_add30 h hA hB pu_kd 0 0 0 sz
  rw [h.sh 3 (by decide), h.sh 0 (by decide), h.sh 1 (by decide), h.sh 2 (by decide)] at a1 a2
  exact ⟨m', a1, a2⟩
theorem pu_dr_a34 (h : pu_Dr m mL R A B F) (hA : A ≤ 1000) (hB : B ≤ 1000) (pu_kd j : Int32) (sz : Nat) (v0 v1 v2 v3 : Int32) : ∃ m', f_Pr_add_34 pu_kd 0 j 0 (Int32.ofNat sz) (tm_up (tm_up (tm_up (tm_up m 35 0 v0) 35 1 v1) 35 2 v2) 35 3 v3) mL = some (pu_bi (pu_nearO (pu_mk R pu_kd v3 0 j v0 v1 v2 0 sz)), m', mL) ∧ pu_Ext m m' A B [pu_mk R pu_kd v3 0 j v0 v1 v2 0 sz] F := by
  have E0 : pu_Ext m (tm_up (tm_up (tm_up (tm_up m 35 0 v0) 35 1 v1) 35 2 v2) 35 3 v3) A B [] F := pu_Ext.none h.b (fun a q _ _ => by funext b; rw [tm_up_o q, tm_up_o q, tm_up_o q, tm_up_o q])
  have h2 : pu_Dr (tm_up (tm_up (tm_up (tm_up m 35 0 v0) 35 1 v1) 35 2 v2) 35 3 v3) mL R A B F := h.ext E0
  obtain ⟨m', a1, a2⟩ := pu_dr_add34 h2 hA hB pu_kd 0 j 0 sz
  have q0 : tm_up (tm_up (tm_up (tm_up m 35 0 v0) 35 1 v1) 35 2 v2) 35 3 v3 35 0 = v0 := by simp [tm_up]
  have q1 : tm_up (tm_up (tm_up (tm_up m 35 0 v0) 35 1 v1) 35 2 v2) 35 3 v3 35 1 = v1 := by simp [tm_up]
  have q2 : tm_up (tm_up (tm_up (tm_up m 35 0 v0) 35 1 v1) 35 2 v2) 35 3 v3 35 2 = v2 := by simp [tm_up]
  have q3 : tm_up (tm_up (tm_up (tm_up m 35 0 v0) 35 1 v1) 35 2 v2) 35 3 v3 35 3 = v3 := by simp [tm_up]
  rw [q0, q1, q2, q3] at a1 a2
  refine ⟨m', a1, ?_⟩
  have := E0.trans (os2 := [pu_mk R pu_kd v3 0 j v0 v1 v2 0 sz]) a2
  simpa using this
theorem pu_dg30 (h : pu_Dr m mL R A B F) : f_Fo_get 30 0 m mL = some (R.sh 0, m, mL) ∧ f_Fo_get 30 1 m mL = some (R.sh 1, m, mL) ∧ f_Fo_get 30 2 m mL = some (R.sh 2, m, mL) ∧ f_Fo_get 30 3 m mL = some (R.sh 3, m, mL) := by
  refine ⟨?_, ?_, ?_, ?_⟩
  · rw [← h.sh 0 (by decide)]; exact pu_fg30 (i := 0) (by decide)
  · rw [← h.sh 1 (by decide)]; exact pu_fg30 (i := 1) (by decide)
  · rw [← h.sh 2 (by decide)]; exact pu_fg30 (i := 2) (by decide)
  · rw [← h.sh 3 (by decide)]; exact pu_fg30 (i := 3) (by decide)
theorem pu_dg32 (h : pu_Dr m mL R A B F) : f_Fo_get 32 0 m mL = some (R.tx 0, m, mL) ∧ f_Fo_get 32 1 m mL = some (R.tx 1, m, mL) ∧ f_Fo_get 32 2 m mL = some (R.tx 2, m, mL) := by
  refine ⟨?_, ?_, ?_⟩
  · rw [← h.tx 0 (by decide)]; exact pu_fg32 (i := 0) (by decide)
  · rw [← h.tx 1 (by decide)]; exact pu_fg32 (i := 1) (by decide)
  · rw [← h.tx 2 (by decide)]; exact pu_fg32 (i := 2) (by decide)
theorem pu_pr_whole (h : pu_Dr m mL R A B F) (hw : R.lt ≠ 87) (w : pu_WFd R) (hA : A ≤ 120) (hB : B ≤ 120) : pu_DrQ (f_Pr_drawWhole m mL) m mL A B F (pu_ok1 R) [pu_ord1 R] := by
  have hl := h.td.len
  have hA' : A ≤ 1000 := by omega
  have hB' : B ≤ 1000 := by omega
  obtain ⟨g0, g1, g2, g3⟩ := pu_dg30 h
  unfold f_Pr_drawWhole f_Pr_drawWhole_b0
  rw [pu_td_size h.td, pu_b_some]
  simp only [h.lt]
  rcases w.k with k | k | k | k | k | k | k | k | k
  · -- T
    have o1 : pu_ord1 R = pu_mk R 0 (R.sh 3) 0 0 (R.sh 0) (R.sh 1) (R.sh 2) 0 R.D.length := by unfold pu_ord1; rw [k]; rfl
    have o2 : pu_ok1 R = pu_nearO (pu_ord1 R) := by unfold pu_ok1; rw [if_neg (by rw [k]; decide), Bool.and_true]
    obtain ⟨m', a1, a2⟩ := pu_dr_a30 h hA' hB' 0 R.D.length
    rw [← o1] at a1 a2
    rw [o2]
    simp only [k]
    exact pu_DrQ.one a1 a2
  · exact absurd k hw
  · -- B
    have o1 : pu_ord1 R = pu_mk R 1 (R.sh 2) 0 0 (R.sh 0) (R.sh 1) 0 0 R.D.length := by unfold pu_ord1; rw [k]; rfl
    have o2 : pu_ok1 R = pu_nearO (pu_ord1 R) := by unfold pu_ok1; rw [if_neg (by rw [k]; decide), Bool.and_true]
    obtain ⟨m', a1, a2⟩ := pu_dr_a34 h hA' hB' 1 0 R.D.length (R.sh 0) (R.sh 1) 0 (R.sh 2)
    rw [← o1] at a1 a2
    rw [o2, if_pos k]
    unfold f_Pr_drawWhole_b127
    rw [g0, pu_b_some]
    simp only []
    rw [g1, pu_b_some]
    simp only []
    rw [g2, pu_b_some]
    simp only []
    rw [pu_fo_setAll (c := 35) rfl rfl, pu_b_some]
    simp only [tm_up_o (show 26 ≠ 35 by decide), h.lt]
    rw [if_neg (fun q => q k)]
    unfold f_Pr_drawWhole_b168
    exact pu_DrQ.one a1 a2
  · -- N
    have o1 : pu_ord1 R = pu_mk R 2 (R.sh 2) 0 0 (R.sh 0) (R.sh 1) 0 0 R.D.length := by unfold pu_ord1; rw [k]; rfl
    have o2 : pu_ok1 R = pu_nearO (pu_ord1 R) := by unfold pu_ok1; rw [if_neg (by rw [k]; decide), Bool.and_true]
    obtain ⟨m', a1, a2⟩ := pu_dr_a34 h hA' hB' 2 0 R.D.length (R.sh 0) (R.sh 1) 0 (R.sh 2)
    rw [← o1] at a1 a2
    rw [o2, if_neg (by rw [k]; decide), if_neg (by rw [k]; decide), if_neg (by rw [k]; decide), if_neg (by rw [k]; decide), if_pos k]
    unfold f_Pr_drawWhole_b127
    rw [g0, pu_b_some]
    simp only []
    rw [g1, pu_b_some]
    simp only []
    rw [g2, pu_b_some]
    simp only []
    rw [pu_fo_setAll (c := 35) rfl rfl, pu_b_some]
    simp only [tm_up_o (show 26 ≠ 35 by decide), h.lt]
    rw [if_pos (by rw [k]; decide)]
    unfold f_Pr_drawWhole_b168
    exact pu_DrQ.one a1 a2
  · -- Q
    have o1 : pu_ord1 R = pu_mk R 3 (R.sh 3) 0 0 (R.sh 0) (R.sh 1) (R.sh 2) 0 R.D.length := by unfold pu_ord1; rw [k]; rfl
    have o2 : pu_ok1 R = pu_nearO (pu_ord1 R) := by unfold pu_ok1; rw [if_neg (by rw [k]; decide), Bool.and_true]
    obtain ⟨m', a1, a2⟩ := pu_dr_a30 h hA' hB' 3 R.D.length
    rw [← o1] at a1 a2
    rw [o2]
    simp only [k]
    exact pu_DrQ.one a1 a2
  · -- F
    have o1 : pu_ord1 R = pu_mk R 4 (R.sh 3) 0 0 (R.sh 0) (R.sh 1) (R.sh 2) 0 0 := by unfold pu_ord1; rw [k]; rfl
    have o2 : pu_ok1 R = pu_nearO (pu_ord1 R) := by unfold pu_ok1; rw [if_neg (by rw [k]; decide), Bool.and_true]
    obtain ⟨m', a1, a2⟩ := pu_dr_a30 h hA' hB' 4 0
    rw [← o1] at a1 a2
    rw [o2]
    simp only [k]
    exact pu_DrQ.one a1 a2
  · -- I
    have o1 : pu_ord1 R = pu_mk R 5 (R.sh 3) 0 0 (R.sh 0) (R.sh 1) (R.sh 2) 0 0 := by unfold pu_ord1; rw [k]; rfl
    have o2 : pu_ok1 R = pu_nearO (pu_ord1 R) := by unfold pu_ok1; rw [if_neg (by rw [k]; decide), Bool.and_true]
    obtain ⟨m', a1, a2⟩ := pu_dr_a30 h hA' hB' 5 0
    rw [← o1] at a1 a2
    rw [o2]
    simp only [k]
    exact pu_DrQ.one a1 a2
  · -- G
    have o1 : pu_ord1 R = pu_mk R 6 (R.sh 3) 0 0 (R.sh 0) (R.sh 1) (R.sh 2) 0 0 := by unfold pu_ord1; rw [k]; rfl
    have o2 : pu_ok1 R = (pu_nearO (pu_ord1 R) && (pu_near (R.x + R.sh 0) && pu_near (R.y + R.sh 1))) := by unfold pu_ok1; rw [if_pos k]
    obtain ⟨m', a1, a2⟩ := pu_dr_a30 h hA' hB' 6 0
    rw [← o1] at a1 a2
    have h2 : pu_Dr m' mL R A (B + 1) F := h.ext a2
    obtain ⟨g0', g1', _, _⟩ := pu_dg30 h2
    have ee : f_Pr_endsNear m' mL = some (pu_bi (pu_near (R.x + R.sh 0) && pu_near (R.y + R.sh 1)), m', mL) := by
      unfold f_Pr_endsNear f_Pr_endsNear_b0 f_Pr_endsNear_b60 f_Pr_endsNear_b61
      rw [g0', pu_b_some]
      simp only []
      rw [h2.x, pu_la_near, pu_b_some]
      simp only []
      cases pu_near (R.x + R.sh 0)
      · simp [pu_bi]
      · rw [if_neg (by simp [pu_bi]), g1', pu_b_some]
        simp only []
        rw [h2.y, pu_la_near, pu_b_some]
        cases pu_near (R.y + R.sh 1)
        · simp [pu_bi]
        · simp [pu_bi]
    rw [o2]
    simp only [k]
    refine ⟨m', ?_, a2.o, fun _ => a2⟩
    have a1' : f_Pr_add_30 6 0 0 0 0 m mL = _ := a1
    simp only [show ((71 : Int32) = 66) = False by decide, show ((71 : Int32) = 70) = False by decide, if_false, if_true]
    rw [a1', pu_b_some]
    simp only []
    unfold f_Pr_drawWhole_b238 f_Pr_drawWhole_b239
    cases pu_nearO (pu_ord1 R)
    · simp [pu_bi]
    · rw [if_neg (by simp [pu_bi]), ee, pu_b_some]
      cases (pu_near (R.x + R.sh 0) && pu_near (R.y + R.sh 1))
      · simp [pu_bi]
      · simp [pu_bi]
  · -- P
    have o1 : pu_ord1 R = pu_mk R 7 (R.sh 3) 0 0 (R.sh 0) (R.sh 1) (R.sh 2) 0 (R.D.length / 2) := by unfold pu_ord1; rw [k]; rfl
    have o2 : pu_ok1 R = pu_nearO (pu_ord1 R) := by unfold pu_ok1; rw [if_neg (by rw [k]; decide), Bool.and_true]
    obtain ⟨m', a1, a2⟩ := pu_dr_a30 h hA' hB' 7 (R.D.length / 2)
    rw [← o1] at a1 a2
    have e2 : Int32.ofNat R.D.length / 2 = Int32.ofNat (R.D.length / 2) := by rw [pu_n_lit 2, pu_n_div (by omega) (by omega)]
    rw [o2, e2]
    simp only [k]
    exact pu_DrQ.one a1 a2
theorem pu_pr_bars (h : pu_Dr m mL R A B F) (hA : A ≤ 120) (hB : B ≤ 130) : pu_DrQ (f_Pr_drawTextOfBars m mL) m mL A B F (pu_nearO (pu_mk R 0 (R.sh 2) 0 (R.sh 1 + 3) (R.tx 0) (R.tx 1) (R.tx 2) 0 R.D.length)) [pu_mk R 0 (R.sh 2) 0 (R.sh 1 + 3) (R.tx 0) (R.tx 1) (R.tx 2) 0 R.D.length] := by
  obtain ⟨g0, g1, g2, g3⟩ := pu_dg30 h
  obtain ⟨t0, t1, t2⟩ := pu_dg32 h
  obtain ⟨m', a1, a2⟩ := pu_dr_a34 h (by omega) (by omega) 0 (R.sh 1 + 3) R.D.length (R.tx 0) (R.tx 1) (R.tx 2) (R.sh 2)
  unfold f_Pr_drawTextOfBars f_Pr_drawTextOfBars_b0
  rw [t0, pu_b_some]
  simp only []
  rw [t1, pu_b_some]
  simp only []
  rw [t2, pu_b_some]
  simp only []
  rw [g2, pu_b_some]
  simp only []
  rw [pu_fo_setAll (c := 35) rfl rfl, pu_b_some]
  simp only []
  have E0 : pu_Ext m (tm_up (tm_up (tm_up (tm_up m 35 0 (R.tx 0)) 35 1 (R.tx 1)) 35 2 (R.tx 2)) 35 3 (R.sh 2)) A B [] F := pu_Ext.none h.b (fun a q _ _ => by funext b; rw [tm_up_o q, tm_up_o q, tm_up_o q, tm_up_o q])
  have h2 : pu_Dr (tm_up (tm_up (tm_up (tm_up m 35 0 (R.tx 0)) 35 1 (R.tx 1)) 35 2 (R.tx 2)) 35 3 (R.sh 2)) mL R A B F := h.ext E0
  obtain ⟨_, g1', _, _⟩ := pu_dg30 h2
  rw [g1', pu_b_some]
  simp only []
  rw [pu_td_size h2.td, pu_b_some]
  exact pu_DrQ.one a1 a2
end WHOLE
