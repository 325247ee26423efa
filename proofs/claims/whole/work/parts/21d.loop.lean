/-! the law's loop, over an invariant -/
theorem lw_in {q L : Nat} (h : q < L) (hL : L ≤ 2048) : vp_in (Int32.ofNat q) L := by
  have e : (Int32.ofNat q).toInt = q := Int32.toInt_ofNat_of_lt (by omega)
  have e2 : (Int32.ofNat q).toNatClampNeg = q := by
    show (Int32.ofNat q).toInt.toNat = q
    rw [e]; rfl
  intro h3
  rcases h3 with h3 | h3
  · rw [Int32.lt_iff_toInt_lt, e] at h3
    have : (0 : Int32).toInt = 0 := by decide
    omega
  · omega
theorem lw_gt {p L : Nat} (hp : p ≤ 3000) (hL : L ≤ 2048) : (Int32.ofNat L - Int32.ofInt 4 < Int32.ofNat p) ↔ L < p + 4 := by
  have e1 : (Int32.ofNat p).toInt = p := Int32.toInt_ofNat_of_lt (by omega)
  have e2 : (Int32.ofNat L).toInt = L := Int32.toInt_ofNat_of_lt (by omega)
  have e3 : (Int32.ofInt 4).toInt = 4 := by decide
  rw [Int32.lt_iff_toInt_lt, Int32.toInt_sub, e1, e2, e3, Int.bmod_eq_of_le (by omega) (by omega)]
  omega
theorem lw_add (p q : Nat) : Int32.ofNat p + Int32.ofInt q = Int32.ofNat (p + q) := (Int32.ofNat_add p q).symm
set_option maxRecDepth 100000 in
set_option maxHeartbeats 4000000 in
theorem lw_loop {Inv : tm_I → tm_L → Prop} (hI : lw_Step Inv) {Γ : tm_G} {L : Nat} {xs : Nat → Int32} (hL : L ≤ 2048) (C : tm_C Γ "LabelScriptLaw" code 8) (Ro : tm_Ro Γ 14 542 601024 7293033) (Hx : tm_Hx Γ) (S : tm_Sx Γ L xs)
    (k : ∀ (cells slots : Nat) (ex : List tm_Sh) (mI : tm_I) (mL : tm_L) (i : Int32) (a b c : Option Value), cells ≤ 601024 → slots ≤ 7293033 → tm_T Γ 8 cells slots 445 (lv_L i a b c) [] (sh0 ++ ex) mI mL rr) :
    ∀ (t p cells slots : Nat) (ex : List tm_Sh) (mI : tm_I) (mL : tm_L) (a b c : Option Value), p ≤ L → L < p + 4 * t + 4 → cells + t ≤ 601024 → slots + 6 * t ≤ 7293033 → (sh0 ++ ex).length + t ≤ 1000000 → Inv mI mL → tm_T Γ 8 cells slots 23 (lv_L (Int32.ofNat p) a b c) [] (sh0 ++ ex) mI mL rr := by
  intro t
  induction t with
  | zero =>
    intro p cells slots ex mI mL a b c hp ht hc hs hl hv
    refine tm_w C fr0_ok to_Lw 1 rfl rfl rfl trivial ?_
    refine tm_scl C S to_Lw rfl ?_
    refine tm_w C fr0_ok to_Lw 1 rfl rfl rfl trivial ?_
    exact tm_b C to_Lw rfl rfl (fun _ => k _ _ _ _ _ _ _ _ _ (by omega) (by omega)) (fun h => absurd ((lw_gt (by omega) hL).mpr (by omega)) h)
  | succ t ih =>
    intro p cells slots ex mI mL a b c hp ht hc hs hl hv
    refine tm_w C fr0_ok to_Lw 1 rfl rfl rfl trivial ?_
    refine tm_scl C S to_Lw rfl ?_
    refine tm_w C fr0_ok to_Lw 1 rfl rfl rfl trivial ?_
    refine tm_b C to_Lw rfl rfl (fun _ => k _ _ _ _ _ _ _ _ _ (by omega) (by omega)) (fun h => ?_)
    have h4 : p + 4 ≤ L := by
      have h5 : ¬ (L < p + 4) := fun h6 => h ((lw_gt (by omega) hL).mpr h6)
      omega
    refine lw_turn hI C Ro Hx S (by omega) (by omega) (by omega) (lw_in (by omega) hL) (by rw [show Int32.ofNat p + Int32.ofInt 1 = Int32.ofNat (p + 1) from lw_add p 1]; exact lw_in (by omega) hL) (by rw [show Int32.ofNat p + Int32.ofInt 2 = Int32.ofNat (p + 2) from lw_add p 2]; exact lw_in (by omega) hL) (by rw [show Int32.ofNat p + Int32.ofInt 3 = Int32.ofNat (p + 3) from lw_add p 3]; exact lw_in (by omega) hL) hv (fun cells' slots' ex' mI' mL' a' b' c' q1 q2 q3 q4 => ?_)
    refine tm_w C fr0_ok to_Lw 1 rfl rfl rfl trivial ?_
    have e4 : Int32.ofNat p + Int32.ofInt 4 = Int32.ofNat (p + 4) := lw_add p 4
    have K := ih (p + 4) cells' slots' ex' mI' mL' a' b' c' h4 (by omega) (by omega) (by omega) (by omega) q4
    rw [← e4] at K
    exact K
