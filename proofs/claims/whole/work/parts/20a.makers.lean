/-! the makers, each where the law makes it -/
theorem tm_ltb {a b : Nat} (h : Nat.ble (a + 1) b = true) : a < b := Nat.le_of_ble_eq_true h
def mi_Ro_init_2 (mI : tm_I) : tm_I := tm_row (tm_row (tm_up (tm_up mI 2 0 (4096 : Int32)) 2 1 (512 : Int32)) 3 0) 4 0
def ml_Ro_init_2 (mL : tm_L) : tm_L := tm_row (tm_row mL 3 0) 4 0
def mr_Ro_init_2 (mR : tm_R) : tm_R := tm_up (tm_row (tm_up (tm_row mR 3 tm_nul) 2 2 3) 4 tm_nul) 2 3 4
set_option maxRecDepth 100000 in
set_option maxHeartbeats 4000000 in
theorem cm_Ro_init_2 {mI : tm_I} {mL : tm_L} {mR : tm_R} : tm_M ty_Ro_init 1 21 2 513 [.ref 2, .int (1 : Int32), .int (4096 : Int32)] (sh0.take 3, mI, mL, mR) (tm_is none (sh0.take 5, mi_Ro_init_2 mI, ml_Ro_init_2 mL, mr_Ro_init_2 mR)) := by
  refine tm_body (by decide) (Nat.le_of_ble_eq_true rfl) fun Γ C G => ?_
  have Ro := G.ro
  refine tm_w C tfo_Ro to_Ro_init 0 rfl rfl rfl trivial ?_
  refine tm_obj C Ro (tm_in 98 (by decide +kernel) rfl) (tm_in 85 (by decide +kernel) rfl) (tm_in 86 (by decide +kernel) rfl) rfl (by decide) ⟨by decide, by decide⟩ (tm_get_d to_Ro_init rfl) ?_
  refine tm_w C tfo_Ro to_Ro_init 1 rfl rfl rfl trivial ?_
  refine tm_cS C Ro to_Ro_init tl_Ro_9 rfl (ct_Ma_max (p0 := (1 : Int32)) (p1 := (0 : Int32)) (r := ((1 : Int32), _, _)) rfl) rfl rfl rfl rfl rfl (by decide) (by decide) ?_
  refine tm_w C tfo_Ro to_Ro_init 3 rfl rfl rfl trivial ?_
  refine tm_cS C Ro to_Ro_init tl_Ro_9 rfl (ct_Ma_max (p0 := (4096 : Int32)) (p1 := (0 : Int32)) (r := ((4096 : Int32), _, _)) rfl) rfl rfl rfl rfl rfl (by decide) (by decide) ?_
  refine tm_putFI C (tm_Γ.nm G) tg_Ro_15 rfl rfl rfl rfl (tm_get_d to_Ro_init rfl) ?_
  refine tm_w C tfo_Ro to_Ro_init 6 rfl rfl rfl ⟨rfl, (by decide : ¬ (8 : Int32) = 0), trivial⟩ ?_
  refine tm_as (st' := [.int (512 : Int32), .ref 2]) rfl rfl (by first | (simp [tm_up, tm_row]; done) | (simp [tm_up, tm_row]; decide)) rfl rfl ?_
  refine tm_putFI C (tm_Γ.nm G) tg_Ro_21 rfl rfl rfl rfl (tm_get_d to_Ro_init rfl) ?_
  refine tm_w C tfo_Ro to_Ro_init 1 rfl rfl rfl trivial ?_
  refine tm_newI C Ro (N := 1) (n := (1 : Int32)) (tm_in 115 (by decide +kernel) rfl) (by decide) (by decide) (by decide) ⟨Nat.le_of_ble_eq_true rfl, Nat.le_of_ble_eq_true rfl, tm_ltb rfl⟩ (tm_get_d to_Ro_init rfl) ?_
  refine tm_putFR C (tm_Γ.nm G) tg_Ro_24 rfl rfl rfl rfl (tm_get_d to_Ro_init rfl) ?_
  refine tm_w C tfo_Ro to_Ro_init 4 rfl rfl rfl ⟨rfl, trivial⟩ ?_
  refine tm_as (st' := [.int (512 : Int32), .ref 2]) rfl rfl (by first | (simp [tm_up, tm_row]; done) | (simp [tm_up, tm_row]; decide)) rfl rfl ?_
  refine tm_newL C Ro (N := 512) (n := (512 : Int32)) (tm_in 116 (by decide +kernel) rfl) (by decide) (by decide) (by decide) ⟨Nat.le_of_ble_eq_true rfl, Nat.le_of_ble_eq_true rfl, tm_ltb rfl⟩ (tm_get_d to_Ro_init rfl) ?_
  refine tm_putFR C (tm_Γ.nm G) tg_Ro_28 rfl rfl rfl rfl (tm_get_d to_Ro_init rfl) ?_
  exact tm_retv C G rfl (by decide) ⟨rfl, rfl⟩ (tm_get_d to_Ro_init rfl)

def mi_Ro_init_5 (mI : tm_I) : tm_I := tm_row (tm_row (tm_up (tm_up mI 5 0 (400 : Int32)) 5 1 (50 : Int32)) 6 0) 7 0
def ml_Ro_init_5 (mL : tm_L) : tm_L := tm_row (tm_row mL 6 0) 7 0
def mr_Ro_init_5 (mR : tm_R) : tm_R := tm_up (tm_row (tm_up (tm_row mR 6 tm_nul) 5 2 6) 7 tm_nul) 5 3 7
set_option maxRecDepth 100000 in
set_option maxHeartbeats 4000000 in
theorem cm_Ro_init_5 {mI : tm_I} {mL : tm_L} {mR : tm_R} : tm_M ty_Ro_init 1 21 2 408 [.ref 5, .int (8 : Int32), .int (400 : Int32)] (sh0.take 6, mI, mL, mR) (tm_is none (sh0.take 8, mi_Ro_init_5 mI, ml_Ro_init_5 mL, mr_Ro_init_5 mR)) := by
  refine tm_body (by decide) (Nat.le_of_ble_eq_true rfl) fun Γ C G => ?_
  have Ro := G.ro
  refine tm_w C tfo_Ro to_Ro_init 0 rfl rfl rfl trivial ?_
  refine tm_obj C Ro (tm_in 98 (by decide +kernel) rfl) (tm_in 85 (by decide +kernel) rfl) (tm_in 86 (by decide +kernel) rfl) rfl (by decide) ⟨by decide, by decide⟩ (tm_get_d to_Ro_init rfl) ?_
  refine tm_w C tfo_Ro to_Ro_init 1 rfl rfl rfl trivial ?_
  refine tm_cS C Ro to_Ro_init tl_Ro_9 rfl (ct_Ma_max (p0 := (8 : Int32)) (p1 := (0 : Int32)) (r := ((8 : Int32), _, _)) rfl) rfl rfl rfl rfl rfl (by decide) (by decide) ?_
  refine tm_w C tfo_Ro to_Ro_init 3 rfl rfl rfl trivial ?_
  refine tm_cS C Ro to_Ro_init tl_Ro_9 rfl (ct_Ma_max (p0 := (400 : Int32)) (p1 := (0 : Int32)) (r := ((400 : Int32), _, _)) rfl) rfl rfl rfl rfl rfl (by decide) (by decide) ?_
  refine tm_putFI C (tm_Γ.nm G) tg_Ro_15 rfl rfl rfl rfl (tm_get_d to_Ro_init rfl) ?_
  refine tm_w C tfo_Ro to_Ro_init 6 rfl rfl rfl ⟨rfl, (by decide : ¬ (8 : Int32) = 0), trivial⟩ ?_
  refine tm_as (st' := [.int (50 : Int32), .ref 5]) rfl rfl (by first | (simp [tm_up, tm_row]; done) | (simp [tm_up, tm_row]; decide)) rfl rfl ?_
  refine tm_putFI C (tm_Γ.nm G) tg_Ro_21 rfl rfl rfl rfl (tm_get_d to_Ro_init rfl) ?_
  refine tm_w C tfo_Ro to_Ro_init 1 rfl rfl rfl trivial ?_
  refine tm_newI C Ro (N := 8) (n := (8 : Int32)) (tm_in 115 (by decide +kernel) rfl) (by decide) (by decide) (by decide) ⟨Nat.le_of_ble_eq_true rfl, Nat.le_of_ble_eq_true rfl, tm_ltb rfl⟩ (tm_get_d to_Ro_init rfl) ?_
  refine tm_putFR C (tm_Γ.nm G) tg_Ro_24 rfl rfl rfl rfl (tm_get_d to_Ro_init rfl) ?_
  refine tm_w C tfo_Ro to_Ro_init 4 rfl rfl rfl ⟨rfl, trivial⟩ ?_
  refine tm_as (st' := [.int (400 : Int32), .ref 5]) rfl rfl (by first | (simp [tm_up, tm_row]; done) | (simp [tm_up, tm_row]; decide)) rfl rfl ?_
  refine tm_newL C Ro (N := 400) (n := (400 : Int32)) (tm_in 116 (by decide +kernel) rfl) (by decide) (by decide) (by decide) ⟨Nat.le_of_ble_eq_true rfl, Nat.le_of_ble_eq_true rfl, tm_ltb rfl⟩ (tm_get_d to_Ro_init rfl) ?_
  refine tm_putFR C (tm_Γ.nm G) tg_Ro_28 rfl rfl rfl rfl (tm_get_d to_Ro_init rfl) ?_
  exact tm_retv C G rfl (by decide) ⟨rfl, rfl⟩ (tm_get_d to_Ro_init rfl)

def mi_Sc_init_1 (mI : tm_I) : tm_I := tm_row (tm_row (mi_Ro_init_5 (tm_row (mi_Ro_init_2 (tm_row mI 2 0)) 5 0)) 8 0) 9 0
def ml_Sc_init_1 (mL : tm_L) : tm_L := tm_row (tm_row (ml_Ro_init_5 (tm_row (ml_Ro_init_2 (tm_row mL 2 0)) 5 0)) 8 0) 9 0
def mr_Sc_init_1 (mR : tm_R) : tm_R := tm_up (tm_row (tm_up (tm_row (tm_up (mr_Ro_init_5 (tm_row (tm_up (mr_Ro_init_2 (tm_row mR 2 tm_nul)) 1 0 2) 5 tm_nul)) 1 1 5) 8 tm_nul) 1 2 8) 9 tm_nul) 1 3 9
set_option maxRecDepth 100000 in
set_option maxHeartbeats 4000000 in
theorem cm_Sc_init_1 {mI : tm_I} {mL : tm_L} {mR : tm_R} : tm_M ty_Sc_init 2 44 8 937 [.ref 1] (sh0.take 2, mI, mL, mR) (tm_is none (sh0.take 10, mi_Sc_init_1 mI, ml_Sc_init_1 mL, mr_Sc_init_1 mR)) := by
  refine tm_body (by decide) (Nat.le_of_ble_eq_true rfl) fun Γ C G => ?_
  have Ro := G.ro
  refine tm_w C tfo_Sc to_Sc_init 0 rfl rfl rfl trivial ?_
  refine tm_obj C Ro (tm_in 92 (by decide +kernel) rfl) (tm_in 85 (by decide +kernel) rfl) (tm_in 86 (by decide +kernel) rfl) rfl (by decide) ⟨by decide, by decide⟩ (tm_get_d to_Sc_init rfl) ?_
  refine tm_w C tfo_Sc to_Sc_init 0 rfl rfl rfl trivial ?_
  refine tm_new C Ro (ci := 6) rfl (tm_in 93 (by decide +kernel) rfl) (tm_in 94 (by decide +kernel) rfl) (tm_in 59 (by decide +kernel) rfl) (by decide) ⟨Nat.le_of_ble_eq_true rfl, Nat.le_of_ble_eq_true rfl, tm_ltb rfl⟩ (tm_get_d to_Sc_init rfl) ?_
  refine tm_w C tfo_Sc to_Sc_init 2 rfl rfl rfl trivial ?_
  refine tm_callI C Ro tl_Sc_11 (tm_get_d to_Sc_init rfl) (cm_Ro_init_2) rfl rfl rfl (Nat.le_of_ble_eq_true rfl) ⟨Nat.le_of_ble_eq_true rfl, Nat.le_of_ble_eq_true rfl, Nat.le_of_ble_eq_true rfl, Nat.le_of_ble_eq_true rfl, Nat.le_of_ble_eq_true rfl⟩ (fun v X hq => ?_)
  obtain ⟨rfl, rfl⟩ := hq
  refine tm_putFR C (tm_Γ.nm G) tg_Sc_14 rfl rfl rfl rfl (tm_get_d to_Sc_init rfl) ?_
  refine tm_w C tfo_Sc to_Sc_init 0 rfl rfl rfl trivial ?_
  refine tm_new C Ro (ci := 6) rfl (tm_in 93 (by decide +kernel) rfl) (tm_in 94 (by decide +kernel) rfl) (tm_in 59 (by decide +kernel) rfl) (by decide) ⟨Nat.le_of_ble_eq_true rfl, Nat.le_of_ble_eq_true rfl, tm_ltb rfl⟩ (tm_get_d to_Sc_init rfl) ?_
  refine tm_w C tfo_Sc to_Sc_init 2 rfl rfl rfl trivial ?_
  refine tm_callI C Ro tl_Sc_11 (tm_get_d to_Sc_init rfl) (cm_Ro_init_5) rfl rfl rfl (Nat.le_of_ble_eq_true rfl) ⟨Nat.le_of_ble_eq_true rfl, Nat.le_of_ble_eq_true rfl, Nat.le_of_ble_eq_true rfl, Nat.le_of_ble_eq_true rfl, Nat.le_of_ble_eq_true rfl⟩ (fun v X hq => ?_)
  obtain ⟨rfl, rfl⟩ := hq
  refine tm_putFR C (tm_Γ.nm G) tg_Sc_20 rfl rfl rfl rfl (tm_get_d to_Sc_init rfl) ?_
  refine tm_w C tfo_Sc to_Sc_init 1 rfl rfl rfl trivial ?_
  refine tm_newI C Ro (N := 4) (n := (4 : Int32)) (tm_in 115 (by decide +kernel) rfl) (by decide) (by decide) (by decide) ⟨Nat.le_of_ble_eq_true rfl, Nat.le_of_ble_eq_true rfl, tm_ltb rfl⟩ (tm_get_d to_Sc_init rfl) ?_
  refine tm_putFR C (tm_Γ.nm G) tg_Sc_23 rfl rfl rfl rfl (tm_get_d to_Sc_init rfl) ?_
  refine tm_w C tfo_Sc to_Sc_init 1 rfl rfl rfl trivial ?_
  refine tm_newI C Ro (N := 4) (n := (4 : Int32)) (tm_in 115 (by decide +kernel) rfl) (by decide) (by decide) (by decide) ⟨Nat.le_of_ble_eq_true rfl, Nat.le_of_ble_eq_true rfl, tm_ltb rfl⟩ (tm_get_d to_Sc_init rfl) ?_
  refine tm_putFR C (tm_Γ.nm G) tg_Sc_27 rfl rfl rfl rfl (tm_get_d to_Sc_init rfl) ?_
  exact tm_retv C G rfl (by decide) ⟨rfl, rfl⟩ (tm_get_d to_Sc_init rfl)

def mi_Ro_init_10 (mI : tm_I) : tm_I := tm_row (tm_row (tm_up (tm_up mI 10 0 (200 : Int32)) 10 1 (25 : Int32)) 11 0) 12 0
def ml_Ro_init_10 (mL : tm_L) : tm_L := tm_row (tm_row mL 11 0) 12 0
def mr_Ro_init_10 (mR : tm_R) : tm_R := tm_up (tm_row (tm_up (tm_row mR 11 tm_nul) 10 2 11) 12 tm_nul) 10 3 12
set_option maxRecDepth 100000 in
set_option maxHeartbeats 4000000 in
theorem cm_Ro_init_10 {mI : tm_I} {mL : tm_L} {mR : tm_R} : tm_M ty_Ro_init 1 21 2 260 [.ref 10, .int (10 : Int32), .int (200 : Int32)] (sh0.take 11, mI, mL, mR) (tm_is none (sh0.take 13, mi_Ro_init_10 mI, ml_Ro_init_10 mL, mr_Ro_init_10 mR)) := by
  refine tm_body (by decide) (Nat.le_of_ble_eq_true rfl) fun Γ C G => ?_
  have Ro := G.ro
  refine tm_w C tfo_Ro to_Ro_init 0 rfl rfl rfl trivial ?_
  refine tm_obj C Ro (tm_in 98 (by decide +kernel) rfl) (tm_in 85 (by decide +kernel) rfl) (tm_in 86 (by decide +kernel) rfl) rfl (by decide) ⟨by decide, by decide⟩ (tm_get_d to_Ro_init rfl) ?_
  refine tm_w C tfo_Ro to_Ro_init 1 rfl rfl rfl trivial ?_
  refine tm_cS C Ro to_Ro_init tl_Ro_9 rfl (ct_Ma_max (p0 := (10 : Int32)) (p1 := (0 : Int32)) (r := ((10 : Int32), _, _)) rfl) rfl rfl rfl rfl rfl (by decide) (by decide) ?_
  refine tm_w C tfo_Ro to_Ro_init 3 rfl rfl rfl trivial ?_
  refine tm_cS C Ro to_Ro_init tl_Ro_9 rfl (ct_Ma_max (p0 := (200 : Int32)) (p1 := (0 : Int32)) (r := ((200 : Int32), _, _)) rfl) rfl rfl rfl rfl rfl (by decide) (by decide) ?_
  refine tm_putFI C (tm_Γ.nm G) tg_Ro_15 rfl rfl rfl rfl (tm_get_d to_Ro_init rfl) ?_
  refine tm_w C tfo_Ro to_Ro_init 6 rfl rfl rfl ⟨rfl, (by decide : ¬ (8 : Int32) = 0), trivial⟩ ?_
  refine tm_as (st' := [.int (25 : Int32), .ref 10]) rfl rfl (by first | (simp [tm_up, tm_row]; done) | (simp [tm_up, tm_row]; decide)) rfl rfl ?_
  refine tm_putFI C (tm_Γ.nm G) tg_Ro_21 rfl rfl rfl rfl (tm_get_d to_Ro_init rfl) ?_
  refine tm_w C tfo_Ro to_Ro_init 1 rfl rfl rfl trivial ?_
  refine tm_newI C Ro (N := 10) (n := (10 : Int32)) (tm_in 115 (by decide +kernel) rfl) (by decide) (by decide) (by decide) ⟨Nat.le_of_ble_eq_true rfl, Nat.le_of_ble_eq_true rfl, tm_ltb rfl⟩ (tm_get_d to_Ro_init rfl) ?_
  refine tm_putFR C (tm_Γ.nm G) tg_Ro_24 rfl rfl rfl rfl (tm_get_d to_Ro_init rfl) ?_
  refine tm_w C tfo_Ro to_Ro_init 4 rfl rfl rfl ⟨rfl, trivial⟩ ?_
  refine tm_as (st' := [.int (250 : Int32), .ref 10]) rfl rfl (by first | (simp [tm_up, tm_row]; done) | (simp [tm_up, tm_row]; decide)) rfl rfl ?_
  refine tm_newL C Ro (N := 250) (n := (250 : Int32)) (tm_in 116 (by decide +kernel) rfl) (by decide) (by decide) (by decide) ⟨Nat.le_of_ble_eq_true rfl, Nat.le_of_ble_eq_true rfl, tm_ltb rfl⟩ (tm_get_d to_Ro_init rfl) ?_
  refine tm_putFR C (tm_Γ.nm G) tg_Ro_28 rfl rfl rfl rfl (tm_get_d to_Ro_init rfl) ?_
  exact tm_retv C G rfl (by decide) ⟨rfl, rfl⟩ (tm_get_d to_Ro_init rfl)

def mi_Ro_init_13 (mI : tm_I) : tm_I := tm_row (tm_row (tm_up (tm_up mI 13 0 (200 : Int32)) 13 1 (25 : Int32)) 14 0) 15 0
def ml_Ro_init_13 (mL : tm_L) : tm_L := tm_row (tm_row mL 14 0) 15 0
def mr_Ro_init_13 (mR : tm_R) : tm_R := tm_up (tm_row (tm_up (tm_row mR 14 tm_nul) 13 2 14) 15 tm_nul) 13 3 15
set_option maxRecDepth 100000 in
set_option maxHeartbeats 4000000 in
theorem cm_Ro_init_13 {mI : tm_I} {mL : tm_L} {mR : tm_R} : tm_M ty_Ro_init 1 21 2 26 [.ref 13, .int (1 : Int32), .int (200 : Int32)] (sh0.take 14, mI, mL, mR) (tm_is none (sh0.take 16, mi_Ro_init_13 mI, ml_Ro_init_13 mL, mr_Ro_init_13 mR)) := by
  refine tm_body (by decide) (Nat.le_of_ble_eq_true rfl) fun Γ C G => ?_
  have Ro := G.ro
  refine tm_w C tfo_Ro to_Ro_init 0 rfl rfl rfl trivial ?_
  refine tm_obj C Ro (tm_in 98 (by decide +kernel) rfl) (tm_in 85 (by decide +kernel) rfl) (tm_in 86 (by decide +kernel) rfl) rfl (by decide) ⟨by decide, by decide⟩ (tm_get_d to_Ro_init rfl) ?_
  refine tm_w C tfo_Ro to_Ro_init 1 rfl rfl rfl trivial ?_
  refine tm_cS C Ro to_Ro_init tl_Ro_9 rfl (ct_Ma_max (p0 := (1 : Int32)) (p1 := (0 : Int32)) (r := ((1 : Int32), _, _)) rfl) rfl rfl rfl rfl rfl (by decide) (by decide) ?_
  refine tm_w C tfo_Ro to_Ro_init 3 rfl rfl rfl trivial ?_
  refine tm_cS C Ro to_Ro_init tl_Ro_9 rfl (ct_Ma_max (p0 := (200 : Int32)) (p1 := (0 : Int32)) (r := ((200 : Int32), _, _)) rfl) rfl rfl rfl rfl rfl (by decide) (by decide) ?_
  refine tm_putFI C (tm_Γ.nm G) tg_Ro_15 rfl rfl rfl rfl (tm_get_d to_Ro_init rfl) ?_
  refine tm_w C tfo_Ro to_Ro_init 6 rfl rfl rfl ⟨rfl, (by decide : ¬ (8 : Int32) = 0), trivial⟩ ?_
  refine tm_as (st' := [.int (25 : Int32), .ref 13]) rfl rfl (by first | (simp [tm_up, tm_row]; done) | (simp [tm_up, tm_row]; decide)) rfl rfl ?_
  refine tm_putFI C (tm_Γ.nm G) tg_Ro_21 rfl rfl rfl rfl (tm_get_d to_Ro_init rfl) ?_
  refine tm_w C tfo_Ro to_Ro_init 1 rfl rfl rfl trivial ?_
  refine tm_newI C Ro (N := 1) (n := (1 : Int32)) (tm_in 115 (by decide +kernel) rfl) (by decide) (by decide) (by decide) ⟨Nat.le_of_ble_eq_true rfl, Nat.le_of_ble_eq_true rfl, tm_ltb rfl⟩ (tm_get_d to_Ro_init rfl) ?_
  refine tm_putFR C (tm_Γ.nm G) tg_Ro_24 rfl rfl rfl rfl (tm_get_d to_Ro_init rfl) ?_
  refine tm_w C tfo_Ro to_Ro_init 4 rfl rfl rfl ⟨rfl, trivial⟩ ?_
  refine tm_as (st' := [.int (25 : Int32), .ref 13]) rfl rfl (by first | (simp [tm_up, tm_row]; done) | (simp [tm_up, tm_row]; decide)) rfl rfl ?_
  refine tm_newL C Ro (N := 25) (n := (25 : Int32)) (tm_in 116 (by decide +kernel) rfl) (by decide) (by decide) (by decide) ⟨Nat.le_of_ble_eq_true rfl, Nat.le_of_ble_eq_true rfl, tm_ltb rfl⟩ (tm_get_d to_Ro_init rfl) ?_
  refine tm_putFR C (tm_Γ.nm G) tg_Ro_28 rfl rfl rfl rfl (tm_get_d to_Ro_init rfl) ?_
  exact tm_retv C G rfl (by decide) ⟨rfl, rfl⟩ (tm_get_d to_Ro_init rfl)

def mi_Fo_init_17 (mI : tm_I) : tm_I := tm_row mI 18 0
def ml_Fo_init_17 (mL : tm_L) : tm_L := tm_row mL 18 0
def mr_Fo_init_17 (mR : tm_R) : tm_R := tm_up (tm_row mR 18 tm_nul) 17 0 18
set_option maxRecDepth 100000 in
set_option maxHeartbeats 4000000 in
theorem cm_Fo_init_17 {mI : tm_I} {mL : tm_L} {mR : tm_R} : tm_M ty_Fo_init 1 20 1 4 [.ref 17] (sh0.take 18, mI, mL, mR) (tm_is none (sh0.take 19, mi_Fo_init_17 mI, ml_Fo_init_17 mL, mr_Fo_init_17 mR)) := by
  refine tm_body (by decide) (Nat.le_of_ble_eq_true rfl) fun Γ C G => ?_
  have Ro := G.ro
  refine tm_w C tfo_Fo to_Fo_init 0 rfl rfl rfl trivial ?_
  refine tm_obj C Ro (tm_in 156 (by decide +kernel) rfl) (tm_in 85 (by decide +kernel) rfl) (tm_in 86 (by decide +kernel) rfl) rfl (by decide) ⟨by decide, by decide⟩ (tm_get_d to_Fo_init rfl) ?_
  refine tm_w C tfo_Fo to_Fo_init 1 rfl rfl rfl trivial ?_
  refine tm_newI C Ro (N := 4) (n := (4 : Int32)) (tm_in 115 (by decide +kernel) rfl) (by decide) (by decide) (by decide) ⟨Nat.le_of_ble_eq_true rfl, Nat.le_of_ble_eq_true rfl, tm_ltb rfl⟩ (tm_get_d to_Fo_init rfl) ?_
  refine tm_putFR C (tm_Γ.nm G) tg_Fo_7 rfl rfl rfl rfl (tm_get_d to_Fo_init rfl) ?_
  exact tm_retv C G rfl (by decide) ⟨rfl, rfl⟩ (tm_get_d to_Fo_init rfl)

def mi_Nu_init_16 (mI : tm_I) : tm_I := mi_Fo_init_17 (tm_row mI 17 0)
def ml_Nu_init_16 (mL : tm_L) : tm_L := ml_Fo_init_17 (tm_row mL 17 0)
def mr_Nu_init_16 (mR : tm_R) : tm_R := tm_up (mr_Fo_init_17 (tm_row mR 17 tm_nul)) 16 0 17
set_option maxRecDepth 100000 in
set_option maxHeartbeats 4000000 in
theorem cm_Nu_init_16 {mI : tm_I} {mL : tm_L} {mR : tm_R} : tm_M ty_Nu_init 2 40 2 5 [.ref 16] (sh0.take 17, mI, mL, mR) (tm_is none (sh0.take 19, mi_Nu_init_16 mI, ml_Nu_init_16 mL, mr_Nu_init_16 mR)) := by
  refine tm_body (by decide) (Nat.le_of_ble_eq_true rfl) fun Γ C G => ?_
  have Ro := G.ro
  refine tm_w C tfo_Nu to_Nu_init 0 rfl rfl rfl trivial ?_
  refine tm_obj C Ro (tm_in 150 (by decide +kernel) rfl) (tm_in 85 (by decide +kernel) rfl) (tm_in 86 (by decide +kernel) rfl) rfl (by decide) ⟨by decide, by decide⟩ (tm_get_d to_Nu_init rfl) ?_
  refine tm_w C tfo_Nu to_Nu_init 0 rfl rfl rfl trivial ?_
  refine tm_new C Ro (ci := 2) rfl (tm_in 151 (by decide +kernel) rfl) (tm_in 152 (by decide +kernel) rfl) (tm_in 62 (by decide +kernel) rfl) (by decide) ⟨Nat.le_of_ble_eq_true rfl, Nat.le_of_ble_eq_true rfl, tm_ltb rfl⟩ (tm_get_d to_Nu_init rfl) ?_
  refine tm_w C tfo_Nu to_Nu_init 0 rfl rfl rfl trivial ?_
  refine tm_callIN C Ro tl_Nu_11 (tm_get_d to_Nu_init rfl) (cm_Fo_init_17) rfl rfl rfl (Nat.le_of_ble_eq_true rfl) ⟨Nat.le_of_ble_eq_true rfl, Nat.le_of_ble_eq_true rfl, Nat.le_of_ble_eq_true rfl, Nat.le_of_ble_eq_true rfl, Nat.le_of_ble_eq_true rfl⟩ (fun v X hq => ?_)
  obtain ⟨rfl, rfl⟩ := hq
  refine tm_putFR C (tm_Γ.nm G) tg_Nu_12 rfl rfl rfl rfl (tm_get_d to_Nu_init rfl) ?_
  exact tm_retv C G rfl (by decide) ⟨rfl, rfl⟩ (tm_get_d to_Nu_init rfl)

def mi_Ro_init_23 (mI : tm_I) : tm_I := tm_row (tm_row (tm_up (tm_up mI 23 0 (200 : Int32)) 23 1 (25 : Int32)) 24 0) 25 0
def ml_Ro_init_23 (mL : tm_L) : tm_L := tm_row (tm_row mL 24 0) 25 0
def mr_Ro_init_23 (mR : tm_R) : tm_R := tm_up (tm_row (tm_up (tm_row mR 24 tm_nul) 23 2 24) 25 tm_nul) 23 3 25
set_option maxRecDepth 100000 in
set_option maxHeartbeats 4000000 in
theorem cm_Ro_init_23 {mI : tm_I} {mL : tm_L} {mR : tm_R} : tm_M ty_Ro_init 1 21 2 3120 [.ref 23, .int (120 : Int32), .int (200 : Int32)] (sh0.take 24, mI, mL, mR) (tm_is none (sh0.take 26, mi_Ro_init_23 mI, ml_Ro_init_23 mL, mr_Ro_init_23 mR)) := by
  refine tm_body (by decide) (Nat.le_of_ble_eq_true rfl) fun Γ C G => ?_
  have Ro := G.ro
  refine tm_w C tfo_Ro to_Ro_init 0 rfl rfl rfl trivial ?_
  refine tm_obj C Ro (tm_in 98 (by decide +kernel) rfl) (tm_in 85 (by decide +kernel) rfl) (tm_in 86 (by decide +kernel) rfl) rfl (by decide) ⟨by decide, by decide⟩ (tm_get_d to_Ro_init rfl) ?_
  refine tm_w C tfo_Ro to_Ro_init 1 rfl rfl rfl trivial ?_
  refine tm_cS C Ro to_Ro_init tl_Ro_9 rfl (ct_Ma_max (p0 := (120 : Int32)) (p1 := (0 : Int32)) (r := ((120 : Int32), _, _)) rfl) rfl rfl rfl rfl rfl (by decide) (by decide) ?_
  refine tm_w C tfo_Ro to_Ro_init 3 rfl rfl rfl trivial ?_
  refine tm_cS C Ro to_Ro_init tl_Ro_9 rfl (ct_Ma_max (p0 := (200 : Int32)) (p1 := (0 : Int32)) (r := ((200 : Int32), _, _)) rfl) rfl rfl rfl rfl rfl (by decide) (by decide) ?_
  refine tm_putFI C (tm_Γ.nm G) tg_Ro_15 rfl rfl rfl rfl (tm_get_d to_Ro_init rfl) ?_
  refine tm_w C tfo_Ro to_Ro_init 6 rfl rfl rfl ⟨rfl, (by decide : ¬ (8 : Int32) = 0), trivial⟩ ?_
  refine tm_as (st' := [.int (25 : Int32), .ref 23]) rfl rfl (by first | (simp [tm_up, tm_row]; done) | (simp [tm_up, tm_row]; decide)) rfl rfl ?_
  refine tm_putFI C (tm_Γ.nm G) tg_Ro_21 rfl rfl rfl rfl (tm_get_d to_Ro_init rfl) ?_
  refine tm_w C tfo_Ro to_Ro_init 1 rfl rfl rfl trivial ?_
  refine tm_newI C Ro (N := 120) (n := (120 : Int32)) (tm_in 115 (by decide +kernel) rfl) (by decide) (by decide) (by decide) ⟨Nat.le_of_ble_eq_true rfl, Nat.le_of_ble_eq_true rfl, tm_ltb rfl⟩ (tm_get_d to_Ro_init rfl) ?_
  refine tm_putFR C (tm_Γ.nm G) tg_Ro_24 rfl rfl rfl rfl (tm_get_d to_Ro_init rfl) ?_
  refine tm_w C tfo_Ro to_Ro_init 4 rfl rfl rfl ⟨rfl, trivial⟩ ?_
  refine tm_as (st' := [.int (3000 : Int32), .ref 23]) rfl rfl (by first | (simp [tm_up, tm_row]; done) | (simp [tm_up, tm_row]; decide)) rfl rfl ?_
  refine tm_newL C Ro (N := 3000) (n := (3000 : Int32)) (tm_in 116 (by decide +kernel) rfl) (by decide) (by decide) (by decide) ⟨Nat.le_of_ble_eq_true rfl, Nat.le_of_ble_eq_true rfl, tm_ltb rfl⟩ (tm_get_d to_Ro_init rfl) ?_
  refine tm_putFR C (tm_Γ.nm G) tg_Ro_28 rfl rfl rfl rfl (tm_get_d to_Ro_init rfl) ?_
  exact tm_retv C G rfl (by decide) ⟨rfl, rfl⟩ (tm_get_d to_Ro_init rfl)

def mi_Sh_init_20 (mI : tm_I) : tm_I := mi_Ro_init_23 (tm_row (tm_row (tm_row mI 21 0) 22 0) 23 0)
def ml_Sh_init_20 (mL : tm_L) : tm_L := ml_Ro_init_23 (tm_row (tm_row (tm_row mL 21 0) 22 0) 23 0)
def mr_Sh_init_20 (mR : tm_R) : tm_R := tm_up (mr_Ro_init_23 (tm_row (tm_up (tm_row (tm_up (tm_row mR 21 tm_nul) 20 0 21) 22 tm_nul) 20 1 22) 23 tm_nul)) 20 2 23
set_option maxRecDepth 100000 in
set_option maxHeartbeats 4000000 in
theorem cm_Sh_init_20 {mI : tm_I} {mL : tm_L} {mR : tm_R} : tm_M ty_Sh_init 2 44 5 4852 [.ref 20] (sh0.take 21, mI, mL, mR) (tm_is none (sh0.take 26, mi_Sh_init_20 mI, ml_Sh_init_20 mL, mr_Sh_init_20 mR)) := by
  refine tm_body (by decide) (Nat.le_of_ble_eq_true rfl) fun Γ C G => ?_
  have Ro := G.ro
  refine tm_w C tfo_Sh to_Sh_init 0 rfl rfl rfl trivial ?_
  refine tm_obj C Ro (tm_in 177 (by decide +kernel) rfl) (tm_in 85 (by decide +kernel) rfl) (tm_in 86 (by decide +kernel) rfl) rfl (by decide) ⟨by decide, by decide⟩ (tm_get_d to_Sh_init rfl) ?_
  refine tm_w C tfo_Sh to_Sh_init 1 rfl rfl rfl trivial ?_
  refine tm_newI C Ro (N := 48) (n := (48 : Int32)) (tm_in 115 (by decide +kernel) rfl) (by decide) (by decide) (by decide) ⟨Nat.le_of_ble_eq_true rfl, Nat.le_of_ble_eq_true rfl, tm_ltb rfl⟩ (tm_get_d to_Sh_init rfl) ?_
  refine tm_putFR C (tm_Γ.nm G) tg_Sh_11 rfl rfl rfl rfl (tm_get_d to_Sh_init rfl) ?_
  refine tm_w C tfo_Sh to_Sh_init 1 rfl rfl rfl trivial ?_
  refine tm_newI C Ro (N := 1680) (n := (1680 : Int32)) (tm_in 115 (by decide +kernel) rfl) (by decide) (by decide) (by decide) ⟨Nat.le_of_ble_eq_true rfl, Nat.le_of_ble_eq_true rfl, tm_ltb rfl⟩ (tm_get_d to_Sh_init rfl) ?_
  refine tm_putFR C (tm_Γ.nm G) tg_Sh_15 rfl rfl rfl rfl (tm_get_d to_Sh_init rfl) ?_
  refine tm_w C tfo_Sh to_Sh_init 0 rfl rfl rfl trivial ?_
  refine tm_new C Ro (ci := 6) rfl (tm_in 178 (by decide +kernel) rfl) (tm_in 94 (by decide +kernel) rfl) (tm_in 59 (by decide +kernel) rfl) (by decide) ⟨Nat.le_of_ble_eq_true rfl, Nat.le_of_ble_eq_true rfl, tm_ltb rfl⟩ (tm_get_d to_Sh_init rfl) ?_
  refine tm_w C tfo_Sh to_Sh_init 2 rfl rfl rfl trivial ?_
  refine tm_callI C Ro tl_Sh_20 (tm_get_d to_Sh_init rfl) (cm_Ro_init_23) rfl rfl rfl (Nat.le_of_ble_eq_true rfl) ⟨Nat.le_of_ble_eq_true rfl, Nat.le_of_ble_eq_true rfl, Nat.le_of_ble_eq_true rfl, Nat.le_of_ble_eq_true rfl, Nat.le_of_ble_eq_true rfl⟩ (fun v X hq => ?_)
  obtain ⟨rfl, rfl⟩ := hq
  refine tm_putFR C (tm_Γ.nm G) tg_Sh_23 rfl rfl rfl rfl (tm_get_d to_Sh_init rfl) ?_
  exact tm_retv C G rfl (by decide) ⟨rfl, rfl⟩ (tm_get_d to_Sh_init rfl)

def mi_Ro_init_27 (mI : tm_I) : tm_I := tm_row (tm_row (tm_up (tm_up mI 27 0 (200 : Int32)) 27 1 (25 : Int32)) 28 0) 29 0
def ml_Ro_init_27 (mL : tm_L) : tm_L := tm_row (tm_row mL 28 0) 29 0
def mr_Ro_init_27 (mR : tm_R) : tm_R := tm_up (tm_row (tm_up (tm_row mR 28 tm_nul) 27 2 28) 29 tm_nul) 27 3 29
set_option maxRecDepth 100000 in
set_option maxHeartbeats 4000000 in
theorem cm_Ro_init_27 {mI : tm_I} {mL : tm_L} {mR : tm_R} : tm_M ty_Ro_init 1 21 2 26 [.ref 27, .int (1 : Int32), .int (200 : Int32)] (sh0.take 28, mI, mL, mR) (tm_is none (sh0.take 30, mi_Ro_init_27 mI, ml_Ro_init_27 mL, mr_Ro_init_27 mR)) := by
  refine tm_body (by decide) (Nat.le_of_ble_eq_true rfl) fun Γ C G => ?_
  have Ro := G.ro
  refine tm_w C tfo_Ro to_Ro_init 0 rfl rfl rfl trivial ?_
  refine tm_obj C Ro (tm_in 98 (by decide +kernel) rfl) (tm_in 85 (by decide +kernel) rfl) (tm_in 86 (by decide +kernel) rfl) rfl (by decide) ⟨by decide, by decide⟩ (tm_get_d to_Ro_init rfl) ?_
  refine tm_w C tfo_Ro to_Ro_init 1 rfl rfl rfl trivial ?_
  refine tm_cS C Ro to_Ro_init tl_Ro_9 rfl (ct_Ma_max (p0 := (1 : Int32)) (p1 := (0 : Int32)) (r := ((1 : Int32), _, _)) rfl) rfl rfl rfl rfl rfl (by decide) (by decide) ?_
  refine tm_w C tfo_Ro to_Ro_init 3 rfl rfl rfl trivial ?_
  refine tm_cS C Ro to_Ro_init tl_Ro_9 rfl (ct_Ma_max (p0 := (200 : Int32)) (p1 := (0 : Int32)) (r := ((200 : Int32), _, _)) rfl) rfl rfl rfl rfl rfl (by decide) (by decide) ?_
  refine tm_putFI C (tm_Γ.nm G) tg_Ro_15 rfl rfl rfl rfl (tm_get_d to_Ro_init rfl) ?_
  refine tm_w C tfo_Ro to_Ro_init 6 rfl rfl rfl ⟨rfl, (by decide : ¬ (8 : Int32) = 0), trivial⟩ ?_
  refine tm_as (st' := [.int (25 : Int32), .ref 27]) rfl rfl (by first | (simp [tm_up, tm_row]; done) | (simp [tm_up, tm_row]; decide)) rfl rfl ?_
  refine tm_putFI C (tm_Γ.nm G) tg_Ro_21 rfl rfl rfl rfl (tm_get_d to_Ro_init rfl) ?_
  refine tm_w C tfo_Ro to_Ro_init 1 rfl rfl rfl trivial ?_
  refine tm_newI C Ro (N := 1) (n := (1 : Int32)) (tm_in 115 (by decide +kernel) rfl) (by decide) (by decide) (by decide) ⟨Nat.le_of_ble_eq_true rfl, Nat.le_of_ble_eq_true rfl, tm_ltb rfl⟩ (tm_get_d to_Ro_init rfl) ?_
  refine tm_putFR C (tm_Γ.nm G) tg_Ro_24 rfl rfl rfl rfl (tm_get_d to_Ro_init rfl) ?_
  refine tm_w C tfo_Ro to_Ro_init 4 rfl rfl rfl ⟨rfl, trivial⟩ ?_
  refine tm_as (st' := [.int (25 : Int32), .ref 27]) rfl rfl (by first | (simp [tm_up, tm_row]; done) | (simp [tm_up, tm_row]; decide)) rfl rfl ?_
  refine tm_newL C Ro (N := 25) (n := (25 : Int32)) (tm_in 116 (by decide +kernel) rfl) (by decide) (by decide) (by decide) ⟨Nat.le_of_ble_eq_true rfl, Nat.le_of_ble_eq_true rfl, tm_ltb rfl⟩ (tm_get_d to_Ro_init rfl) ?_
  refine tm_putFR C (tm_Γ.nm G) tg_Ro_28 rfl rfl rfl rfl (tm_get_d to_Ro_init rfl) ?_
  exact tm_retv C G rfl (by decide) ⟨rfl, rfl⟩ (tm_get_d to_Ro_init rfl)

def mi_Fo_init_30 (mI : tm_I) : tm_I := tm_row mI 31 0
def ml_Fo_init_30 (mL : tm_L) : tm_L := tm_row mL 31 0
def mr_Fo_init_30 (mR : tm_R) : tm_R := tm_up (tm_row mR 31 tm_nul) 30 0 31
set_option maxRecDepth 100000 in
set_option maxHeartbeats 4000000 in
theorem cm_Fo_init_30 {mI : tm_I} {mL : tm_L} {mR : tm_R} : tm_M ty_Fo_init 1 20 1 4 [.ref 30] (sh0.take 31, mI, mL, mR) (tm_is none (sh0.take 32, mi_Fo_init_30 mI, ml_Fo_init_30 mL, mr_Fo_init_30 mR)) := by
  refine tm_body (by decide) (Nat.le_of_ble_eq_true rfl) fun Γ C G => ?_
  have Ro := G.ro
  refine tm_w C tfo_Fo to_Fo_init 0 rfl rfl rfl trivial ?_
  refine tm_obj C Ro (tm_in 156 (by decide +kernel) rfl) (tm_in 85 (by decide +kernel) rfl) (tm_in 86 (by decide +kernel) rfl) rfl (by decide) ⟨by decide, by decide⟩ (tm_get_d to_Fo_init rfl) ?_
  refine tm_w C tfo_Fo to_Fo_init 1 rfl rfl rfl trivial ?_
  refine tm_newI C Ro (N := 4) (n := (4 : Int32)) (tm_in 115 (by decide +kernel) rfl) (by decide) (by decide) (by decide) ⟨Nat.le_of_ble_eq_true rfl, Nat.le_of_ble_eq_true rfl, tm_ltb rfl⟩ (tm_get_d to_Fo_init rfl) ?_
  refine tm_putFR C (tm_Γ.nm G) tg_Fo_7 rfl rfl rfl rfl (tm_get_d to_Fo_init rfl) ?_
  exact tm_retv C G rfl (by decide) ⟨rfl, rfl⟩ (tm_get_d to_Fo_init rfl)

def mi_Fi_init_26 (mI : tm_I) : tm_I := tm_up (mi_Fo_init_30 (tm_row (mi_Ro_init_27 (tm_row mI 27 0)) 30 0)) 26 2 (-1 : Int32)
def ml_Fi_init_26 (mL : tm_L) : tm_L := ml_Fo_init_30 (tm_row (ml_Ro_init_27 (tm_row mL 27 0)) 30 0)
def mr_Fi_init_26 (mR : tm_R) : tm_R := tm_up (mr_Fo_init_30 (tm_row (tm_up (mr_Ro_init_27 (tm_row mR 27 tm_nul)) 26 0 27) 30 tm_nul)) 26 1 30
set_option maxRecDepth 100000 in
set_option maxHeartbeats 4000000 in
theorem cm_Fi_init_26 {mI : tm_I} {mL : tm_L} {mR : tm_R} : tm_M ty_Fi_init 2 44 5 35 [.ref 26] (sh0.take 27, mI, mL, mR) (tm_is none (sh0.take 32, mi_Fi_init_26 mI, ml_Fi_init_26 mL, mr_Fi_init_26 mR)) := by
  refine tm_body (by decide) (Nat.le_of_ble_eq_true rfl) fun Γ C G => ?_
  have Ro := G.ro
  refine tm_w C tfo_Fi to_Fi_init 0 rfl rfl rfl trivial ?_
  refine tm_obj C Ro (tm_in 214 (by decide +kernel) rfl) (tm_in 85 (by decide +kernel) rfl) (tm_in 86 (by decide +kernel) rfl) rfl (by decide) ⟨by decide, by decide⟩ (tm_get_d to_Fi_init rfl) ?_
  refine tm_w C tfo_Fi to_Fi_init 0 rfl rfl rfl trivial ?_
  refine tm_new C Ro (ci := 6) rfl (tm_in 215 (by decide +kernel) rfl) (tm_in 94 (by decide +kernel) rfl) (tm_in 59 (by decide +kernel) rfl) (by decide) ⟨Nat.le_of_ble_eq_true rfl, Nat.le_of_ble_eq_true rfl, tm_ltb rfl⟩ (tm_get_d to_Fi_init rfl) ?_
  refine tm_w C tfo_Fi to_Fi_init 2 rfl rfl rfl trivial ?_
  refine tm_callI C Ro tl_Fi_11 (tm_get_d to_Fi_init rfl) (cm_Ro_init_27) rfl rfl rfl (Nat.le_of_ble_eq_true rfl) ⟨Nat.le_of_ble_eq_true rfl, Nat.le_of_ble_eq_true rfl, Nat.le_of_ble_eq_true rfl, Nat.le_of_ble_eq_true rfl, Nat.le_of_ble_eq_true rfl⟩ (fun v X hq => ?_)
  obtain ⟨rfl, rfl⟩ := hq
  refine tm_putFR C (tm_Γ.nm G) tg_Fi_14 rfl rfl rfl rfl (tm_get_d to_Fi_init rfl) ?_
  refine tm_w C tfo_Fi to_Fi_init 0 rfl rfl rfl trivial ?_
  refine tm_new C Ro (ci := 2) rfl (tm_in 217 (by decide +kernel) rfl) (tm_in 152 (by decide +kernel) rfl) (tm_in 62 (by decide +kernel) rfl) (by decide) ⟨Nat.le_of_ble_eq_true rfl, Nat.le_of_ble_eq_true rfl, tm_ltb rfl⟩ (tm_get_d to_Fi_init rfl) ?_
  refine tm_w C tfo_Fi to_Fi_init 0 rfl rfl rfl trivial ?_
  refine tm_callIN C Ro tl_Fi_22 (tm_get_d to_Fi_init rfl) (cm_Fo_init_30) rfl rfl rfl (Nat.le_of_ble_eq_true rfl) ⟨Nat.le_of_ble_eq_true rfl, Nat.le_of_ble_eq_true rfl, Nat.le_of_ble_eq_true rfl, Nat.le_of_ble_eq_true rfl, Nat.le_of_ble_eq_true rfl⟩ (fun v X hq => ?_)
  obtain ⟨rfl, rfl⟩ := hq
  refine tm_putFR C (tm_Γ.nm G) tg_Fi_23 rfl rfl rfl rfl (tm_get_d to_Fi_init rfl) ?_
  refine tm_w C tfo_Fi to_Fi_init 2 rfl rfl rfl ⟨rfl, trivial⟩ ?_
  exact tm_retv C G rfl (by decide) ⟨rfl, rfl⟩ (tm_get_d to_Fi_init rfl)

def mi_Fo_init_32 (mI : tm_I) : tm_I := tm_row mI 33 0
def ml_Fo_init_32 (mL : tm_L) : tm_L := tm_row mL 33 0
def mr_Fo_init_32 (mR : tm_R) : tm_R := tm_up (tm_row mR 33 tm_nul) 32 0 33
set_option maxRecDepth 100000 in
set_option maxHeartbeats 4000000 in
theorem cm_Fo_init_32 {mI : tm_I} {mL : tm_L} {mR : tm_R} : tm_M ty_Fo_init 1 20 1 4 [.ref 32] (sh0.take 33, mI, mL, mR) (tm_is none (sh0.take 34, mi_Fo_init_32 mI, ml_Fo_init_32 mL, mr_Fo_init_32 mR)) := by
  refine tm_body (by decide) (Nat.le_of_ble_eq_true rfl) fun Γ C G => ?_
  have Ro := G.ro
  refine tm_w C tfo_Fo to_Fo_init 0 rfl rfl rfl trivial ?_
  refine tm_obj C Ro (tm_in 156 (by decide +kernel) rfl) (tm_in 85 (by decide +kernel) rfl) (tm_in 86 (by decide +kernel) rfl) rfl (by decide) ⟨by decide, by decide⟩ (tm_get_d to_Fo_init rfl) ?_
  refine tm_w C tfo_Fo to_Fo_init 1 rfl rfl rfl trivial ?_
  refine tm_newI C Ro (N := 4) (n := (4 : Int32)) (tm_in 115 (by decide +kernel) rfl) (by decide) (by decide) (by decide) ⟨Nat.le_of_ble_eq_true rfl, Nat.le_of_ble_eq_true rfl, tm_ltb rfl⟩ (tm_get_d to_Fo_init rfl) ?_
  refine tm_putFR C (tm_Γ.nm G) tg_Fo_7 rfl rfl rfl rfl (tm_get_d to_Fo_init rfl) ?_
  exact tm_retv C G rfl (by decide) ⟨rfl, rfl⟩ (tm_get_d to_Fo_init rfl)

def mi_Fo_init_34 (mI : tm_I) : tm_I := tm_row mI 35 0
def ml_Fo_init_34 (mL : tm_L) : tm_L := tm_row mL 35 0
def mr_Fo_init_34 (mR : tm_R) : tm_R := tm_up (tm_row mR 35 tm_nul) 34 0 35
set_option maxRecDepth 100000 in
set_option maxHeartbeats 4000000 in
theorem cm_Fo_init_34 {mI : tm_I} {mL : tm_L} {mR : tm_R} : tm_M ty_Fo_init 1 20 1 4 [.ref 34] (sh0.take 35, mI, mL, mR) (tm_is none (sh0.take 36, mi_Fo_init_34 mI, ml_Fo_init_34 mL, mr_Fo_init_34 mR)) := by
  refine tm_body (by decide) (Nat.le_of_ble_eq_true rfl) fun Γ C G => ?_
  have Ro := G.ro
  refine tm_w C tfo_Fo to_Fo_init 0 rfl rfl rfl trivial ?_
  refine tm_obj C Ro (tm_in 156 (by decide +kernel) rfl) (tm_in 85 (by decide +kernel) rfl) (tm_in 86 (by decide +kernel) rfl) rfl (by decide) ⟨by decide, by decide⟩ (tm_get_d to_Fo_init rfl) ?_
  refine tm_w C tfo_Fo to_Fo_init 1 rfl rfl rfl trivial ?_
  refine tm_newI C Ro (N := 4) (n := (4 : Int32)) (tm_in 115 (by decide +kernel) rfl) (by decide) (by decide) (by decide) ⟨Nat.le_of_ble_eq_true rfl, Nat.le_of_ble_eq_true rfl, tm_ltb rfl⟩ (tm_get_d to_Fo_init rfl) ?_
  refine tm_putFR C (tm_Γ.nm G) tg_Fo_7 rfl rfl rfl rfl (tm_get_d to_Fo_init rfl) ?_
  exact tm_retv C G rfl (by decide) ⟨rfl, rfl⟩ (tm_get_d to_Fo_init rfl)

def mi_Li_init_36 (mI : tm_I) : tm_I := tm_row (tm_row mI 37 0) 38 0
def ml_Li_init_36 (mL : tm_L) : tm_L := tm_row (tm_row mL 37 0) 38 0
def mr_Li_init_36 (mR : tm_R) : tm_R := tm_up (tm_row (tm_up (tm_row mR 37 tm_nul) 36 0 37) 38 tm_nul) 36 1 38
set_option maxRecDepth 100000 in
set_option maxHeartbeats 4000000 in
theorem cm_Li_init_36 {mI : tm_I} {mL : tm_L} {mR : tm_R} : tm_M ty_Li_init 1 20 2 40 [.ref 36] (sh0.take 37, mI, mL, mR) (tm_is none (sh0.take 39, mi_Li_init_36 mI, ml_Li_init_36 mL, mr_Li_init_36 mR)) := by
  refine tm_body (by decide) (Nat.le_of_ble_eq_true rfl) fun Γ C G => ?_
  have Ro := G.ro
  refine tm_w C tfo_Li to_Li_init 0 rfl rfl rfl trivial ?_
  refine tm_obj C Ro (tm_in 263 (by decide +kernel) rfl) (tm_in 85 (by decide +kernel) rfl) (tm_in 86 (by decide +kernel) rfl) rfl (by decide) ⟨by decide, by decide⟩ (tm_get_d to_Li_init rfl) ?_
  refine tm_w C tfo_Li to_Li_init 1 rfl rfl rfl trivial ?_
  refine tm_newI C Ro (N := 20) (n := (20 : Int32)) (tm_in 115 (by decide +kernel) rfl) (by decide) (by decide) (by decide) ⟨Nat.le_of_ble_eq_true rfl, Nat.le_of_ble_eq_true rfl, tm_ltb rfl⟩ (tm_get_d to_Li_init rfl) ?_
  refine tm_putFR C (tm_Γ.nm G) tg_Li_9 rfl rfl rfl rfl (tm_get_d to_Li_init rfl) ?_
  refine tm_w C tfo_Li to_Li_init 1 rfl rfl rfl trivial ?_
  refine tm_newI C Ro (N := 20) (n := (20 : Int32)) (tm_in 115 (by decide +kernel) rfl) (by decide) (by decide) (by decide) ⟨Nat.le_of_ble_eq_true rfl, Nat.le_of_ble_eq_true rfl, tm_ltb rfl⟩ (tm_get_d to_Li_init rfl) ?_
  refine tm_putFR C (tm_Γ.nm G) tg_Li_15 rfl rfl rfl rfl (tm_get_d to_Li_init rfl) ?_
  exact tm_retv C G rfl (by decide) ⟨rfl, rfl⟩ (tm_get_d to_Li_init rfl)

def mi_Pr_init_19 (mI : tm_I) : tm_I := mi_Li_init_36 (tm_row (mi_Fo_init_34 (tm_row (mi_Fo_init_32 (tm_row (mi_Fi_init_26 (tm_row (mi_Sh_init_20 (tm_row mI 20 0)) 26 0)) 32 0)) 34 0)) 36 0)
def ml_Pr_init_19 (mL : tm_L) : tm_L := ml_Li_init_36 (tm_row (ml_Fo_init_34 (tm_row (ml_Fo_init_32 (tm_row (ml_Fi_init_26 (tm_row (ml_Sh_init_20 (tm_row mL 20 0)) 26 0)) 32 0)) 34 0)) 36 0)
def mr_Pr_init_19 (mR : tm_R) : tm_R := tm_up (mr_Li_init_36 (tm_row (tm_up (mr_Fo_init_34 (tm_row (tm_up (mr_Fo_init_32 (tm_row (tm_up (mr_Fi_init_26 (tm_row (tm_up (mr_Sh_init_20 (tm_row mR 20 tm_nul)) 19 0 20) 26 tm_nul)) 19 1 26) 32 tm_nul)) 19 2 32) 34 tm_nul)) 19 3 34) 36 tm_nul)) 19 4 36
set_option maxRecDepth 100000 in
set_option maxHeartbeats 4000000 in
theorem cm_Pr_init_19 {mI : tm_I} {mL : tm_L} {mR : tm_R} : tm_M ty_Pr_init 3 64 19 4956 [.ref 19] (sh0.take 20, mI, mL, mR) (tm_is none (sh0.take 39, mi_Pr_init_19 mI, ml_Pr_init_19 mL, mr_Pr_init_19 mR)) := by
  refine tm_body (by decide) (Nat.le_of_ble_eq_true rfl) fun Γ C G => ?_
  have Ro := G.ro
  refine tm_w C tfo_Pr to_Pr_init 0 rfl rfl rfl trivial ?_
  refine tm_obj C Ro (tm_in 171 (by decide +kernel) rfl) (tm_in 85 (by decide +kernel) rfl) (tm_in 86 (by decide +kernel) rfl) rfl (by decide) ⟨by decide, by decide⟩ (tm_get_d to_Pr_init rfl) ?_
  refine tm_w C tfo_Pr to_Pr_init 0 rfl rfl rfl trivial ?_
  refine tm_new C Ro (ci := 8) rfl (tm_in 172 (by decide +kernel) rfl) (tm_in 173 (by decide +kernel) rfl) (tm_in 64 (by decide +kernel) rfl) (by decide) ⟨Nat.le_of_ble_eq_true rfl, Nat.le_of_ble_eq_true rfl, tm_ltb rfl⟩ (tm_get_d to_Pr_init rfl) ?_
  refine tm_w C tfo_Pr to_Pr_init 0 rfl rfl rfl trivial ?_
  refine tm_callIN C Ro tl_Pr_11 (tm_get_d to_Pr_init rfl) (cm_Sh_init_20) rfl rfl rfl (Nat.le_of_ble_eq_true rfl) ⟨Nat.le_of_ble_eq_true rfl, Nat.le_of_ble_eq_true rfl, Nat.le_of_ble_eq_true rfl, Nat.le_of_ble_eq_true rfl, Nat.le_of_ble_eq_true rfl⟩ (fun v X hq => ?_)
  obtain ⟨rfl, rfl⟩ := hq
  refine tm_putFR C (tm_Γ.nm G) tg_Pr_12 rfl rfl rfl rfl (tm_get_d to_Pr_init rfl) ?_
  refine tm_w C tfo_Pr to_Pr_init 0 rfl rfl rfl trivial ?_
  refine tm_new C Ro (ci := 1) rfl (tm_in 209 (by decide +kernel) rfl) (tm_in 210 (by decide +kernel) rfl) (tm_in 65 (by decide +kernel) rfl) (by decide) ⟨Nat.le_of_ble_eq_true rfl, Nat.le_of_ble_eq_true rfl, tm_ltb rfl⟩ (tm_get_d to_Pr_init rfl) ?_
  refine tm_w C tfo_Pr to_Pr_init 0 rfl rfl rfl trivial ?_
  refine tm_callIN C Ro tl_Pr_20 (tm_get_d to_Pr_init rfl) (cm_Fi_init_26) rfl rfl rfl (Nat.le_of_ble_eq_true rfl) ⟨Nat.le_of_ble_eq_true rfl, Nat.le_of_ble_eq_true rfl, Nat.le_of_ble_eq_true rfl, Nat.le_of_ble_eq_true rfl, Nat.le_of_ble_eq_true rfl⟩ (fun v X hq => ?_)
  obtain ⟨rfl, rfl⟩ := hq
  refine tm_putFR C (tm_Γ.nm G) tg_Pr_21 rfl rfl rfl rfl (tm_get_d to_Pr_init rfl) ?_
  refine tm_w C tfo_Pr to_Pr_init 0 rfl rfl rfl trivial ?_
  refine tm_new C Ro (ci := 2) rfl (tm_in 256 (by decide +kernel) rfl) (tm_in 152 (by decide +kernel) rfl) (tm_in 62 (by decide +kernel) rfl) (by decide) ⟨Nat.le_of_ble_eq_true rfl, Nat.le_of_ble_eq_true rfl, tm_ltb rfl⟩ (tm_get_d to_Pr_init rfl) ?_
  refine tm_w C tfo_Pr to_Pr_init 0 rfl rfl rfl trivial ?_
  refine tm_callIN C Ro tl_Pr_27 (tm_get_d to_Pr_init rfl) (cm_Fo_init_32) rfl rfl rfl (Nat.le_of_ble_eq_true rfl) ⟨Nat.le_of_ble_eq_true rfl, Nat.le_of_ble_eq_true rfl, Nat.le_of_ble_eq_true rfl, Nat.le_of_ble_eq_true rfl, Nat.le_of_ble_eq_true rfl⟩ (fun v X hq => ?_)
  obtain ⟨rfl, rfl⟩ := hq
  refine tm_putFR C (tm_Γ.nm G) tg_Pr_28 rfl rfl rfl rfl (tm_get_d to_Pr_init rfl) ?_
  refine tm_w C tfo_Pr to_Pr_init 0 rfl rfl rfl trivial ?_
  refine tm_new C Ro (ci := 2) rfl (tm_in 256 (by decide +kernel) rfl) (tm_in 152 (by decide +kernel) rfl) (tm_in 62 (by decide +kernel) rfl) (by decide) ⟨Nat.le_of_ble_eq_true rfl, Nat.le_of_ble_eq_true rfl, tm_ltb rfl⟩ (tm_get_d to_Pr_init rfl) ?_
  refine tm_w C tfo_Pr to_Pr_init 0 rfl rfl rfl trivial ?_
  refine tm_callIN C Ro tl_Pr_27 (tm_get_d to_Pr_init rfl) (cm_Fo_init_34) rfl rfl rfl (Nat.le_of_ble_eq_true rfl) ⟨Nat.le_of_ble_eq_true rfl, Nat.le_of_ble_eq_true rfl, Nat.le_of_ble_eq_true rfl, Nat.le_of_ble_eq_true rfl, Nat.le_of_ble_eq_true rfl⟩ (fun v X hq => ?_)
  obtain ⟨rfl, rfl⟩ := hq
  refine tm_putFR C (tm_Γ.nm G) tg_Pr_32 rfl rfl rfl rfl (tm_get_d to_Pr_init rfl) ?_
  refine tm_w C tfo_Pr to_Pr_init 0 rfl rfl rfl trivial ?_
  refine tm_new C Ro (ci := 3) rfl (tm_in 258 (by decide +kernel) rfl) (tm_in 259 (by decide +kernel) rfl) (tm_in 66 (by decide +kernel) rfl) (by decide) ⟨Nat.le_of_ble_eq_true rfl, Nat.le_of_ble_eq_true rfl, tm_ltb rfl⟩ (tm_get_d to_Pr_init rfl) ?_
  refine tm_w C tfo_Pr to_Pr_init 0 rfl rfl rfl trivial ?_
  refine tm_callIN C Ro tl_Pr_37 (tm_get_d to_Pr_init rfl) (cm_Li_init_36) rfl rfl rfl (Nat.le_of_ble_eq_true rfl) ⟨Nat.le_of_ble_eq_true rfl, Nat.le_of_ble_eq_true rfl, Nat.le_of_ble_eq_true rfl, Nat.le_of_ble_eq_true rfl, Nat.le_of_ble_eq_true rfl⟩ (fun v X hq => ?_)
  obtain ⟨rfl, rfl⟩ := hq
  refine tm_putFR C (tm_Γ.nm G) tg_Pr_38 rfl rfl rfl rfl (tm_get_d to_Pr_init rfl) ?_
  exact tm_retv C G rfl (by decide) ⟨rfl, rfl⟩ (tm_get_d to_Pr_init rfl)

def mi_La_init_0 (mI : tm_I) : tm_I := tm_up (tm_up (tm_up (mi_Pr_init_19 (tm_row (mi_Nu_init_16 (tm_row (mi_Ro_init_13 (tm_row (mi_Ro_init_10 (tm_row (mi_Sc_init_1 (tm_row mI 1 0)) 10 0)) 13 0)) 16 0)) 19 0)) 0 5 (0 : Int32)) 0 6 (0 : Int32)) 0 7 (-1 : Int32)
def ml_La_init_0 (mL : tm_L) : tm_L := ml_Pr_init_19 (tm_row (ml_Nu_init_16 (tm_row (ml_Ro_init_13 (tm_row (ml_Ro_init_10 (tm_row (ml_Sc_init_1 (tm_row mL 1 0)) 10 0)) 13 0)) 16 0)) 19 0)
def mr_La_init_0 (mR : tm_R) : tm_R := tm_up (mr_Pr_init_19 (tm_row (tm_up (mr_Nu_init_16 (tm_row (tm_up (mr_Ro_init_13 (tm_row (tm_up (mr_Ro_init_10 (tm_row (tm_up (mr_Sc_init_1 (tm_row mR 1 tm_nul)) 0 0 1) 10 tm_nul)) 0 1 10) 13 tm_nul)) 0 2 13) 16 tm_nul)) 0 3 16) 19 tm_nul)) 0 4 19
set_option maxRecDepth 100000 in
set_option maxHeartbeats 4000000 in
theorem cm_La_init_0 {mI : tm_I} {mL : tm_L} {mR : tm_R} : tm_M ty_La_init 4 84 38 6212 [.ref 0] (sh0.take 1, mI, mL, mR) (tm_is none (sh0.take 39, mi_La_init_0 mI, ml_La_init_0 mL, mr_La_init_0 mR)) := by
  refine tm_body (by decide) (Nat.le_of_ble_eq_true rfl) fun Γ C G => ?_
  have Ro := G.ro
  refine tm_w C tfo_La to_La_init 0 rfl rfl rfl trivial ?_
  refine tm_obj C Ro (tm_in 84 (by decide +kernel) rfl) (tm_in 85 (by decide +kernel) rfl) (tm_in 86 (by decide +kernel) rfl) rfl (by decide) ⟨by decide, by decide⟩ (tm_get_d to_La_init rfl) ?_
  refine tm_w C tfo_La to_La_init 0 rfl rfl rfl trivial ?_
  refine tm_new C Ro (ci := 7) rfl (tm_in 87 (by decide +kernel) rfl) (tm_in 88 (by decide +kernel) rfl) (tm_in 58 (by decide +kernel) rfl) (by decide) ⟨Nat.le_of_ble_eq_true rfl, Nat.le_of_ble_eq_true rfl, tm_ltb rfl⟩ (tm_get_d to_La_init rfl) ?_
  refine tm_w C tfo_La to_La_init 0 rfl rfl rfl trivial ?_
  refine tm_callIN C Ro tl_La_9 (tm_get_d to_La_init rfl) (cm_Sc_init_1) rfl rfl rfl (Nat.le_of_ble_eq_true rfl) ⟨Nat.le_of_ble_eq_true rfl, Nat.le_of_ble_eq_true rfl, Nat.le_of_ble_eq_true rfl, Nat.le_of_ble_eq_true rfl, Nat.le_of_ble_eq_true rfl⟩ (fun v X hq => ?_)
  obtain ⟨rfl, rfl⟩ := hq
  refine tm_putFR C (tm_Γ.nm G) tg_La_10 rfl rfl rfl rfl (tm_get_d to_La_init rfl) ?_
  refine tm_w C tfo_La to_La_init 0 rfl rfl rfl trivial ?_
  refine tm_new C Ro (ci := 6) rfl (tm_in 143 (by decide +kernel) rfl) (tm_in 94 (by decide +kernel) rfl) (tm_in 59 (by decide +kernel) rfl) (by decide) ⟨Nat.le_of_ble_eq_true rfl, Nat.le_of_ble_eq_true rfl, tm_ltb rfl⟩ (tm_get_d to_La_init rfl) ?_
  refine tm_w C tfo_La to_La_init 2 rfl rfl rfl trivial ?_
  refine tm_callI C Ro tl_La_18 (tm_get_d to_La_init rfl) (cm_Ro_init_10) rfl rfl rfl (Nat.le_of_ble_eq_true rfl) ⟨Nat.le_of_ble_eq_true rfl, Nat.le_of_ble_eq_true rfl, Nat.le_of_ble_eq_true rfl, Nat.le_of_ble_eq_true rfl, Nat.le_of_ble_eq_true rfl⟩ (fun v X hq => ?_)
  obtain ⟨rfl, rfl⟩ := hq
  refine tm_putFR C (tm_Γ.nm G) tg_La_21 rfl rfl rfl rfl (tm_get_d to_La_init rfl) ?_
  refine tm_w C tfo_La to_La_init 0 rfl rfl rfl trivial ?_
  refine tm_new C Ro (ci := 6) rfl (tm_in 143 (by decide +kernel) rfl) (tm_in 94 (by decide +kernel) rfl) (tm_in 59 (by decide +kernel) rfl) (by decide) ⟨Nat.le_of_ble_eq_true rfl, Nat.le_of_ble_eq_true rfl, tm_ltb rfl⟩ (tm_get_d to_La_init rfl) ?_
  refine tm_w C tfo_La to_La_init 2 rfl rfl rfl trivial ?_
  refine tm_callI C Ro tl_La_18 (tm_get_d to_La_init rfl) (cm_Ro_init_13) rfl rfl rfl (Nat.le_of_ble_eq_true rfl) ⟨Nat.le_of_ble_eq_true rfl, Nat.le_of_ble_eq_true rfl, Nat.le_of_ble_eq_true rfl, Nat.le_of_ble_eq_true rfl, Nat.le_of_ble_eq_true rfl⟩ (fun v X hq => ?_)
  obtain ⟨rfl, rfl⟩ := hq
  refine tm_putFR C (tm_Γ.nm G) tg_La_25 rfl rfl rfl rfl (tm_get_d to_La_init rfl) ?_
  refine tm_w C tfo_La to_La_init 0 rfl rfl rfl trivial ?_
  refine tm_new C Ro (ci := 4) rfl (tm_in 145 (by decide +kernel) rfl) (tm_in 146 (by decide +kernel) rfl) (tm_in 61 (by decide +kernel) rfl) (by decide) ⟨Nat.le_of_ble_eq_true rfl, Nat.le_of_ble_eq_true rfl, tm_ltb rfl⟩ (tm_get_d to_La_init rfl) ?_
  refine tm_w C tfo_La to_La_init 0 rfl rfl rfl trivial ?_
  refine tm_callIN C Ro tl_La_30 (tm_get_d to_La_init rfl) (cm_Nu_init_16) rfl rfl rfl (Nat.le_of_ble_eq_true rfl) ⟨Nat.le_of_ble_eq_true rfl, Nat.le_of_ble_eq_true rfl, Nat.le_of_ble_eq_true rfl, Nat.le_of_ble_eq_true rfl, Nat.le_of_ble_eq_true rfl⟩ (fun v X hq => ?_)
  obtain ⟨rfl, rfl⟩ := hq
  refine tm_putFR C (tm_Γ.nm G) tg_La_31 rfl rfl rfl rfl (tm_get_d to_La_init rfl) ?_
  refine tm_w C tfo_La to_La_init 0 rfl rfl rfl trivial ?_
  refine tm_new C Ro (ci := 5) rfl (tm_in 166 (by decide +kernel) rfl) (tm_in 167 (by decide +kernel) rfl) (tm_in 63 (by decide +kernel) rfl) (by decide) ⟨Nat.le_of_ble_eq_true rfl, Nat.le_of_ble_eq_true rfl, tm_ltb rfl⟩ (tm_get_d to_La_init rfl) ?_
  refine tm_w C tfo_La to_La_init 0 rfl rfl rfl trivial ?_
  refine tm_callIN C Ro tl_La_37 (tm_get_d to_La_init rfl) (cm_Pr_init_19) rfl rfl rfl (Nat.le_of_ble_eq_true rfl) ⟨Nat.le_of_ble_eq_true rfl, Nat.le_of_ble_eq_true rfl, Nat.le_of_ble_eq_true rfl, Nat.le_of_ble_eq_true rfl, Nat.le_of_ble_eq_true rfl⟩ (fun v X hq => ?_)
  obtain ⟨rfl, rfl⟩ := hq
  refine tm_putFR C (tm_Γ.nm G) tg_La_38 rfl rfl rfl rfl (tm_get_d to_La_init rfl) ?_
  refine tm_w C tfo_La to_La_init 8 rfl rfl rfl ⟨rfl, rfl, rfl, trivial⟩ ?_
  exact tm_retv C G rfl (by decide) ⟨rfl, rfl⟩ (tm_get_d to_La_init rfl)

def mi_Mo_init_39 (mI : tm_I) : tm_I := tm_row (tm_row (tm_row (tm_row (tm_row (tm_row (tm_row (tm_row (tm_row (tm_row (tm_row (tm_up (tm_row (tm_row (tm_row (tm_row (tm_row (tm_row mI 40 0) 41 0) 42 0) 43 0) 44 0) 45 0) 39 14 (-1 : Int32)) 46 0) 47 0) 48 0) 49 0) 50 0) 51 0) 52 0) 53 0) 54 0) 55 0) 56 0
def ml_Mo_init_39 (mL : tm_L) : tm_L := tm_row (tm_row (tm_row (tm_row (tm_row (tm_row (tm_row (tm_row (tm_row (tm_row (tm_row (tm_row (tm_row (tm_row (tm_row (tm_row (tm_row mL 40 0) 41 0) 42 0) 43 0) 44 0) 45 0) 46 0) 47 0) 48 0) 49 0) 50 0) 51 0) 52 0) 53 0) 54 0) 55 0) 56 0
def mr_Mo_init_39 (mR : tm_R) : tm_R := tm_up (tm_row (tm_up (tm_row (tm_up (tm_row (tm_up (tm_row (tm_up (tm_row (tm_up (tm_row (tm_up (tm_row (tm_up (tm_row (tm_up (tm_row (tm_up (tm_row (tm_up (tm_row (tm_up (tm_row (tm_up (tm_row (tm_up (tm_row (tm_up (tm_row (tm_up (tm_row (tm_up (tm_row mR 40 tm_nul) 39 1 40) 41 tm_nul) 39 3 41) 42 tm_nul) 39 4 42) 43 tm_nul) 39 5 43) 44 tm_nul) 39 6 44) 45 tm_nul) 39 7 45) 46 tm_nul) 39 15 46) 47 tm_nul) 39 16 47) 48 tm_nul) 39 24 48) 49 tm_nul) 39 27 49) 50 tm_nul) 39 28 50) 51 tm_nul) 39 29 51) 52 tm_nul) 39 30 52) 53 tm_nul) 39 31 53) 54 tm_nul) 39 36 54) 55 tm_nul) 39 38 55) 56 tm_nul) 39 39 56
set_option maxRecDepth 100000 in
set_option maxHeartbeats 4000000 in
theorem cm_Mo_init_39 {mI : tm_I} {mL : tm_L} {mR : tm_R} : tm_M ty_Mo_init 1 20 17 67066 [.ref 39] (sh0.take 40, mI, mL, mR) (tm_is none (sh0.take 57, mi_Mo_init_39 mI, ml_Mo_init_39 mL, mr_Mo_init_39 mR)) := by
  refine tm_body (by decide) (Nat.le_of_ble_eq_true rfl) fun Γ C G => ?_
  have Ro := G.ro
  refine tm_w C tfo_Mo to_Mo_init 0 rfl rfl rfl trivial ?_
  refine tm_obj C Ro (tm_in 936 (by decide +kernel) rfl) (tm_in 85 (by decide +kernel) rfl) (tm_in 86 (by decide +kernel) rfl) rfl (by decide) ⟨by decide, by decide⟩ (tm_get_d to_Mo_init rfl) ?_
  refine tm_w C tfo_Mo to_Mo_init 1 rfl rfl rfl trivial ?_
  refine tm_newI C Ro (N := 4096) (n := (4096 : Int32)) (tm_in 115 (by decide +kernel) rfl) (by decide) (by decide) (by decide) ⟨Nat.le_of_ble_eq_true rfl, Nat.le_of_ble_eq_true rfl, tm_ltb rfl⟩ (tm_get_d to_Mo_init rfl) ?_
  refine tm_putFR C (tm_Γ.nm G) tg_Mo_7 rfl rfl rfl rfl (tm_get_d to_Mo_init rfl) ?_
  refine tm_w C tfo_Mo to_Mo_init 1 rfl rfl rfl trivial ?_
  refine tm_newI C Ro (N := 3200) (n := (3200 : Int32)) (tm_in 115 (by decide +kernel) rfl) (by decide) (by decide) (by decide) ⟨Nat.le_of_ble_eq_true rfl, Nat.le_of_ble_eq_true rfl, tm_ltb rfl⟩ (tm_get_d to_Mo_init rfl) ?_
  refine tm_putFR C (tm_Γ.nm G) tg_Mo_13 rfl rfl rfl rfl (tm_get_d to_Mo_init rfl) ?_
  refine tm_w C tfo_Mo to_Mo_init 1 rfl rfl rfl trivial ?_
  refine tm_newI C Ro (N := 8) (n := (8 : Int32)) (tm_in 115 (by decide +kernel) rfl) (by decide) (by decide) (by decide) ⟨Nat.le_of_ble_eq_true rfl, Nat.le_of_ble_eq_true rfl, tm_ltb rfl⟩ (tm_get_d to_Mo_init rfl) ?_
  refine tm_putFR C (tm_Γ.nm G) tg_Mo_16 rfl rfl rfl rfl (tm_get_d to_Mo_init rfl) ?_
  refine tm_w C tfo_Mo to_Mo_init 1 rfl rfl rfl trivial ?_
  refine tm_newI C Ro (N := 2000) (n := (2000 : Int32)) (tm_in 115 (by decide +kernel) rfl) (by decide) (by decide) (by decide) ⟨Nat.le_of_ble_eq_true rfl, Nat.le_of_ble_eq_true rfl, tm_ltb rfl⟩ (tm_get_d to_Mo_init rfl) ?_
  refine tm_putFR C (tm_Γ.nm G) tg_Mo_19 rfl rfl rfl rfl (tm_get_d to_Mo_init rfl) ?_
  refine tm_w C tfo_Mo to_Mo_init 1 rfl rfl rfl trivial ?_
  refine tm_newI C Ro (N := 10) (n := (10 : Int32)) (tm_in 115 (by decide +kernel) rfl) (by decide) (by decide) (by decide) ⟨Nat.le_of_ble_eq_true rfl, Nat.le_of_ble_eq_true rfl, tm_ltb rfl⟩ (tm_get_d to_Mo_init rfl) ?_
  refine tm_putFR C (tm_Γ.nm G) tg_Mo_22 rfl rfl rfl rfl (tm_get_d to_Mo_init rfl) ?_
  refine tm_w C tfo_Mo to_Mo_init 1 rfl rfl rfl trivial ?_
  refine tm_newI C Ro (N := 5800) (n := (5800 : Int32)) (tm_in 115 (by decide +kernel) rfl) (by decide) (by decide) (by decide) ⟨Nat.le_of_ble_eq_true rfl, Nat.le_of_ble_eq_true rfl, tm_ltb rfl⟩ (tm_get_d to_Mo_init rfl) ?_
  refine tm_putFR C (tm_Γ.nm G) tg_Mo_25 rfl rfl rfl rfl (tm_get_d to_Mo_init rfl) ?_
  refine tm_w C tfo_Mo to_Mo_init 4 rfl rfl rfl ⟨rfl, trivial⟩ ?_
  refine tm_newI C Ro (N := 4) (n := (4 : Int32)) (tm_in 115 (by decide +kernel) rfl) (by decide) (by decide) (by decide) ⟨Nat.le_of_ble_eq_true rfl, Nat.le_of_ble_eq_true rfl, tm_ltb rfl⟩ (tm_get_d to_Mo_init rfl) ?_
  refine tm_putFR C (tm_Γ.nm G) tg_Mo_32 rfl rfl rfl rfl (tm_get_d to_Mo_init rfl) ?_
  refine tm_w C tfo_Mo to_Mo_init 1 rfl rfl rfl trivial ?_
  refine tm_newI C Ro (N := 200) (n := (200 : Int32)) (tm_in 115 (by decide +kernel) rfl) (by decide) (by decide) (by decide) ⟨Nat.le_of_ble_eq_true rfl, Nat.le_of_ble_eq_true rfl, tm_ltb rfl⟩ (tm_get_d to_Mo_init rfl) ?_
  refine tm_putFR C (tm_Γ.nm G) tg_Mo_35 rfl rfl rfl rfl (tm_get_d to_Mo_init rfl) ?_
  refine tm_w C tfo_Mo to_Mo_init 1 rfl rfl rfl trivial ?_
  refine tm_newI C Ro (N := 4) (n := (4 : Int32)) (tm_in 115 (by decide +kernel) rfl) (by decide) (by decide) (by decide) ⟨Nat.le_of_ble_eq_true rfl, Nat.le_of_ble_eq_true rfl, tm_ltb rfl⟩ (tm_get_d to_Mo_init rfl) ?_
  refine tm_putFR C (tm_Γ.nm G) tg_Mo_38 rfl rfl rfl rfl (tm_get_d to_Mo_init rfl) ?_
  refine tm_w C tfo_Mo to_Mo_init 1 rfl rfl rfl trivial ?_
  refine tm_newI C Ro (N := 16) (n := (16 : Int32)) (tm_in 115 (by decide +kernel) rfl) (by decide) (by decide) (by decide) ⟨Nat.le_of_ble_eq_true rfl, Nat.le_of_ble_eq_true rfl, tm_ltb rfl⟩ (tm_get_d to_Mo_init rfl) ?_
  refine tm_putFR C (tm_Γ.nm G) tg_Mo_41 rfl rfl rfl rfl (tm_get_d to_Mo_init rfl) ?_
  refine tm_w C tfo_Mo to_Mo_init 1 rfl rfl rfl trivial ?_
  refine tm_newI C Ro (N := 2000) (n := (2000 : Int32)) (tm_in 115 (by decide +kernel) rfl) (by decide) (by decide) (by decide) ⟨Nat.le_of_ble_eq_true rfl, Nat.le_of_ble_eq_true rfl, tm_ltb rfl⟩ (tm_get_d to_Mo_init rfl) ?_
  refine tm_putFR C (tm_Γ.nm G) tg_Mo_44 rfl rfl rfl rfl (tm_get_d to_Mo_init rfl) ?_
  refine tm_w C tfo_Mo to_Mo_init 1 rfl rfl rfl trivial ?_
  refine tm_newI C Ro (N := 200) (n := (200 : Int32)) (tm_in 115 (by decide +kernel) rfl) (by decide) (by decide) (by decide) ⟨Nat.le_of_ble_eq_true rfl, Nat.le_of_ble_eq_true rfl, tm_ltb rfl⟩ (tm_get_d to_Mo_init rfl) ?_
  refine tm_putFR C (tm_Γ.nm G) tg_Mo_47 rfl rfl rfl rfl (tm_get_d to_Mo_init rfl) ?_
  refine tm_w C tfo_Mo to_Mo_init 1 rfl rfl rfl trivial ?_
  refine tm_newI C Ro (N := 24200) (n := (24200 : Int32)) (tm_in 115 (by decide +kernel) rfl) (by decide) (by decide) (by decide) ⟨Nat.le_of_ble_eq_true rfl, Nat.le_of_ble_eq_true rfl, tm_ltb rfl⟩ (tm_get_d to_Mo_init rfl) ?_
  refine tm_putFR C (tm_Γ.nm G) tg_Mo_50 rfl rfl rfl rfl (tm_get_d to_Mo_init rfl) ?_
  refine tm_w C tfo_Mo to_Mo_init 1 rfl rfl rfl trivial ?_
  refine tm_newI C Ro (N := 200) (n := (200 : Int32)) (tm_in 115 (by decide +kernel) rfl) (by decide) (by decide) (by decide) ⟨Nat.le_of_ble_eq_true rfl, Nat.le_of_ble_eq_true rfl, tm_ltb rfl⟩ (tm_get_d to_Mo_init rfl) ?_
  refine tm_putFR C (tm_Γ.nm G) tg_Mo_53 rfl rfl rfl rfl (tm_get_d to_Mo_init rfl) ?_
  refine tm_w C tfo_Mo to_Mo_init 1 rfl rfl rfl trivial ?_
  refine tm_newI C Ro (N := 48) (n := (48 : Int32)) (tm_in 115 (by decide +kernel) rfl) (by decide) (by decide) (by decide) ⟨Nat.le_of_ble_eq_true rfl, Nat.le_of_ble_eq_true rfl, tm_ltb rfl⟩ (tm_get_d to_Mo_init rfl) ?_
  refine tm_putFR C (tm_Γ.nm G) tg_Mo_56 rfl rfl rfl rfl (tm_get_d to_Mo_init rfl) ?_
  refine tm_w C tfo_Mo to_Mo_init 1 rfl rfl rfl trivial ?_
  refine tm_newI C Ro (N := 1080) (n := (1080 : Int32)) (tm_in 115 (by decide +kernel) rfl) (by decide) (by decide) (by decide) ⟨Nat.le_of_ble_eq_true rfl, Nat.le_of_ble_eq_true rfl, tm_ltb rfl⟩ (tm_get_d to_Mo_init rfl) ?_
  refine tm_putFR C (tm_Γ.nm G) tg_Mo_59 rfl rfl rfl rfl (tm_get_d to_Mo_init rfl) ?_
  refine tm_w C tfo_Mo to_Mo_init 1 rfl rfl rfl trivial ?_
  refine tm_newI C Ro (N := 24000) (n := (24000 : Int32)) (tm_in 115 (by decide +kernel) rfl) (by decide) (by decide) (by decide) ⟨Nat.le_of_ble_eq_true rfl, Nat.le_of_ble_eq_true rfl, tm_ltb rfl⟩ (tm_get_d to_Mo_init rfl) ?_
  refine tm_putFR C (tm_Γ.nm G) tg_Mo_62 rfl rfl rfl rfl (tm_get_d to_Mo_init rfl) ?_
  exact tm_retv C G rfl (by decide) ⟨rfl, rfl⟩ (tm_get_d to_Mo_init rfl)
