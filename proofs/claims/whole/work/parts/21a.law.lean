/-! the law: its table, whom it calls, the script, its arms -/
def td_Lw : List (Nat × Instr × Nat) := [(0, .new 8, 3), (3, .dup, 1), (4, .invokespecial 28, 3), (7, .astore_n 1, 1), (8, .new 29, 3), (11, .dup, 1), (12, .invokespecial 31, 3), (15, .astore_n 2, 1), (16, .iconst 1, 1), (17, .newarray .long, 2), (19, .astore_n 3, 1), (20, .iconst 0, 1), (21, .istore 4, 2), (23, .iload 4, 2), (25, .aload_n 0, 1), (26, .arraylength, 1), (27, .iconst 4, 1), (28, .isub, 1), (29, .if_icmp .gt 416, 3), (32, .aload_n 0, 1), (33, .iload 4, 2), (35, .iaload, 1), (36, .bipush 7, 2), (38, .iand, 1), (39, .tableswitch 400 0 7 #[45, 145, 158, 171, 184, 197, 265, 333], 45), (84, .aload_n 1, 1), (85, .aload_n 0, 1), (86, .iload 4, 2), (88, .iconst 1, 1), (89, .iadd, 1), (90, .iaload, 1), (91, .aload_n 0, 1), (92, .iload 4, 2), (94, .iconst 2, 1), (95, .iadd, 1), (96, .iaload, 1), (97, .i2l, 1), (98, .bipush 32, 2), (100, .lshl, 1), (101, .aload_n 0, 1), (102, .iload 4, 2), (104, .iconst 3, 1), (105, .iadd, 1), (106, .iaload, 1), (107, .i2l, 1), (108, .ldc2_w 32, 3), (111, .land, 1), (112, .lor, 1), (113, .aload_n 3, 1), (114, .invokestatic 34, 3), (117, .istore 5, 2), (119, .aload_n 2, 1), (120, .aload_n 0, 1), (121, .iload 4, 2), (123, .iconst 1, 1), (124, .iadd, 1), (125, .iaload, 1), (126, .aload_n 0, 1), (127, .iload 4, 2), (129, .iconst 2, 1), (130, .iadd, 1), (131, .iaload, 1), (132, .i2l, 1), (133, .bipush 32, 2), (135, .lshl, 1), (136, .aload_n 0, 1), (137, .iload 4, 2), (139, .iconst 3, 1), (140, .iadd, 1), (141, .iaload, 1), (142, .i2l, 1), (143, .ldc2_w 32, 3), (146, .land, 1), (147, .lor, 1), (148, .invokevirtual 39, 3), (151, .istore 6, 2), (153, .aload_n 2, 1), (154, .invokevirtual 40, 3), (157, .iload 5, 2), (159, .if_icmp .eq 5, 3), (162, .iconst 0, 1), (163, .ireturn, 1), (164, .iload 5, 2), (166, .ifCond .ne 15, 3), (169, .aload_n 3, 1), (170, .iconst 0, 1), (171, .laload, 1), (172, .iload 6, 2), (174, .i2l, 1), (175, .lcmp, 1), (176, .ifCond .eq 5, 3), (179, .iconst 0, 1), (180, .ireturn, 1), (181, .goto 258, 3), (184, .aload_n 1, 1), (185, .invokevirtual 44, 3), (188, .aload_n 2, 1), (189, .invokevirtual 47, 3), (192, .if_icmp .eq 247, 3), (195, .iconst 0, 1), (196, .ireturn, 1), (197, .aload_n 1, 1), (198, .invokevirtual 48, 3), (201, .aload_n 2, 1), (202, .invokevirtual 51, 3), (205, .if_icmp .eq 234, 3), (208, .iconst 0, 1), (209, .ireturn, 1), (210, .aload_n 1, 1), (211, .invokevirtual 52, 3), (214, .aload_n 2, 1), (215, .invokevirtual 55, 3), (218, .if_icmp .eq 221, 3), (221, .iconst 0, 1), (222, .ireturn, 1), (223, .aload_n 1, 1), (224, .invokevirtual 56, 3), (227, .aload_n 2, 1), (228, .invokevirtual 59, 3), (231, .if_icmp .eq 208, 3), (234, .iconst 0, 1), (235, .ireturn, 1), (236, .aload_n 1, 1), (237, .aload_n 0, 1), (238, .iload 4, 2), (240, .iconst 1, 1), (241, .iadd, 1), (242, .iaload, 1), (243, .aload_n 0, 1), (244, .iload 4, 2), (246, .iconst 2, 1), (247, .iadd, 1), (248, .iaload, 1), (249, .aload_n 3, 1), (250, .invokestatic 60, 3), (253, .istore 5, 2), (255, .aload_n 2, 1), (256, .aload_n 0, 1), (257, .iload 4, 2), (259, .iconst 1, 1), (260, .iadd, 1), (261, .iaload, 1), (262, .aload_n 0, 1), (263, .iload 4, 2), (265, .iconst 2, 1), (266, .iadd, 1), (267, .iaload, 1), (268, .invokevirtual 63, 3), (271, .istore 6, 2), (273, .aload_n 2, 1), (274, .invokevirtual 40, 3), (277, .iload 5, 2), (279, .if_icmp .eq 5, 3), (282, .iconst 0, 1), (283, .ireturn, 1), (284, .iload 5, 2), (286, .ifCond .ne 15, 3), (289, .aload_n 3, 1), (290, .iconst 0, 1), (291, .laload, 1), (292, .iload 6, 2), (294, .i2l, 1), (295, .lcmp, 1), (296, .ifCond .eq 5, 3), (299, .iconst 0, 1), (300, .ireturn, 1), (301, .goto 138, 3), (304, .aload_n 1, 1), (305, .aload_n 0, 1), (306, .iload 4, 2), (308, .iconst 1, 1), (309, .iadd, 1), (310, .iaload, 1), (311, .aload_n 0, 1), (312, .iload 4, 2), (314, .iconst 2, 1), (315, .iadd, 1), (316, .iaload, 1), (317, .aload_n 3, 1), (318, .invokestatic 64, 3), (321, .istore 5, 2), (323, .aload_n 2, 1), (324, .aload_n 0, 1), (325, .iload 4, 2), (327, .iconst 1, 1), (328, .iadd, 1), (329, .iaload, 1), (330, .aload_n 0, 1), (331, .iload 4, 2), (333, .iconst 2, 1), (334, .iadd, 1), (335, .iaload, 1), (336, .invokevirtual 66, 3), (339, .istore 6, 2), (341, .aload_n 2, 1), (342, .invokevirtual 40, 3), (345, .iload 5, 2), (347, .if_icmp .eq 5, 3), (350, .iconst 0, 1), (351, .ireturn, 1), (352, .iload 5, 2), (354, .ifCond .ne 15, 3), (357, .aload_n 3, 1), (358, .iconst 0, 1), (359, .laload, 1), (360, .iload 6, 2), (362, .i2l, 1), (363, .lcmp, 1), (364, .ifCond .eq 5, 3), (367, .iconst 0, 1), (368, .ireturn, 1), (369, .goto 70, 3), (372, .aload_n 1, 1), (373, .aload_n 0, 1), (374, .iload 4, 2), (376, .iconst 1, 1), (377, .iadd, 1), (378, .iaload, 1), (379, .aload_n 0, 1), (380, .iload 4, 2), (382, .iconst 2, 1), (383, .iadd, 1), (384, .iaload, 1), (385, .aload_n 3, 1), (386, .invokestatic 67, 3), (389, .istore 5, 2), (391, .aload_n 2, 1), (392, .aload_n 0, 1), (393, .iload 4, 2), (395, .iconst 1, 1), (396, .iadd, 1), (397, .iaload, 1), (398, .aload_n 0, 1), (399, .iload 4, 2), (401, .iconst 2, 1), (402, .iadd, 1), (403, .iaload, 1), (404, .invokevirtual 69, 3), (407, .lstore 6, 2), (409, .aload_n 2, 1), (410, .invokevirtual 40, 3), (413, .iload 5, 2), (415, .if_icmp .eq 5, 3), (418, .iconst 0, 1), (419, .ireturn, 1), (420, .iload 5, 2), (422, .ifCond .ne 14, 3), (425, .aload_n 3, 1), (426, .iconst 0, 1), (427, .laload, 1), (428, .lload 6, 2), (430, .lcmp, 1), (431, .ifCond .eq 5, 3), (434, .iconst 0, 1), (435, .ireturn, 1), (436, .goto 3, 3), (439, .iinc 4 4, 3), (442, .goto (-419), 3), (445, .iconst 1, 1), (446, .ireturn, 1)]
theorem to_Lw : ∀ q ∈ td_Lw, decode code q.1 = .ok q.2 := by decide +kernel
theorem tk_La_wipe : tm_K0 ty_La_wipe 0 := ⟨tm_in 337 (by decide +kernel) rfl, tm_in 57 (by decide +kernel) rfl, by decide, by decide, by decide +kernel⟩
theorem tl_Lw_44 : tm_LV "LabelScriptLaw" 44 ty_La_wipe 0 := ⟨tk_La_wipe, tm_in 334 (by decide +kernel) rfl, tm_in 335 (by decide +kernel) rfl, tm_in 336 (by decide +kernel) rfl⟩
theorem tk_Mo_wipe : tm_K0 ty_Mo_wipe 0 := ⟨tm_in 1070 (by decide +kernel) rfl, tm_in 67 (by decide +kernel) rfl, by decide, by decide, by decide +kernel⟩
theorem tl_Lw_47 : tm_LV "LabelScriptLaw" 47 ty_Mo_wipe 0 := ⟨tk_Mo_wipe, tm_in 1067 (by decide +kernel) rfl, tm_in 1068 (by decide +kernel) rfl, tm_in 1069 (by decide +kernel) rfl⟩
theorem tk_La_read : tm_K0 ty_La_read 0 := ⟨tm_in 349 (by decide +kernel) rfl, tm_in 57 (by decide +kernel) rfl, by decide, by decide, by decide +kernel⟩
theorem tl_Lw_48 : tm_LV "LabelScriptLaw" 48 ty_La_read 0 := ⟨tk_La_read, tm_in 346 (by decide +kernel) rfl, tm_in 347 (by decide +kernel) rfl, tm_in 348 (by decide +kernel) rfl⟩
theorem tk_Mo_read : tm_K0 ty_Mo_read 0 := ⟨tm_in 1074 (by decide +kernel) rfl, tm_in 67 (by decide +kernel) rfl, by decide, by decide, by decide +kernel⟩
theorem tl_Lw_51 : tm_LV "LabelScriptLaw" 51 ty_Mo_read 0 := ⟨tk_Mo_read, tm_in 1071 (by decide +kernel) rfl, tm_in 1072 (by decide +kernel) rfl, tm_in 1073 (by decide +kernel) rfl⟩
theorem tk_La_fault : tm_K0 ty_La_fault 0 := ⟨tm_in 792 (by decide +kernel) rfl, tm_in 57 (by decide +kernel) rfl, by decide, by decide, by decide +kernel⟩
theorem tl_Lw_52 : tm_LV "LabelScriptLaw" 52 ty_La_fault 0 := ⟨tk_La_fault, tm_in 789 (by decide +kernel) rfl, tm_in 790 (by decide +kernel) rfl, tm_in 791 (by decide +kernel) rfl⟩
theorem tk_Mo_fault : tm_K0 ty_Mo_fault 0 := ⟨tm_in 1222 (by decide +kernel) rfl, tm_in 67 (by decide +kernel) rfl, by decide, by decide, by decide +kernel⟩
theorem tl_Lw_55 : tm_LV "LabelScriptLaw" 55 ty_Mo_fault 0 := ⟨tk_Mo_fault, tm_in 1219 (by decide +kernel) rfl, tm_in 1220 (by decide +kernel) rfl, tm_in 1221 (by decide +kernel) rfl⟩
theorem tk_La_place : tm_K0 ty_La_place 0 := ⟨tm_in 796 (by decide +kernel) rfl, tm_in 57 (by decide +kernel) rfl, by decide, by decide, by decide +kernel⟩
theorem tl_Lw_56 : tm_LV "LabelScriptLaw" 56 ty_La_place 0 := ⟨tk_La_place, tm_in 793 (by decide +kernel) rfl, tm_in 794 (by decide +kernel) rfl, tm_in 795 (by decide +kernel) rfl⟩
theorem tk_Mo_place : tm_K0 ty_Mo_place 0 := ⟨tm_in 1226 (by decide +kernel) rfl, tm_in 67 (by decide +kernel) rfl, by decide, by decide, by decide +kernel⟩
theorem tl_Lw_59 : tm_LV "LabelScriptLaw" 59 ty_Mo_place 0 := ⟨tk_Mo_place, tm_in 1223 (by decide +kernel) rfl, tm_in 1224 (by decide +kernel) rfl, tm_in 1225 (by decide +kernel) rfl⟩
theorem tk_Mo_write : tm_K0 ty_Mo_write 2 := ⟨tm_in 1065 (by decide +kernel) rfl, tm_in 67 (by decide +kernel) rfl, by decide, by decide, by decide +kernel⟩
theorem tl_Lw_39 : tm_LV "LabelScriptLaw" 39 ty_Mo_write 2 := ⟨tk_Mo_write, tm_in 1062 (by decide +kernel) rfl, tm_in 1063 (by decide +kernel) rfl, tm_in 1064 (by decide +kernel) rfl⟩
theorem tk_Mo_thrown : tm_K0 ty_Mo_thrown 0 := ⟨tm_in 1061 (by decide +kernel) rfl, tm_in 67 (by decide +kernel) rfl, by decide, by decide, by decide +kernel⟩
theorem tl_Lw_40 : tm_LV "LabelScriptLaw" 40 ty_Mo_thrown 0 := ⟨tk_Mo_thrown, tm_in 1058 (by decide +kernel) rfl, tm_in 1059 (by decide +kernel) rfl, tm_in 1060 (by decide +kernel) rfl⟩
theorem tk_Mo_label : tm_K0 ty_Mo_label 2 := ⟨tm_in 1230 (by decide +kernel) rfl, tm_in 67 (by decide +kernel) rfl, by decide, by decide, by decide +kernel⟩
theorem tl_Lw_63 : tm_LV "LabelScriptLaw" 63 ty_Mo_label 2 := ⟨tk_Mo_label, tm_in 1227 (by decide +kernel) rfl, tm_in 1228 (by decide +kernel) rfl, tm_in 1229 (by decide +kernel) rfl⟩
theorem tk_Mo_order : tm_K0 ty_Mo_order 2 := ⟨tm_in 1234 (by decide +kernel) rfl, tm_in 67 (by decide +kernel) rfl, by decide, by decide, by decide +kernel⟩
theorem tl_Lw_66 : tm_LV "LabelScriptLaw" 66 ty_Mo_order 2 := ⟨tk_Mo_order, tm_in 1231 (by decide +kernel) rfl, tm_in 1232 (by decide +kernel) rfl, tm_in 1233 (by decide +kernel) rfl⟩
theorem tk_Mo_data : tm_K0 ty_Mo_data 2 := ⟨tm_in 1238 (by decide +kernel) rfl, tm_in 67 (by decide +kernel) rfl, by decide, by decide, by decide +kernel⟩
theorem tl_Lw_69 : tm_LV "LabelScriptLaw" 69 ty_Mo_data 2 := ⟨tk_Mo_data, tm_in 1235 (by decide +kernel) rfl, tm_in 1236 (by decide +kernel) rfl, tm_in 1237 (by decide +kernel) rfl⟩
def tm_Sx (Γ : tm_G) (L : Nat) (xs : Nat → Int32) : Prop := match Γ with
  | (_, _, _, _, s, _, _, _, _, _, _, f, _, b, _) => va_X (f 1000301) L xs s s.heap ∧ f 1000301 < s.heap.size ∧ ¬ b ≤ f 1000301
section TLX
variable {Γ : tm_G} {own : String} {cc : ByteArray} {nL cells slots : Nat} {pc pc0 L : Nat} {xs : Nat → Int32} {lv : List (Option Value)} {st : List Value} {sh : List tm_Sh} {mI : tm_I} {mL : tm_L} {mR : tm_R} {tb : List (Nat × Instr × Nat)}
theorem tm_scr (C : tm_C Γ own cc nL) (S : tm_Sx Γ L xs) (hB : ∀ q ∈ tb, decode cc q.1 = .ok q.2) (hd : tm_get tb pc = some (pc0, .iaload, 1)) {i : Int32} (hin : vp_in i L) (k : tm_T Γ nL cells slots (pc + 1) lv (.int (xs i.toNatClampNeg) :: st) sh mI mL mR) : tm_T Γ nL cells slots pc lv (.int i :: .ref 1000301 :: st) sh mI mL mR := by
  obtain ⟨p, l, e, R, s, m, args, below, meth, c, D, f, cA, b, QQ⟩ := Γ
  obtain ⟨hx, hb, hml, hown, hts, hK, hf, hbs, hlk, hSt⟩ := C
  intro hsh hsz H locs ls hP hS hl
  have k := k hsh hsz H locs ls hP hS hl
  rw [tm_map_v, tm_map_v, tm_v_ref (tm_ge (by omega))]
  exact va_sld hx hb S.1 S.2.1 S.2.2 hS hin (tm_get_d hB hd) k
theorem tm_scl (C : tm_C Γ own cc nL) (S : tm_Sx Γ L xs) (hB : ∀ q ∈ tb, decode cc q.1 = .ok q.2) (hd : tm_get tb pc = some (pc0, .arraylength, 1)) (k : tm_T Γ nL cells slots (pc + 1) lv (.int (Int32.ofNat L) :: st) sh mI mL mR) : tm_T Γ nL cells slots pc lv (.ref 1000301 :: st) sh mI mL mR := by
  obtain ⟨p, l, e, R, s, m, args, below, meth, c, D, f, cA, b, QQ⟩ := Γ
  obtain ⟨hx, hb, hml, hown, hts, hK, hf, hbs, hlk, hSt⟩ := C
  intro hsh hsz H locs ls hP hS hl
  have k := k hsh hsz H locs ls hP hS hl
  rw [tm_map_v, tm_v_ref (tm_ge (by omega))]
  exact va_slen hx hb S.1 S.2.1 S.2.2 hS (tm_get_d hB hd) k
end TLX
def lv_L (i : Int32) (a b c : Option Value) : List (Option Value) := [some (.ref 1000301), some (.ref 0), some (.ref 39), some (.ref 57), some (.int i), a, b, c]
set_option maxRecDepth 100000 in
set_option maxHeartbeats 4000000 in
theorem la_wipe {Γ : tm_G} {cells slots : Nat} {ex : List tm_Sh} {mI : tm_I} {mL : tm_L} {i : Int32} {a b c : Option Value} {r1 r2 : Int32 × tm_I × tm_L} (C : tm_C Γ "LabelScriptLaw" code 8) (Ro : tm_Ro Γ 14 542 601024 7293033) (hc : cells ≤ 601024) (hs : slots ≤ 7293033) (h1 : f_La_wipe mI mL = some r1) (h2 : f_Mo_wipe r1.2.1 r1.2.2 = some r2) (he : r1.1 = r2.1)
    (k : tm_T Γ 8 cells slots 439 (lv_L i a b c) [] (sh0 ++ ex) r2.2.1 r2.2.2 rr) : tm_T Γ 8 cells slots 184 (lv_L i a b c) [] (sh0 ++ ex) mI mL rr := by
  refine tm_w C fr0_ok to_Lw 0 rfl rfl rfl trivial ?_
  refine tm_cV C Ro to_Lw tl_Lw_44 rfl (ct_La_wipe h1) rfl rfl rfl rfl rfl rfl rfl hc hs ?_
  refine tm_w C fr0_ok to_Lw 0 rfl rfl rfl trivial ?_
  refine tm_cV C Ro to_Lw tl_Lw_47 rfl (ct_Mo_wipe h2) rfl rfl rfl rfl rfl rfl rfl hc hs ?_
  exact tm_b C to_Lw rfl rfl (fun _ => k) (fun h => absurd he h)
set_option maxRecDepth 100000 in
set_option maxHeartbeats 4000000 in
theorem la_read {Γ : tm_G} {cells slots : Nat} {ex : List tm_Sh} {mI : tm_I} {mL : tm_L} {i : Int32} {a b c : Option Value} {r1 r2 : Int32 × tm_I × tm_L} (C : tm_C Γ "LabelScriptLaw" code 8) (Ro : tm_Ro Γ 14 542 601024 7293033) (hc : cells ≤ 601024) (hs : slots ≤ 7293033) (h1 : f_La_read mI mL = some r1) (h2 : f_Mo_read r1.2.1 r1.2.2 = some r2) (he : r1.1 = r2.1)
    (k : tm_T Γ 8 cells slots 439 (lv_L i a b c) [] (sh0 ++ ex) r2.2.1 r2.2.2 rr) : tm_T Γ 8 cells slots 197 (lv_L i a b c) [] (sh0 ++ ex) mI mL rr := by
  refine tm_w C fr0_ok to_Lw 0 rfl rfl rfl trivial ?_
  refine tm_cV C Ro to_Lw tl_Lw_48 rfl (ct_La_read h1) rfl rfl rfl rfl rfl rfl rfl hc hs ?_
  refine tm_w C fr0_ok to_Lw 0 rfl rfl rfl trivial ?_
  refine tm_cV C Ro to_Lw tl_Lw_51 rfl (ct_Mo_read h2) rfl rfl rfl rfl rfl rfl rfl hc hs ?_
  exact tm_b C to_Lw rfl rfl (fun _ => k) (fun h => absurd he h)
set_option maxRecDepth 100000 in
set_option maxHeartbeats 4000000 in
theorem la_fault {Γ : tm_G} {cells slots : Nat} {ex : List tm_Sh} {mI : tm_I} {mL : tm_L} {i : Int32} {a b c : Option Value} {r1 r2 : Int32 × tm_I × tm_L} (C : tm_C Γ "LabelScriptLaw" code 8) (Ro : tm_Ro Γ 14 542 601024 7293033) (hc : cells ≤ 601024) (hs : slots ≤ 7293033) (h1 : f_La_fault mI mL = some r1) (h2 : f_Mo_fault r1.2.1 r1.2.2 = some r2) (he : r1.1 = r2.1)
    (k : tm_T Γ 8 cells slots 439 (lv_L i a b c) [] (sh0 ++ ex) r2.2.1 r2.2.2 rr) : tm_T Γ 8 cells slots 210 (lv_L i a b c) [] (sh0 ++ ex) mI mL rr := by
  refine tm_w C fr0_ok to_Lw 0 rfl rfl rfl trivial ?_
  refine tm_cV C Ro to_Lw tl_Lw_52 rfl (ct_La_fault h1) rfl rfl rfl rfl rfl rfl rfl hc hs ?_
  refine tm_w C fr0_ok to_Lw 0 rfl rfl rfl trivial ?_
  refine tm_cV C Ro to_Lw tl_Lw_55 rfl (ct_Mo_fault h2) rfl rfl rfl rfl rfl rfl rfl hc hs ?_
  exact tm_b C to_Lw rfl rfl (fun _ => k) (fun h => absurd he h)
set_option maxRecDepth 100000 in
set_option maxHeartbeats 4000000 in
theorem la_place {Γ : tm_G} {cells slots : Nat} {ex : List tm_Sh} {mI : tm_I} {mL : tm_L} {i : Int32} {a b c : Option Value} {r1 r2 : Int32 × tm_I × tm_L} (C : tm_C Γ "LabelScriptLaw" code 8) (Ro : tm_Ro Γ 14 542 601024 7293033) (hc : cells ≤ 601024) (hs : slots ≤ 7293033) (h1 : f_La_place mI mL = some r1) (h2 : f_Mo_place r1.2.1 r1.2.2 = some r2) (he : r1.1 = r2.1)
    (k : tm_T Γ 8 cells slots 439 (lv_L i a b c) [] (sh0 ++ ex) r2.2.1 r2.2.2 rr) : tm_T Γ 8 cells slots 223 (lv_L i a b c) [] (sh0 ++ ex) mI mL rr := by
  refine tm_w C fr0_ok to_Lw 0 rfl rfl rfl trivial ?_
  refine tm_cV C Ro to_Lw tl_Lw_56 rfl (ct_La_place h1) rfl rfl rfl rfl rfl rfl rfl hc hs ?_
  refine tm_w C fr0_ok to_Lw 0 rfl rfl rfl trivial ?_
  refine tm_cV C Ro to_Lw tl_Lw_59 rfl (ct_Mo_place h2) rfl rfl rfl rfl rfl rfl rfl hc hs ?_
  exact tm_b C to_Lw rfl rfl (fun _ => k) (fun h => absurd he h)
