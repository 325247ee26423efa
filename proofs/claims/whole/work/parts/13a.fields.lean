/-! fields and callees by their numbers in the pools -/
def tf_Ro : tm_Fr := fun k => match k with
  | 15 => some (6, 0, .int)
  | 21 => some (6, 1, .int)
  | 24 => some (6, 2, (.array .int))
  | 28 => some (6, 3, (.array .long))
  | _ => none
theorem tg_Ro_15 : tm_FOK "LabelScript$Rows" 15 (6, 0, .int) := ⟨tn_RRo, tn_FRo, 4, rfl, by decide, rfl, tm_in 102 (by decide +kernel) rfl⟩
theorem tg_Ro_21 : tm_FOK "LabelScript$Rows" 21 (6, 1, .int) := ⟨tn_RRo, tn_FRo, 4, rfl, by decide, rfl, tm_in 103 (by decide +kernel) rfl⟩
theorem tg_Ro_24 : tm_FOK "LabelScript$Rows" 24 (6, 2, (.array .int)) := ⟨tn_RRo, tn_FRo, 4, rfl, by decide, rfl, tm_in 104 (by decide +kernel) rfl⟩
theorem tg_Ro_28 : tm_FOK "LabelScript$Rows" 28 (6, 3, (.array .long)) := ⟨tn_RRo, tn_FRo, 4, rfl, by decide, rfl, tm_in 105 (by decide +kernel) rfl⟩
theorem tfo_Ro : ∀ k q, tf_Ro k = some q → tm_FOK "LabelScript$Rows" k q := by
  intro k q h
  unfold tf_Ro at h
  split at h
  · cases h; exact tg_Ro_15
  · cases h; exact tg_Ro_21
  · cases h; exact tg_Ro_24
  · cases h; exact tg_Ro_28
  · cases h
def tf_Sc : tm_Fr := fun k => match k with
  | 14 => some (7, 0, (.object "LabelScript$Rows"))
  | 20 => some (7, 1, (.object "LabelScript$Rows"))
  | 23 => some (7, 2, (.array .int))
  | 27 => some (7, 3, (.array .int))
  | 30 => some (7, 4, .int)
  | 37 => some (7, 5, .int)
  | 34 => some (7, 6, .int)
  | 47 => some (7, 7, .int)
  | _ => none
theorem tg_Sc_14 : tm_FOK "LabelScript$Script" 14 (7, 0, (.object "LabelScript$Rows")) := ⟨tn_RSc, tn_FSc, 8, rfl, by decide, rfl, tm_in 117 (by decide +kernel) rfl⟩
theorem tg_Sc_20 : tm_FOK "LabelScript$Script" 20 (7, 1, (.object "LabelScript$Rows")) := ⟨tn_RSc, tn_FSc, 8, rfl, by decide, rfl, tm_in 119 (by decide +kernel) rfl⟩
theorem tg_Sc_23 : tm_FOK "LabelScript$Script" 23 (7, 2, (.array .int)) := ⟨tn_RSc, tn_FSc, 8, rfl, by decide, rfl, tm_in 120 (by decide +kernel) rfl⟩
theorem tg_Sc_27 : tm_FOK "LabelScript$Script" 27 (7, 3, (.array .int)) := ⟨tn_RSc, tn_FSc, 8, rfl, by decide, rfl, tm_in 121 (by decide +kernel) rfl⟩
theorem tg_Sc_30 : tm_FOK "LabelScript$Script" 30 (7, 4, .int) := ⟨tn_RSc, tn_FSc, 8, rfl, by decide, rfl, tm_in 122 (by decide +kernel) rfl⟩
theorem tg_Sc_37 : tm_FOK "LabelScript$Script" 37 (7, 5, .int) := ⟨tn_RSc, tn_FSc, 8, rfl, by decide, rfl, tm_in 123 (by decide +kernel) rfl⟩
theorem tg_Sc_34 : tm_FOK "LabelScript$Script" 34 (7, 6, .int) := ⟨tn_RSc, tn_FSc, 8, rfl, by decide, rfl, tm_in 124 (by decide +kernel) rfl⟩
theorem tg_Sc_47 : tm_FOK "LabelScript$Script" 47 (7, 7, .int) := ⟨tn_RSc, tn_FSc, 8, rfl, by decide, rfl, tm_in 125 (by decide +kernel) rfl⟩
theorem tfo_Sc : ∀ k q, tf_Sc k = some q → tm_FOK "LabelScript$Script" k q := by
  intro k q h
  unfold tf_Sc at h
  split at h
  · cases h; exact tg_Sc_14
  · cases h; exact tg_Sc_20
  · cases h; exact tg_Sc_23
  · cases h; exact tg_Sc_27
  · cases h; exact tg_Sc_30
  · cases h; exact tg_Sc_37
  · cases h; exact tg_Sc_34
  · cases h; exact tg_Sc_47
  · cases h
def tf_La : tm_Fr := fun k => match k with
  | 59 => some (7, 0, (.object "LabelScript$Rows"))
  | 166 => some (4, 0, (.object "LabelScript$Four"))
  | 109 => some (8, 3, .int)
  | 194 => some (1, 0, (.object "LabelScript$Rows"))
  | 101 => some (5, 0, (.object "LabelScript$Sheets"))
  | 190 => some (5, 1, (.object "LabelScript$Field"))
  | 149 => some (5, 2, (.object "LabelScript$Four"))
  | 97 => some (5, 5, .boolean)
  | 10 => some (0, 0, (.object "LabelScript$Script"))
  | 21 => some (0, 1, (.object "LabelScript$Rows"))
  | 25 => some (0, 2, (.object "LabelScript$Rows"))
  | 31 => some (0, 3, (.object "LabelScript$Numbers"))
  | 38 => some (0, 4, (.object "LabelScript$Press"))
  | 42 => some (0, 5, .int)
  | 46 => some (0, 6, .int)
  | 49 => some (0, 7, .int)
  | _ => none
theorem tg_La_59 : tm_FOK "LabelScript" 59 (7, 0, (.object "LabelScript$Rows")) := ⟨tn_RSc, tn_FSc, 8, rfl, by decide, rfl, tm_in 118 (by decide +kernel) rfl⟩
theorem tg_La_166 : tm_FOK "LabelScript" 166 (4, 0, (.object "LabelScript$Four")) := ⟨tn_RNu, tn_FNu, 1, rfl, by decide, rfl, tm_in 162 (by decide +kernel) rfl⟩
theorem tg_La_109 : tm_FOK "LabelScript" 109 (8, 3, .int) := ⟨tn_RSh, tn_FSh, 9, rfl, by decide, rfl, tm_in 184 (by decide +kernel) rfl⟩
theorem tg_La_194 : tm_FOK "LabelScript" 194 (1, 0, (.object "LabelScript$Rows")) := ⟨tn_RFi, tn_FFi, 8, rfl, by decide, rfl, tm_in 222 (by decide +kernel) rfl⟩
theorem tg_La_101 : tm_FOK "LabelScript" 101 (5, 0, (.object "LabelScript$Sheets")) := ⟨tn_RPr, tn_FPr, 11, rfl, by decide, rfl, tm_in 272 (by decide +kernel) rfl⟩
theorem tg_La_190 : tm_FOK "LabelScript" 190 (5, 1, (.object "LabelScript$Field")) := ⟨tn_RPr, tn_FPr, 11, rfl, by decide, rfl, tm_in 274 (by decide +kernel) rfl⟩
theorem tg_La_149 : tm_FOK "LabelScript" 149 (5, 2, (.object "LabelScript$Four")) := ⟨tn_RPr, tn_FPr, 11, rfl, by decide, rfl, tm_in 276 (by decide +kernel) rfl⟩
theorem tg_La_97 : tm_FOK "LabelScript" 97 (5, 5, .boolean) := ⟨tn_RPr, tn_FPr, 11, rfl, by decide, rfl, tm_in 280 (by decide +kernel) rfl⟩
theorem tg_La_10 : tm_FOK "LabelScript" 10 (0, 0, (.object "LabelScript$Script")) := ⟨tn_RLa, tn_FLa, 8, rfl, by decide, rfl, tm_in 309 (by decide +kernel) rfl⟩
theorem tg_La_21 : tm_FOK "LabelScript" 21 (0, 1, (.object "LabelScript$Rows")) := ⟨tn_RLa, tn_FLa, 8, rfl, by decide, rfl, tm_in 310 (by decide +kernel) rfl⟩
theorem tg_La_25 : tm_FOK "LabelScript" 25 (0, 2, (.object "LabelScript$Rows")) := ⟨tn_RLa, tn_FLa, 8, rfl, by decide, rfl, tm_in 311 (by decide +kernel) rfl⟩
theorem tg_La_31 : tm_FOK "LabelScript" 31 (0, 3, (.object "LabelScript$Numbers")) := ⟨tn_RLa, tn_FLa, 8, rfl, by decide, rfl, tm_in 312 (by decide +kernel) rfl⟩
theorem tg_La_38 : tm_FOK "LabelScript" 38 (0, 4, (.object "LabelScript$Press")) := ⟨tn_RLa, tn_FLa, 8, rfl, by decide, rfl, tm_in 313 (by decide +kernel) rfl⟩
theorem tg_La_42 : tm_FOK "LabelScript" 42 (0, 5, .int) := ⟨tn_RLa, tn_FLa, 8, rfl, by decide, rfl, tm_in 314 (by decide +kernel) rfl⟩
theorem tg_La_46 : tm_FOK "LabelScript" 46 (0, 6, .int) := ⟨tn_RLa, tn_FLa, 8, rfl, by decide, rfl, tm_in 315 (by decide +kernel) rfl⟩
theorem tg_La_49 : tm_FOK "LabelScript" 49 (0, 7, .int) := ⟨tn_RLa, tn_FLa, 8, rfl, by decide, rfl, tm_in 316 (by decide +kernel) rfl⟩
theorem tfo_La : ∀ k q, tf_La k = some q → tm_FOK "LabelScript" k q := by
  intro k q h
  unfold tf_La at h
  split at h
  · cases h; exact tg_La_59
  · cases h; exact tg_La_166
  · cases h; exact tg_La_109
  · cases h; exact tg_La_194
  · cases h; exact tg_La_101
  · cases h; exact tg_La_190
  · cases h; exact tg_La_149
  · cases h; exact tg_La_97
  · cases h; exact tg_La_10
  · cases h; exact tg_La_21
  · cases h; exact tg_La_25
  · cases h; exact tg_La_31
  · cases h; exact tg_La_38
  · cases h; exact tg_La_42
  · cases h; exact tg_La_46
  · cases h; exact tg_La_49
  · cases h
def tf_Fo : tm_Fr := fun k => match k with
  | 7 => some (2, 0, (.array .int))
  | _ => none
theorem tg_Fo_7 : tm_FOK "LabelScript$Four" 7 (2, 0, (.array .int)) := ⟨tn_RFo, tn_FFo, 1, rfl, by decide, rfl, tm_in 157 (by decide +kernel) rfl⟩
theorem tfo_Fo : ∀ k q, tf_Fo k = some q → tm_FOK "LabelScript$Four" k q := by
  intro k q h
  unfold tf_Fo at h
  split at h
  · cases h; exact tg_Fo_7
  · cases h
def tf_Nu : tm_Fr := fun k => match k with
  | 12 => some (4, 0, (.object "LabelScript$Four"))
  | _ => none
theorem tg_Nu_12 : tm_FOK "LabelScript$Numbers" 12 (4, 0, (.object "LabelScript$Four")) := ⟨tn_RNu, tn_FNu, 1, rfl, by decide, rfl, tm_in 161 (by decide +kernel) rfl⟩
theorem tfo_Nu : ∀ k q, tf_Nu k = some q → tm_FOK "LabelScript$Numbers" k q := by
  intro k q h
  unfold tf_Nu at h
  split at h
  · cases h; exact tg_Nu_12
  · cases h
def tf_Sh : tm_Fr := fun k => match k with
  | 11 => some (8, 0, (.array .int))
  | 15 => some (8, 1, (.array .int))
  | 23 => some (8, 2, (.object "LabelScript$Rows"))
  | 27 => some (8, 3, .int)
  | 31 => some (8, 4, .int)
  | 34 => some (8, 5, .int)
  | 37 => some (8, 6, .int)
  | 51 => some (8, 7, .int)
  | 58 => some (8, 8, .int)
  | 40 => some (1, 0, (.object "LabelScript$Rows"))
  | 66 => some (1, 5, .boolean)
  | 70 => some (1, 7, .int)
  | _ => none
theorem tg_Sh_11 : tm_FOK "LabelScript$Sheets" 11 (8, 0, (.array .int)) := ⟨tn_RSh, tn_FSh, 9, rfl, by decide, rfl, tm_in 180 (by decide +kernel) rfl⟩
theorem tg_Sh_15 : tm_FOK "LabelScript$Sheets" 15 (8, 1, (.array .int)) := ⟨tn_RSh, tn_FSh, 9, rfl, by decide, rfl, tm_in 181 (by decide +kernel) rfl⟩
theorem tg_Sh_23 : tm_FOK "LabelScript$Sheets" 23 (8, 2, (.object "LabelScript$Rows")) := ⟨tn_RSh, tn_FSh, 9, rfl, by decide, rfl, tm_in 182 (by decide +kernel) rfl⟩
theorem tg_Sh_27 : tm_FOK "LabelScript$Sheets" 27 (8, 3, .int) := ⟨tn_RSh, tn_FSh, 9, rfl, by decide, rfl, tm_in 183 (by decide +kernel) rfl⟩
theorem tg_Sh_31 : tm_FOK "LabelScript$Sheets" 31 (8, 4, .int) := ⟨tn_RSh, tn_FSh, 9, rfl, by decide, rfl, tm_in 185 (by decide +kernel) rfl⟩
theorem tg_Sh_34 : tm_FOK "LabelScript$Sheets" 34 (8, 5, .int) := ⟨tn_RSh, tn_FSh, 9, rfl, by decide, rfl, tm_in 186 (by decide +kernel) rfl⟩
theorem tg_Sh_37 : tm_FOK "LabelScript$Sheets" 37 (8, 6, .int) := ⟨tn_RSh, tn_FSh, 9, rfl, by decide, rfl, tm_in 187 (by decide +kernel) rfl⟩
theorem tg_Sh_51 : tm_FOK "LabelScript$Sheets" 51 (8, 7, .int) := ⟨tn_RSh, tn_FSh, 9, rfl, by decide, rfl, tm_in 188 (by decide +kernel) rfl⟩
theorem tg_Sh_58 : tm_FOK "LabelScript$Sheets" 58 (8, 8, .int) := ⟨tn_RSh, tn_FSh, 9, rfl, by decide, rfl, tm_in 189 (by decide +kernel) rfl⟩
theorem tg_Sh_40 : tm_FOK "LabelScript$Sheets" 40 (1, 0, (.object "LabelScript$Rows")) := ⟨tn_RFi, tn_FFi, 8, rfl, by decide, rfl, tm_in 221 (by decide +kernel) rfl⟩
theorem tg_Sh_66 : tm_FOK "LabelScript$Sheets" 66 (1, 5, .boolean) := ⟨tn_RFi, tn_FFi, 8, rfl, by decide, rfl, tm_in 233 (by decide +kernel) rfl⟩
theorem tg_Sh_70 : tm_FOK "LabelScript$Sheets" 70 (1, 7, .int) := ⟨tn_RFi, tn_FFi, 8, rfl, by decide, rfl, tm_in 238 (by decide +kernel) rfl⟩
theorem tfo_Sh : ∀ k q, tf_Sh k = some q → tm_FOK "LabelScript$Sheets" k q := by
  intro k q h
  unfold tf_Sh at h
  split at h
  · cases h; exact tg_Sh_11
  · cases h; exact tg_Sh_15
  · cases h; exact tg_Sh_23
  · cases h; exact tg_Sh_27
  · cases h; exact tg_Sh_31
  · cases h; exact tg_Sh_34
  · cases h; exact tg_Sh_37
  · cases h; exact tg_Sh_51
  · cases h; exact tg_Sh_58
  · cases h; exact tg_Sh_40
  · cases h; exact tg_Sh_66
  · cases h; exact tg_Sh_70
  · cases h
def tf_Fi : tm_Fr := fun k => match k with
  | 14 => some (1, 0, (.object "LabelScript$Rows"))
  | 23 => some (1, 1, (.object "LabelScript$Four"))
  | 27 => some (1, 2, .int)
  | 35 => some (1, 3, .int)
  | 38 => some (1, 4, .int)
  | 41 => some (1, 5, .boolean)
  | 45 => some (1, 6, .boolean)
  | 48 => some (1, 7, .int)
  | _ => none
theorem tg_Fi_14 : tm_FOK "LabelScript$Field" 14 (1, 0, (.object "LabelScript$Rows")) := ⟨tn_RFi, tn_FFi, 8, rfl, by decide, rfl, tm_in 219 (by decide +kernel) rfl⟩
theorem tg_Fi_23 : tm_FOK "LabelScript$Field" 23 (1, 1, (.object "LabelScript$Four")) := ⟨tn_RFi, tn_FFi, 8, rfl, by decide, rfl, tm_in 223 (by decide +kernel) rfl⟩
theorem tg_Fi_27 : tm_FOK "LabelScript$Field" 27 (1, 2, .int) := ⟨tn_RFi, tn_FFi, 8, rfl, by decide, rfl, tm_in 225 (by decide +kernel) rfl⟩
theorem tg_Fi_35 : tm_FOK "LabelScript$Field" 35 (1, 3, .int) := ⟨tn_RFi, tn_FFi, 8, rfl, by decide, rfl, tm_in 227 (by decide +kernel) rfl⟩
theorem tg_Fi_38 : tm_FOK "LabelScript$Field" 38 (1, 4, .int) := ⟨tn_RFi, tn_FFi, 8, rfl, by decide, rfl, tm_in 229 (by decide +kernel) rfl⟩
theorem tg_Fi_41 : tm_FOK "LabelScript$Field" 41 (1, 5, .boolean) := ⟨tn_RFi, tn_FFi, 8, rfl, by decide, rfl, tm_in 231 (by decide +kernel) rfl⟩
theorem tg_Fi_45 : tm_FOK "LabelScript$Field" 45 (1, 6, .boolean) := ⟨tn_RFi, tn_FFi, 8, rfl, by decide, rfl, tm_in 234 (by decide +kernel) rfl⟩
theorem tg_Fi_48 : tm_FOK "LabelScript$Field" 48 (1, 7, .int) := ⟨tn_RFi, tn_FFi, 8, rfl, by decide, rfl, tm_in 236 (by decide +kernel) rfl⟩
theorem tfo_Fi : ∀ k q, tf_Fi k = some q → tm_FOK "LabelScript$Field" k q := by
  intro k q h
  unfold tf_Fi at h
  split at h
  · cases h; exact tg_Fi_14
  · cases h; exact tg_Fi_23
  · cases h; exact tg_Fi_27
  · cases h; exact tg_Fi_35
  · cases h; exact tg_Fi_38
  · cases h; exact tg_Fi_41
  · cases h; exact tg_Fi_45
  · cases h; exact tg_Fi_48
  · cases h
def tf_Pr : tm_Fr := fun k => match k with
  | 120 => some (1, 0, (.object "LabelScript$Rows"))
  | 102 => some (1, 1, (.object "LabelScript$Four"))
  | 99 => some (1, 2, .int)
  | 84 => some (1, 3, .int)
  | 87 => some (1, 4, .int)
  | 90 => some (1, 5, .boolean)
  | 93 => some (1, 6, .boolean)
  | 96 => some (1, 7, .int)
  | 12 => some (5, 0, (.object "LabelScript$Sheets"))
  | 21 => some (5, 1, (.object "LabelScript$Field"))
  | 28 => some (5, 2, (.object "LabelScript$Four"))
  | 32 => some (5, 3, (.object "LabelScript$Four"))
  | 38 => some (5, 4, (.object "LabelScript$Lines"))
  | 45 => some (5, 5, .boolean)
  | 53 => some (5, 6, .int)
  | 57 => some (5, 7, .int)
  | 60 => some (5, 8, .int)
  | 63 => some (5, 9, .int)
  | 66 => some (5, 10, .int)
  | _ => none
theorem tg_Pr_120 : tm_FOK "LabelScript$Press" 120 (1, 0, (.object "LabelScript$Rows")) := ⟨tn_RFi, tn_FFi, 8, rfl, by decide, rfl, tm_in 220 (by decide +kernel) rfl⟩
theorem tg_Pr_102 : tm_FOK "LabelScript$Press" 102 (1, 1, (.object "LabelScript$Four")) := ⟨tn_RFi, tn_FFi, 8, rfl, by decide, rfl, tm_in 224 (by decide +kernel) rfl⟩
theorem tg_Pr_99 : tm_FOK "LabelScript$Press" 99 (1, 2, .int) := ⟨tn_RFi, tn_FFi, 8, rfl, by decide, rfl, tm_in 226 (by decide +kernel) rfl⟩
theorem tg_Pr_84 : tm_FOK "LabelScript$Press" 84 (1, 3, .int) := ⟨tn_RFi, tn_FFi, 8, rfl, by decide, rfl, tm_in 228 (by decide +kernel) rfl⟩
theorem tg_Pr_87 : tm_FOK "LabelScript$Press" 87 (1, 4, .int) := ⟨tn_RFi, tn_FFi, 8, rfl, by decide, rfl, tm_in 230 (by decide +kernel) rfl⟩
theorem tg_Pr_90 : tm_FOK "LabelScript$Press" 90 (1, 5, .boolean) := ⟨tn_RFi, tn_FFi, 8, rfl, by decide, rfl, tm_in 232 (by decide +kernel) rfl⟩
theorem tg_Pr_93 : tm_FOK "LabelScript$Press" 93 (1, 6, .boolean) := ⟨tn_RFi, tn_FFi, 8, rfl, by decide, rfl, tm_in 235 (by decide +kernel) rfl⟩
theorem tg_Pr_96 : tm_FOK "LabelScript$Press" 96 (1, 7, .int) := ⟨tn_RFi, tn_FFi, 8, rfl, by decide, rfl, tm_in 237 (by decide +kernel) rfl⟩
theorem tg_Pr_12 : tm_FOK "LabelScript$Press" 12 (5, 0, (.object "LabelScript$Sheets")) := ⟨tn_RPr, tn_FPr, 11, rfl, by decide, rfl, tm_in 271 (by decide +kernel) rfl⟩
theorem tg_Pr_21 : tm_FOK "LabelScript$Press" 21 (5, 1, (.object "LabelScript$Field")) := ⟨tn_RPr, tn_FPr, 11, rfl, by decide, rfl, tm_in 273 (by decide +kernel) rfl⟩
theorem tg_Pr_28 : tm_FOK "LabelScript$Press" 28 (5, 2, (.object "LabelScript$Four")) := ⟨tn_RPr, tn_FPr, 11, rfl, by decide, rfl, tm_in 275 (by decide +kernel) rfl⟩
theorem tg_Pr_32 : tm_FOK "LabelScript$Press" 32 (5, 3, (.object "LabelScript$Four")) := ⟨tn_RPr, tn_FPr, 11, rfl, by decide, rfl, tm_in 277 (by decide +kernel) rfl⟩
theorem tg_Pr_38 : tm_FOK "LabelScript$Press" 38 (5, 4, (.object "LabelScript$Lines")) := ⟨tn_RPr, tn_FPr, 11, rfl, by decide, rfl, tm_in 278 (by decide +kernel) rfl⟩
theorem tg_Pr_45 : tm_FOK "LabelScript$Press" 45 (5, 5, .boolean) := ⟨tn_RPr, tn_FPr, 11, rfl, by decide, rfl, tm_in 279 (by decide +kernel) rfl⟩
theorem tg_Pr_53 : tm_FOK "LabelScript$Press" 53 (5, 6, .int) := ⟨tn_RPr, tn_FPr, 11, rfl, by decide, rfl, tm_in 281 (by decide +kernel) rfl⟩
theorem tg_Pr_57 : tm_FOK "LabelScript$Press" 57 (5, 7, .int) := ⟨tn_RPr, tn_FPr, 11, rfl, by decide, rfl, tm_in 282 (by decide +kernel) rfl⟩
theorem tg_Pr_60 : tm_FOK "LabelScript$Press" 60 (5, 8, .int) := ⟨tn_RPr, tn_FPr, 11, rfl, by decide, rfl, tm_in 283 (by decide +kernel) rfl⟩
theorem tg_Pr_63 : tm_FOK "LabelScript$Press" 63 (5, 9, .int) := ⟨tn_RPr, tn_FPr, 11, rfl, by decide, rfl, tm_in 284 (by decide +kernel) rfl⟩
theorem tg_Pr_66 : tm_FOK "LabelScript$Press" 66 (5, 10, .int) := ⟨tn_RPr, tn_FPr, 11, rfl, by decide, rfl, tm_in 285 (by decide +kernel) rfl⟩
theorem tfo_Pr : ∀ k q, tf_Pr k = some q → tm_FOK "LabelScript$Press" k q := by
  intro k q h
  unfold tf_Pr at h
  split at h
  · cases h; exact tg_Pr_120
  · cases h; exact tg_Pr_102
  · cases h; exact tg_Pr_99
  · cases h; exact tg_Pr_84
  · cases h; exact tg_Pr_87
  · cases h; exact tg_Pr_90
  · cases h; exact tg_Pr_93
  · cases h; exact tg_Pr_96
  · cases h; exact tg_Pr_12
  · cases h; exact tg_Pr_21
  · cases h; exact tg_Pr_28
  · cases h; exact tg_Pr_32
  · cases h; exact tg_Pr_38
  · cases h; exact tg_Pr_45
  · cases h; exact tg_Pr_53
  · cases h; exact tg_Pr_57
  · cases h; exact tg_Pr_60
  · cases h; exact tg_Pr_63
  · cases h; exact tg_Pr_66
  · cases h
def tf_Li : tm_Fr := fun k => match k with
  | 9 => some (3, 0, (.array .int))
  | 15 => some (3, 1, (.array .int))
  | _ => none
theorem tg_Li_9 : tm_FOK "LabelScript$Lines" 9 (3, 0, (.array .int)) := ⟨tn_RLi, tn_FLi, 2, rfl, by decide, rfl, tm_in 264 (by decide +kernel) rfl⟩
theorem tg_Li_15 : tm_FOK "LabelScript$Lines" 15 (3, 1, (.array .int)) := ⟨tn_RLi, tn_FLi, 2, rfl, by decide, rfl, tm_in 265 (by decide +kernel) rfl⟩
theorem tfo_Li : ∀ k q, tf_Li k = some q → tm_FOK "LabelScript$Lines" k q := by
  intro k q h
  unfold tf_Li at h
  split at h
  · cases h; exact tg_Li_9
  · cases h; exact tg_Li_15
  · cases h
def tf_Mo : tm_Fr := fun k => match k with
  | 65 => some (9, 0, .int)
  | 7 => some (9, 1, (.array .int))
  | 68 => some (9, 2, .int)
  | 13 => some (9, 3, (.array .int))
  | 16 => some (9, 4, (.array .int))
  | 19 => some (9, 5, (.array .int))
  | 22 => some (9, 6, (.array .int))
  | 25 => some (9, 7, (.array .int))
  | 73 => some (9, 8, .int)
  | 183 => some (9, 9, .int)
  | 216 => some (9, 10, .int)
  | 210 => some (9, 11, .int)
  | 213 => some (9, 12, .int)
  | 249 => some (9, 13, .int)
  | 28 => some (9, 14, .int)
  | 32 => some (9, 15, (.array .int))
  | 35 => some (9, 16, (.array .int))
  | 101 => some (9, 17, .int)
  | 180 => some (9, 18, .boolean)
  | 219 => some (9, 19, .int)
  | 222 => some (9, 20, .int)
  | 207 => some (9, 21, .int)
  | 107 => some (9, 22, .int)
  | 110 => some (9, 23, .int)
  | 38 => some (9, 24, (.array .int))
  | 113 => some (9, 25, .int)
  | 123 => some (9, 26, .int)
  | 41 => some (9, 27, (.array .int))
  | 44 => some (9, 28, (.array .int))
  | 47 => some (9, 29, (.array .int))
  | 50 => some (9, 30, (.array .int))
  | 53 => some (9, 31, (.array .int))
  | 132 => some (9, 32, .boolean)
  | 136 => some (9, 33, .boolean)
  | 126 => some (9, 34, .int)
  | 204 => some (9, 35, .int)
  | 56 => some (9, 36, (.array .int))
  | 155 => some (9, 37, .int)
  | 59 => some (9, 38, (.array .int))
  | 62 => some (9, 39, (.array .int))
  | _ => none
theorem tg_Mo_65 : tm_FOK "LabelScriptModel" 65 (9, 0, .int) := ⟨tn_RMo, tn_FMo, 40, rfl, by decide, rfl, tm_in 937 (by decide +kernel) rfl⟩
theorem tg_Mo_7 : tm_FOK "LabelScriptModel" 7 (9, 1, (.array .int)) := ⟨tn_RMo, tn_FMo, 40, rfl, by decide, rfl, tm_in 938 (by decide +kernel) rfl⟩
theorem tg_Mo_68 : tm_FOK "LabelScriptModel" 68 (9, 2, .int) := ⟨tn_RMo, tn_FMo, 40, rfl, by decide, rfl, tm_in 939 (by decide +kernel) rfl⟩
theorem tg_Mo_13 : tm_FOK "LabelScriptModel" 13 (9, 3, (.array .int)) := ⟨tn_RMo, tn_FMo, 40, rfl, by decide, rfl, tm_in 940 (by decide +kernel) rfl⟩
theorem tg_Mo_16 : tm_FOK "LabelScriptModel" 16 (9, 4, (.array .int)) := ⟨tn_RMo, tn_FMo, 40, rfl, by decide, rfl, tm_in 941 (by decide +kernel) rfl⟩
theorem tg_Mo_19 : tm_FOK "LabelScriptModel" 19 (9, 5, (.array .int)) := ⟨tn_RMo, tn_FMo, 40, rfl, by decide, rfl, tm_in 942 (by decide +kernel) rfl⟩
theorem tg_Mo_22 : tm_FOK "LabelScriptModel" 22 (9, 6, (.array .int)) := ⟨tn_RMo, tn_FMo, 40, rfl, by decide, rfl, tm_in 943 (by decide +kernel) rfl⟩
theorem tg_Mo_25 : tm_FOK "LabelScriptModel" 25 (9, 7, (.array .int)) := ⟨tn_RMo, tn_FMo, 40, rfl, by decide, rfl, tm_in 944 (by decide +kernel) rfl⟩
theorem tg_Mo_73 : tm_FOK "LabelScriptModel" 73 (9, 8, .int) := ⟨tn_RMo, tn_FMo, 40, rfl, by decide, rfl, tm_in 945 (by decide +kernel) rfl⟩
theorem tg_Mo_183 : tm_FOK "LabelScriptModel" 183 (9, 9, .int) := ⟨tn_RMo, tn_FMo, 40, rfl, by decide, rfl, tm_in 946 (by decide +kernel) rfl⟩
theorem tg_Mo_216 : tm_FOK "LabelScriptModel" 216 (9, 10, .int) := ⟨tn_RMo, tn_FMo, 40, rfl, by decide, rfl, tm_in 947 (by decide +kernel) rfl⟩
theorem tg_Mo_210 : tm_FOK "LabelScriptModel" 210 (9, 11, .int) := ⟨tn_RMo, tn_FMo, 40, rfl, by decide, rfl, tm_in 948 (by decide +kernel) rfl⟩
theorem tg_Mo_213 : tm_FOK "LabelScriptModel" 213 (9, 12, .int) := ⟨tn_RMo, tn_FMo, 40, rfl, by decide, rfl, tm_in 949 (by decide +kernel) rfl⟩
theorem tg_Mo_249 : tm_FOK "LabelScriptModel" 249 (9, 13, .int) := ⟨tn_RMo, tn_FMo, 40, rfl, by decide, rfl, tm_in 950 (by decide +kernel) rfl⟩
theorem tg_Mo_28 : tm_FOK "LabelScriptModel" 28 (9, 14, .int) := ⟨tn_RMo, tn_FMo, 40, rfl, by decide, rfl, tm_in 951 (by decide +kernel) rfl⟩
theorem tg_Mo_32 : tm_FOK "LabelScriptModel" 32 (9, 15, (.array .int)) := ⟨tn_RMo, tn_FMo, 40, rfl, by decide, rfl, tm_in 952 (by decide +kernel) rfl⟩
theorem tg_Mo_35 : tm_FOK "LabelScriptModel" 35 (9, 16, (.array .int)) := ⟨tn_RMo, tn_FMo, 40, rfl, by decide, rfl, tm_in 953 (by decide +kernel) rfl⟩
theorem tg_Mo_101 : tm_FOK "LabelScriptModel" 101 (9, 17, .int) := ⟨tn_RMo, tn_FMo, 40, rfl, by decide, rfl, tm_in 954 (by decide +kernel) rfl⟩
theorem tg_Mo_180 : tm_FOK "LabelScriptModel" 180 (9, 18, .boolean) := ⟨tn_RMo, tn_FMo, 40, rfl, by decide, rfl, tm_in 955 (by decide +kernel) rfl⟩
theorem tg_Mo_219 : tm_FOK "LabelScriptModel" 219 (9, 19, .int) := ⟨tn_RMo, tn_FMo, 40, rfl, by decide, rfl, tm_in 956 (by decide +kernel) rfl⟩
theorem tg_Mo_222 : tm_FOK "LabelScriptModel" 222 (9, 20, .int) := ⟨tn_RMo, tn_FMo, 40, rfl, by decide, rfl, tm_in 957 (by decide +kernel) rfl⟩
theorem tg_Mo_207 : tm_FOK "LabelScriptModel" 207 (9, 21, .int) := ⟨tn_RMo, tn_FMo, 40, rfl, by decide, rfl, tm_in 958 (by decide +kernel) rfl⟩
theorem tg_Mo_107 : tm_FOK "LabelScriptModel" 107 (9, 22, .int) := ⟨tn_RMo, tn_FMo, 40, rfl, by decide, rfl, tm_in 959 (by decide +kernel) rfl⟩
theorem tg_Mo_110 : tm_FOK "LabelScriptModel" 110 (9, 23, .int) := ⟨tn_RMo, tn_FMo, 40, rfl, by decide, rfl, tm_in 960 (by decide +kernel) rfl⟩
theorem tg_Mo_38 : tm_FOK "LabelScriptModel" 38 (9, 24, (.array .int)) := ⟨tn_RMo, tn_FMo, 40, rfl, by decide, rfl, tm_in 961 (by decide +kernel) rfl⟩
theorem tg_Mo_113 : tm_FOK "LabelScriptModel" 113 (9, 25, .int) := ⟨tn_RMo, tn_FMo, 40, rfl, by decide, rfl, tm_in 962 (by decide +kernel) rfl⟩
theorem tg_Mo_123 : tm_FOK "LabelScriptModel" 123 (9, 26, .int) := ⟨tn_RMo, tn_FMo, 40, rfl, by decide, rfl, tm_in 963 (by decide +kernel) rfl⟩
theorem tg_Mo_41 : tm_FOK "LabelScriptModel" 41 (9, 27, (.array .int)) := ⟨tn_RMo, tn_FMo, 40, rfl, by decide, rfl, tm_in 964 (by decide +kernel) rfl⟩
theorem tg_Mo_44 : tm_FOK "LabelScriptModel" 44 (9, 28, (.array .int)) := ⟨tn_RMo, tn_FMo, 40, rfl, by decide, rfl, tm_in 965 (by decide +kernel) rfl⟩
theorem tg_Mo_47 : tm_FOK "LabelScriptModel" 47 (9, 29, (.array .int)) := ⟨tn_RMo, tn_FMo, 40, rfl, by decide, rfl, tm_in 966 (by decide +kernel) rfl⟩
theorem tg_Mo_50 : tm_FOK "LabelScriptModel" 50 (9, 30, (.array .int)) := ⟨tn_RMo, tn_FMo, 40, rfl, by decide, rfl, tm_in 967 (by decide +kernel) rfl⟩
theorem tg_Mo_53 : tm_FOK "LabelScriptModel" 53 (9, 31, (.array .int)) := ⟨tn_RMo, tn_FMo, 40, rfl, by decide, rfl, tm_in 968 (by decide +kernel) rfl⟩
theorem tg_Mo_132 : tm_FOK "LabelScriptModel" 132 (9, 32, .boolean) := ⟨tn_RMo, tn_FMo, 40, rfl, by decide, rfl, tm_in 969 (by decide +kernel) rfl⟩
theorem tg_Mo_136 : tm_FOK "LabelScriptModel" 136 (9, 33, .boolean) := ⟨tn_RMo, tn_FMo, 40, rfl, by decide, rfl, tm_in 970 (by decide +kernel) rfl⟩
theorem tg_Mo_126 : tm_FOK "LabelScriptModel" 126 (9, 34, .int) := ⟨tn_RMo, tn_FMo, 40, rfl, by decide, rfl, tm_in 971 (by decide +kernel) rfl⟩
theorem tg_Mo_204 : tm_FOK "LabelScriptModel" 204 (9, 35, .int) := ⟨tn_RMo, tn_FMo, 40, rfl, by decide, rfl, tm_in 972 (by decide +kernel) rfl⟩
theorem tg_Mo_56 : tm_FOK "LabelScriptModel" 56 (9, 36, (.array .int)) := ⟨tn_RMo, tn_FMo, 40, rfl, by decide, rfl, tm_in 973 (by decide +kernel) rfl⟩
theorem tg_Mo_155 : tm_FOK "LabelScriptModel" 155 (9, 37, .int) := ⟨tn_RMo, tn_FMo, 40, rfl, by decide, rfl, tm_in 974 (by decide +kernel) rfl⟩
theorem tg_Mo_59 : tm_FOK "LabelScriptModel" 59 (9, 38, (.array .int)) := ⟨tn_RMo, tn_FMo, 40, rfl, by decide, rfl, tm_in 975 (by decide +kernel) rfl⟩
theorem tg_Mo_62 : tm_FOK "LabelScriptModel" 62 (9, 39, (.array .int)) := ⟨tn_RMo, tn_FMo, 40, rfl, by decide, rfl, tm_in 976 (by decide +kernel) rfl⟩
theorem tfo_Mo : ∀ k q, tf_Mo k = some q → tm_FOK "LabelScriptModel" k q := by
  intro k q h
  unfold tf_Mo at h
  split at h
  · cases h; exact tg_Mo_65
  · cases h; exact tg_Mo_7
  · cases h; exact tg_Mo_68
  · cases h; exact tg_Mo_13
  · cases h; exact tg_Mo_16
  · cases h; exact tg_Mo_19
  · cases h; exact tg_Mo_22
  · cases h; exact tg_Mo_25
  · cases h; exact tg_Mo_73
  · cases h; exact tg_Mo_183
  · cases h; exact tg_Mo_216
  · cases h; exact tg_Mo_210
  · cases h; exact tg_Mo_213
  · cases h; exact tg_Mo_249
  · cases h; exact tg_Mo_28
  · cases h; exact tg_Mo_32
  · cases h; exact tg_Mo_35
  · cases h; exact tg_Mo_101
  · cases h; exact tg_Mo_180
  · cases h; exact tg_Mo_219
  · cases h; exact tg_Mo_222
  · cases h; exact tg_Mo_207
  · cases h; exact tg_Mo_107
  · cases h; exact tg_Mo_110
  · cases h; exact tg_Mo_38
  · cases h; exact tg_Mo_113
  · cases h; exact tg_Mo_123
  · cases h; exact tg_Mo_41
  · cases h; exact tg_Mo_44
  · cases h; exact tg_Mo_47
  · cases h; exact tg_Mo_50
  · cases h; exact tg_Mo_53
  · cases h; exact tg_Mo_132
  · cases h; exact tg_Mo_136
  · cases h; exact tg_Mo_126
  · cases h; exact tg_Mo_204
  · cases h; exact tg_Mo_56
  · cases h; exact tg_Mo_155
  · cases h; exact tg_Mo_59
  · cases h; exact tg_Mo_62
  · cases h
