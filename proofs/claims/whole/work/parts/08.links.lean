/-! Words of fields, calls, Math, throws. -/
theorem lays_S : ∀ w ∈ u_ws "PaneScreen" F_S 8, w ∈ TW := by
  intro w h
  obtain ⟨k, hk, rfl⟩ := List.mem_map.1 h
  have hk := List.mem_range.1 hk
  match k, hk with
  | 0, _ => exact w_0
  | 1, _ => exact w_1
  | 2, _ => exact w_2
  | 3, _ => exact w_3
  | 4, _ => exact w_4
  | 5, _ => exact w_5
  | 6, _ => exact w_6
  | 7, _ => exact w_7
  | n + 8, h => exact absurd h (by omega)
theorem lays_D : ∀ w ∈ u_ws "PaneScreen$Damage" F_D 5, w ∈ TW := by
  intro w h
  obtain ⟨k, hk, rfl⟩ := List.mem_map.1 h
  have hk := List.mem_range.1 hk
  match k, hk with
  | 0, _ => exact w_8
  | 1, _ => exact w_9
  | 2, _ => exact w_10
  | 3, _ => exact w_11
  | 4, _ => exact w_12
  | n + 5, h => exact absurd h (by omega)
theorem lays_E : ∀ w ∈ u_ws "PaneScreen$EventLine" F_E 10, w ∈ TW := by
  intro w h
  obtain ⟨k, hk, rfl⟩ := List.mem_map.1 h
  have hk := List.mem_range.1 hk
  match k, hk with
  | 0, _ => exact w_13
  | 1, _ => exact w_14
  | 2, _ => exact w_15
  | 3, _ => exact w_16
  | 4, _ => exact w_17
  | 5, _ => exact w_18
  | 6, _ => exact w_19
  | 7, _ => exact w_20
  | 8, _ => exact w_21
  | 9, _ => exact w_22
  | n + 10, h => exact absurd h (by omega)
theorem lays_O : ∀ w ∈ u_ws "PaneScreen$Order" F_O 2, w ∈ TW := by
  intro w h
  obtain ⟨k, hk, rfl⟩ := List.mem_map.1 h
  have hk := List.mem_range.1 hk
  match k, hk with
  | 0, _ => exact w_23
  | 1, _ => exact w_24
  | n + 2, h => exact absurd h (by omega)
theorem lays_P : ∀ w ∈ u_ws "PaneScreen$Pane" F_P 8, w ∈ TW := by
  intro w h
  obtain ⟨k, hk, rfl⟩ := List.mem_map.1 h
  have hk := List.mem_range.1 hk
  match k, hk with
  | 0, _ => exact w_25
  | 1, _ => exact w_26
  | 2, _ => exact w_27
  | 3, _ => exact w_28
  | 4, _ => exact w_29
  | 5, _ => exact w_30
  | 6, _ => exact w_31
  | 7, _ => exact w_32
  | n + 8, h => exact absurd h (by omega)
theorem lays_T : ∀ w ∈ u_ws "PaneScreen$Store" F_T 3, w ∈ TW := by
  intro w h
  obtain ⟨k, hk, rfl⟩ := List.mem_map.1 h
  have hk := List.mem_range.1 hk
  match k, hk with
  | 0, _ => exact w_33
  | 1, _ => exact w_34
  | 2, _ => exact w_35
  | n + 3, h => exact absurd h (by omega)
theorem lays_M : ∀ w ∈ u_ws "PaneScreenModel" F_M 37, w ∈ TW := by
  intro w h
  obtain ⟨k, hk, rfl⟩ := List.mem_map.1 h
  have hk := List.mem_range.1 hk
  match k, hk with
  | 0, _ => exact w_36
  | 1, _ => exact w_37
  | 2, _ => exact w_38
  | 3, _ => exact w_39
  | 4, _ => exact w_40
  | 5, _ => exact w_41
  | 6, _ => exact w_42
  | 7, _ => exact w_43
  | 8, _ => exact w_44
  | 9, _ => exact w_45
  | 10, _ => exact w_46
  | 11, _ => exact w_47
  | 12, _ => exact w_48
  | 13, _ => exact w_49
  | 14, _ => exact w_50
  | 15, _ => exact w_51
  | 16, _ => exact w_52
  | 17, _ => exact w_53
  | 18, _ => exact w_54
  | 19, _ => exact w_55
  | 20, _ => exact w_56
  | 21, _ => exact w_57
  | 22, _ => exact w_58
  | 23, _ => exact w_59
  | 24, _ => exact w_60
  | 25, _ => exact w_61
  | 26, _ => exact w_62
  | 27, _ => exact w_63
  | 28, _ => exact w_64
  | 29, _ => exact w_65
  | 30, _ => exact w_66
  | 31, _ => exact w_67
  | 32, _ => exact w_68
  | 33, _ => exact w_69
  | 34, _ => exact w_70
  | 35, _ => exact w_71
  | 36, _ => exact w_72
  | n + 37, h => exact absurd h (by omega)
theorem gf_D_9 : gF "PaneScreen$Damage" 9 1 0 := ⟨"PaneScreen$Damage", "PaneScreen$Damage", F_D, 5, rfl, by decide, w_73, rfl, lays_D⟩
theorem gf_D_15 : gF "PaneScreen$Damage" 15 1 1 := ⟨"PaneScreen$Damage", "PaneScreen$Damage", F_D, 5, rfl, by decide, w_74, rfl, lays_D⟩
theorem gf_D_18 : gF "PaneScreen$Damage" 18 1 2 := ⟨"PaneScreen$Damage", "PaneScreen$Damage", F_D, 5, rfl, by decide, w_75, rfl, lays_D⟩
theorem gf_D_21 : gF "PaneScreen$Damage" 21 1 3 := ⟨"PaneScreen$Damage", "PaneScreen$Damage", F_D, 5, rfl, by decide, w_76, rfl, lays_D⟩
theorem gf_D_33 : gF "PaneScreen$Damage" 33 1 4 := ⟨"PaneScreen$Damage", "PaneScreen$Damage", F_D, 5, rfl, by decide, w_77, rfl, lays_D⟩
theorem gf_E_9 : gF "PaneScreen$EventLine" 9 2 0 := ⟨"PaneScreen$EventLine", "PaneScreen$EventLine", F_E, 10, rfl, by decide, w_78, rfl, lays_E⟩
theorem gf_E_15 : gF "PaneScreen$EventLine" 15 2 1 := ⟨"PaneScreen$EventLine", "PaneScreen$EventLine", F_E, 10, rfl, by decide, w_79, rfl, lays_E⟩
theorem gf_E_18 : gF "PaneScreen$EventLine" 18 2 2 := ⟨"PaneScreen$EventLine", "PaneScreen$EventLine", F_E, 10, rfl, by decide, w_80, rfl, lays_E⟩
theorem gf_E_21 : gF "PaneScreen$EventLine" 21 2 3 := ⟨"PaneScreen$EventLine", "PaneScreen$EventLine", F_E, 10, rfl, by decide, w_81, rfl, lays_E⟩
theorem gf_E_28 : gF "PaneScreen$EventLine" 28 2 4 := ⟨"PaneScreen$EventLine", "PaneScreen$EventLine", F_E, 10, rfl, by decide, w_82, rfl, lays_E⟩
theorem gf_E_31 : gF "PaneScreen$EventLine" 31 2 5 := ⟨"PaneScreen$EventLine", "PaneScreen$EventLine", F_E, 10, rfl, by decide, w_83, rfl, lays_E⟩
theorem gf_M_7 : gF "PaneScreenModel" 7 6 1 := ⟨"PaneScreenModel", "PaneScreenModel", F_M, 37, rfl, by decide, w_84, rfl, lays_M⟩
theorem gf_M_13 : gF "PaneScreenModel" 13 6 2 := ⟨"PaneScreenModel", "PaneScreenModel", F_M, 37, rfl, by decide, w_85, rfl, lays_M⟩
theorem gf_M_17 : gF "PaneScreenModel" 17 6 3 := ⟨"PaneScreenModel", "PaneScreenModel", F_M, 37, rfl, by decide, w_86, rfl, lays_M⟩
theorem gf_M_20 : gF "PaneScreenModel" 20 6 4 := ⟨"PaneScreenModel", "PaneScreenModel", F_M, 37, rfl, by decide, w_87, rfl, lays_M⟩
theorem gf_M_23 : gF "PaneScreenModel" 23 6 5 := ⟨"PaneScreenModel", "PaneScreenModel", F_M, 37, rfl, by decide, w_88, rfl, lays_M⟩
theorem gf_M_26 : gF "PaneScreenModel" 26 6 6 := ⟨"PaneScreenModel", "PaneScreenModel", F_M, 37, rfl, by decide, w_89, rfl, lays_M⟩
theorem gf_M_29 : gF "PaneScreenModel" 29 6 7 := ⟨"PaneScreenModel", "PaneScreenModel", F_M, 37, rfl, by decide, w_90, rfl, lays_M⟩
theorem gf_M_32 : gF "PaneScreenModel" 32 6 8 := ⟨"PaneScreenModel", "PaneScreenModel", F_M, 37, rfl, by decide, w_91, rfl, lays_M⟩
theorem gf_M_35 : gF "PaneScreenModel" 35 6 9 := ⟨"PaneScreenModel", "PaneScreenModel", F_M, 37, rfl, by decide, w_92, rfl, lays_M⟩
theorem gf_M_38 : gF "PaneScreenModel" 38 6 10 := ⟨"PaneScreenModel", "PaneScreenModel", F_M, 37, rfl, by decide, w_93, rfl, lays_M⟩
theorem gf_M_41 : gF "PaneScreenModel" 41 6 13 := ⟨"PaneScreenModel", "PaneScreenModel", F_M, 37, rfl, by decide, w_94, rfl, lays_M⟩
theorem gf_M_44 : gF "PaneScreenModel" 44 6 14 := ⟨"PaneScreenModel", "PaneScreenModel", F_M, 37, rfl, by decide, w_95, rfl, lays_M⟩
theorem gf_M_47 : gF "PaneScreenModel" 47 6 15 := ⟨"PaneScreenModel", "PaneScreenModel", F_M, 37, rfl, by decide, w_96, rfl, lays_M⟩
theorem gf_M_51 : gF "PaneScreenModel" 51 6 17 := ⟨"PaneScreenModel", "PaneScreenModel", F_M, 37, rfl, by decide, w_97, rfl, lays_M⟩
theorem gf_M_54 : gF "PaneScreenModel" 54 6 18 := ⟨"PaneScreenModel", "PaneScreenModel", F_M, 37, rfl, by decide, w_98, rfl, lays_M⟩
theorem gf_M_57 : gF "PaneScreenModel" 57 6 19 := ⟨"PaneScreenModel", "PaneScreenModel", F_M, 37, rfl, by decide, w_99, rfl, lays_M⟩
theorem gf_M_60 : gF "PaneScreenModel" 60 6 20 := ⟨"PaneScreenModel", "PaneScreenModel", F_M, 37, rfl, by decide, w_100, rfl, lays_M⟩
theorem gf_M_63 : gF "PaneScreenModel" 63 6 27 := ⟨"PaneScreenModel", "PaneScreenModel", F_M, 37, rfl, by decide, w_101, rfl, lays_M⟩
theorem gf_M_66 : gF "PaneScreenModel" 66 6 28 := ⟨"PaneScreenModel", "PaneScreenModel", F_M, 37, rfl, by decide, w_102, rfl, lays_M⟩
theorem gf_M_69 : gF "PaneScreenModel" 69 6 29 := ⟨"PaneScreenModel", "PaneScreenModel", F_M, 37, rfl, by decide, w_103, rfl, lays_M⟩
theorem gf_M_72 : gF "PaneScreenModel" 72 6 30 := ⟨"PaneScreenModel", "PaneScreenModel", F_M, 37, rfl, by decide, w_104, rfl, lays_M⟩
theorem gf_M_75 : gF "PaneScreenModel" 75 6 0 := ⟨"PaneScreenModel", "PaneScreenModel", F_M, 37, rfl, by decide, w_105, rfl, lays_M⟩
theorem gf_M_78 : gF "PaneScreenModel" 78 6 16 := ⟨"PaneScreenModel", "PaneScreenModel", F_M, 37, rfl, by decide, w_106, rfl, lays_M⟩
theorem gf_M_89 : gF "PaneScreenModel" 89 6 21 := ⟨"PaneScreenModel", "PaneScreenModel", F_M, 37, rfl, by decide, w_107, rfl, lays_M⟩
theorem gf_M_93 : gF "PaneScreenModel" 93 6 22 := ⟨"PaneScreenModel", "PaneScreenModel", F_M, 37, rfl, by decide, w_108, rfl, lays_M⟩
theorem gf_M_96 : gF "PaneScreenModel" 96 6 23 := ⟨"PaneScreenModel", "PaneScreenModel", F_M, 37, rfl, by decide, w_109, rfl, lays_M⟩
theorem gf_M_99 : gF "PaneScreenModel" 99 6 24 := ⟨"PaneScreenModel", "PaneScreenModel", F_M, 37, rfl, by decide, w_110, rfl, lays_M⟩
theorem gf_M_102 : gF "PaneScreenModel" 102 6 25 := ⟨"PaneScreenModel", "PaneScreenModel", F_M, 37, rfl, by decide, w_111, rfl, lays_M⟩
theorem gf_M_120 : gF "PaneScreenModel" 120 6 11 := ⟨"PaneScreenModel", "PaneScreenModel", F_M, 37, rfl, by decide, w_112, rfl, lays_M⟩
theorem gf_M_130 : gF "PaneScreenModel" 130 6 26 := ⟨"PaneScreenModel", "PaneScreenModel", F_M, 37, rfl, by decide, w_113, rfl, lays_M⟩
theorem gf_M_140 : gF "PaneScreenModel" 140 6 12 := ⟨"PaneScreenModel", "PaneScreenModel", F_M, 37, rfl, by decide, w_114, rfl, lays_M⟩
theorem gf_M_168 : gF "PaneScreenModel" 168 6 36 := ⟨"PaneScreenModel", "PaneScreenModel", F_M, 37, rfl, by decide, w_115, rfl, lays_M⟩
theorem gf_M_174 : gF "PaneScreenModel" 174 6 35 := ⟨"PaneScreenModel", "PaneScreenModel", F_M, 37, rfl, by decide, w_116, rfl, lays_M⟩
theorem gf_M_180 : gF "PaneScreenModel" 180 6 31 := ⟨"PaneScreenModel", "PaneScreenModel", F_M, 37, rfl, by decide, w_117, rfl, lays_M⟩
theorem gf_M_183 : gF "PaneScreenModel" 183 6 32 := ⟨"PaneScreenModel", "PaneScreenModel", F_M, 37, rfl, by decide, w_118, rfl, lays_M⟩
theorem gf_M_186 : gF "PaneScreenModel" 186 6 33 := ⟨"PaneScreenModel", "PaneScreenModel", F_M, 37, rfl, by decide, w_119, rfl, lays_M⟩
theorem gf_M_189 : gF "PaneScreenModel" 189 6 34 := ⟨"PaneScreenModel", "PaneScreenModel", F_M, 37, rfl, by decide, w_120, rfl, lays_M⟩
theorem gf_O_9 : gF "PaneScreen$Order" 9 3 0 := ⟨"PaneScreen$Order", "PaneScreen$Order", F_O, 2, rfl, by decide, w_121, rfl, lays_O⟩
theorem gf_O_15 : gF "PaneScreen$Order" 15 3 1 := ⟨"PaneScreen$Order", "PaneScreen$Order", F_O, 2, rfl, by decide, w_122, rfl, lays_O⟩
theorem gf_P_13 : gF "PaneScreen$Pane" 13 4 5 := ⟨"PaneScreen$Pane", "PaneScreen$Pane", F_P, 8, rfl, by decide, w_123, rfl, lays_P⟩
theorem gf_P_17 : gF "PaneScreen$Pane" 17 4 3 := ⟨"PaneScreen$Pane", "PaneScreen$Pane", F_P, 8, rfl, by decide, w_124, rfl, lays_P⟩
theorem gf_P_20 : gF "PaneScreen$Pane" 20 4 4 := ⟨"PaneScreen$Pane", "PaneScreen$Pane", F_P, 8, rfl, by decide, w_125, rfl, lays_P⟩
theorem gf_P_27 : gF "PaneScreen$Pane" 27 4 1 := ⟨"PaneScreen$Pane", "PaneScreen$Pane", F_P, 8, rfl, by decide, w_126, rfl, lays_P⟩
theorem gf_P_30 : gF "PaneScreen$Pane" 30 4 2 := ⟨"PaneScreen$Pane", "PaneScreen$Pane", F_P, 8, rfl, by decide, w_127, rfl, lays_P⟩
theorem gf_S_9 : gF "PaneScreen" 9 0 0 := ⟨"PaneScreen", "PaneScreen", F_S, 8, rfl, by decide, w_128, rfl, lays_S⟩
theorem gf_S_15 : gF "PaneScreen" 15 0 1 := ⟨"PaneScreen", "PaneScreen", F_S, 8, rfl, by decide, w_129, rfl, lays_S⟩
theorem gf_S_23 : gF "PaneScreen" 23 0 2 := ⟨"PaneScreen", "PaneScreen", F_S, 8, rfl, by decide, w_130, rfl, lays_S⟩
theorem gf_S_30 : gF "PaneScreen" 30 0 3 := ⟨"PaneScreen", "PaneScreen", F_S, 8, rfl, by decide, w_131, rfl, lays_S⟩
theorem gf_S_37 : gF "PaneScreen" 37 0 4 := ⟨"PaneScreen", "PaneScreen", F_S, 8, rfl, by decide, w_132, rfl, lays_S⟩
theorem gf_S_44 : gF "PaneScreen" 44 0 5 := ⟨"PaneScreen", "PaneScreen", F_S, 8, rfl, by decide, w_133, rfl, lays_S⟩
theorem gf_S_48 : gF "PaneScreen" 48 0 6 := ⟨"PaneScreen", "PaneScreen", F_S, 8, rfl, by decide, w_134, rfl, lays_S⟩
theorem gf_S_52 : gF "PaneScreen" 52 0 7 := ⟨"PaneScreen", "PaneScreen", F_S, 8, rfl, by decide, w_135, rfl, lays_S⟩
theorem gf_S_95 : gF "PaneScreen" 95 4 5 := ⟨"PaneScreen$Pane", "PaneScreen$Pane", F_P, 8, rfl, by decide, w_136, rfl, lays_P⟩
theorem gf_S_98 : gF "PaneScreen" 98 4 3 := ⟨"PaneScreen$Pane", "PaneScreen$Pane", F_P, 8, rfl, by decide, w_137, rfl, lays_P⟩
theorem gf_S_101 : gF "PaneScreen" 101 4 4 := ⟨"PaneScreen$Pane", "PaneScreen$Pane", F_P, 8, rfl, by decide, w_138, rfl, lays_P⟩
theorem gf_S_130 : gF "PaneScreen" 130 5 0 := ⟨"PaneScreen$Store", "PaneScreen$Store", F_T, 3, rfl, by decide, w_139, rfl, lays_T⟩
theorem gf_S_162 : gF "PaneScreen" 162 5 1 := ⟨"PaneScreen$Store", "PaneScreen$Store", F_T, 3, rfl, by decide, w_140, rfl, lays_T⟩
theorem gf_S_186 : gF "PaneScreen" 186 4 1 := ⟨"PaneScreen$Pane", "PaneScreen$Pane", F_P, 8, rfl, by decide, w_141, rfl, lays_P⟩
theorem gf_S_189 : gF "PaneScreen" 189 4 2 := ⟨"PaneScreen$Pane", "PaneScreen$Pane", F_P, 8, rfl, by decide, w_142, rfl, lays_P⟩
theorem gf_S_196 : gF "PaneScreen" 196 2 4 := ⟨"PaneScreen$EventLine", "PaneScreen$EventLine", F_E, 10, rfl, by decide, w_143, rfl, lays_E⟩
theorem gf_S_205 : gF "PaneScreen" 205 2 6 := ⟨"PaneScreen$EventLine", "PaneScreen$EventLine", F_E, 10, rfl, by decide, w_144, rfl, lays_E⟩
theorem gf_S_208 : gF "PaneScreen" 208 2 7 := ⟨"PaneScreen$EventLine", "PaneScreen$EventLine", F_E, 10, rfl, by decide, w_145, rfl, lays_E⟩
theorem gf_S_211 : gF "PaneScreen" 211 2 8 := ⟨"PaneScreen$EventLine", "PaneScreen$EventLine", F_E, 10, rfl, by decide, w_146, rfl, lays_E⟩
theorem gf_S_214 : gF "PaneScreen" 214 2 9 := ⟨"PaneScreen$EventLine", "PaneScreen$EventLine", F_E, 10, rfl, by decide, w_147, rfl, lays_E⟩
theorem gf_S_220 : gF "PaneScreen" 220 3 1 := ⟨"PaneScreen$Order", "PaneScreen$Order", F_O, 2, rfl, by decide, w_148, rfl, lays_O⟩
theorem gf_S_227 : gF "PaneScreen" 227 1 4 := ⟨"PaneScreen$Damage", "PaneScreen$Damage", F_D, 5, rfl, by decide, w_149, rfl, lays_D⟩
theorem gf_S_228 : gF "PaneScreen" 228 2 5 := ⟨"PaneScreen$EventLine", "PaneScreen$EventLine", F_E, 10, rfl, by decide, w_150, rfl, lays_E⟩
theorem gf_S_231 : gF "PaneScreen" 231 4 0 := ⟨"PaneScreen$Pane", "PaneScreen$Pane", F_P, 8, rfl, by decide, w_151, rfl, lays_P⟩
theorem gf_S_235 : gF "PaneScreen" 235 3 0 := ⟨"PaneScreen$Order", "PaneScreen$Order", F_O, 2, rfl, by decide, w_152, rfl, lays_O⟩
theorem gf_S_250 : gF "PaneScreen" 250 4 6 := ⟨"PaneScreen$Pane", "PaneScreen$Pane", F_P, 8, rfl, by decide, w_153, rfl, lays_P⟩
theorem gf_S_253 : gF "PaneScreen" 253 4 7 := ⟨"PaneScreen$Pane", "PaneScreen$Pane", F_P, 8, rfl, by decide, w_154, rfl, lays_P⟩
theorem gf_T_9 : gF "PaneScreen$Store" 9 5 0 := ⟨"PaneScreen$Store", "PaneScreen$Store", F_T, 3, rfl, by decide, w_155, rfl, lays_T⟩
theorem gf_T_15 : gF "PaneScreen$Store" 15 5 1 := ⟨"PaneScreen$Store", "PaneScreen$Store", F_T, 3, rfl, by decide, w_156, rfl, lays_T⟩
theorem gf_T_18 : gF "PaneScreen$Store" 18 5 2 := ⟨"PaneScreen$Store", "PaneScreen$Store", F_T, 3, rfl, by decide, w_157, rfl, lays_T⟩
theorem gp_D_33 : gFP "PaneScreen$Damage" 33 1 4 .int := ⟨"PaneScreen$Damage", "PaneScreen$Damage", F_D, 5, ty_D, rfl, by decide, w_77, rfl, lays_D, ty_D_ok, nm_D, rfl, ty_D_ok 4 (by decide)⟩
theorem gp_E_24 : gFP "PaneScreen$EventLine" 24 2 6 .int := ⟨"PaneScreen$EventLine", "PaneScreen$EventLine", F_E, 10, ty_E, rfl, by decide, w_158, rfl, lays_E, ty_E_ok, nm_E, rfl, ty_E_ok 6 (by decide)⟩
theorem gp_E_28 : gFP "PaneScreen$EventLine" 28 2 4 .int := ⟨"PaneScreen$EventLine", "PaneScreen$EventLine", F_E, 10, ty_E, rfl, by decide, w_82, rfl, lays_E, ty_E_ok, nm_E, rfl, ty_E_ok 4 (by decide)⟩
theorem gp_E_31 : gFP "PaneScreen$EventLine" 31 2 5 .int := ⟨"PaneScreen$EventLine", "PaneScreen$EventLine", F_E, 10, ty_E, rfl, by decide, w_83, rfl, lays_E, ty_E_ok, nm_E, rfl, ty_E_ok 5 (by decide)⟩
theorem gp_E_34 : gFP "PaneScreen$EventLine" 34 2 7 .int := ⟨"PaneScreen$EventLine", "PaneScreen$EventLine", F_E, 10, ty_E, rfl, by decide, w_159, rfl, lays_E, ty_E_ok, nm_E, rfl, ty_E_ok 7 (by decide)⟩
theorem gp_E_37 : gFP "PaneScreen$EventLine" 37 2 8 .int := ⟨"PaneScreen$EventLine", "PaneScreen$EventLine", F_E, 10, ty_E, rfl, by decide, w_160, rfl, lays_E, ty_E_ok, nm_E, rfl, ty_E_ok 8 (by decide)⟩
theorem gp_E_40 : gFP "PaneScreen$EventLine" 40 2 9 .int := ⟨"PaneScreen$EventLine", "PaneScreen$EventLine", F_E, 10, ty_E, rfl, by decide, w_161, rfl, lays_E, ty_E_ok, nm_E, rfl, ty_E_ok 9 (by decide)⟩
theorem gp_M_47 : gFP "PaneScreenModel" 47 6 15 .int := ⟨"PaneScreenModel", "PaneScreenModel", F_M, 37, ty_M, rfl, by decide, w_96, rfl, lays_M, ty_M_ok, nm_M, rfl, ty_M_ok 15 (by decide)⟩
theorem gp_M_75 : gFP "PaneScreenModel" 75 6 0 .int := ⟨"PaneScreenModel", "PaneScreenModel", F_M, 37, ty_M, rfl, by decide, w_105, rfl, lays_M, ty_M_ok, nm_M, rfl, ty_M_ok 0 (by decide)⟩
theorem gp_M_78 : gFP "PaneScreenModel" 78 6 16 .int := ⟨"PaneScreenModel", "PaneScreenModel", F_M, 37, ty_M, rfl, by decide, w_106, rfl, lays_M, ty_M_ok, nm_M, rfl, ty_M_ok 16 (by decide)⟩
theorem gp_M_89 : gFP "PaneScreenModel" 89 6 21 .boolean := ⟨"PaneScreenModel", "PaneScreenModel", F_M, 37, ty_M, rfl, by decide, w_107, rfl, lays_M, ty_M_ok, nm_M, rfl, ty_M_ok 21 (by decide)⟩
theorem gp_M_93 : gFP "PaneScreenModel" 93 6 22 .int := ⟨"PaneScreenModel", "PaneScreenModel", F_M, 37, ty_M, rfl, by decide, w_108, rfl, lays_M, ty_M_ok, nm_M, rfl, ty_M_ok 22 (by decide)⟩
theorem gp_M_96 : gFP "PaneScreenModel" 96 6 23 .int := ⟨"PaneScreenModel", "PaneScreenModel", F_M, 37, ty_M, rfl, by decide, w_109, rfl, lays_M, ty_M_ok, nm_M, rfl, ty_M_ok 23 (by decide)⟩
theorem gp_M_99 : gFP "PaneScreenModel" 99 6 24 .int := ⟨"PaneScreenModel", "PaneScreenModel", F_M, 37, ty_M, rfl, by decide, w_110, rfl, lays_M, ty_M_ok, nm_M, rfl, ty_M_ok 24 (by decide)⟩
theorem gp_M_102 : gFP "PaneScreenModel" 102 6 25 .int := ⟨"PaneScreenModel", "PaneScreenModel", F_M, 37, ty_M, rfl, by decide, w_111, rfl, lays_M, ty_M_ok, nm_M, rfl, ty_M_ok 25 (by decide)⟩
theorem gp_M_120 : gFP "PaneScreenModel" 120 6 11 .int := ⟨"PaneScreenModel", "PaneScreenModel", F_M, 37, ty_M, rfl, by decide, w_112, rfl, lays_M, ty_M_ok, nm_M, rfl, ty_M_ok 11 (by decide)⟩
theorem gp_M_130 : gFP "PaneScreenModel" 130 6 26 .int := ⟨"PaneScreenModel", "PaneScreenModel", F_M, 37, ty_M, rfl, by decide, w_113, rfl, lays_M, ty_M_ok, nm_M, rfl, ty_M_ok 26 (by decide)⟩
theorem gp_M_140 : gFP "PaneScreenModel" 140 6 12 .int := ⟨"PaneScreenModel", "PaneScreenModel", F_M, 37, ty_M, rfl, by decide, w_114, rfl, lays_M, ty_M_ok, nm_M, rfl, ty_M_ok 12 (by decide)⟩
theorem gp_M_168 : gFP "PaneScreenModel" 168 6 36 .int := ⟨"PaneScreenModel", "PaneScreenModel", F_M, 37, ty_M, rfl, by decide, w_115, rfl, lays_M, ty_M_ok, nm_M, rfl, ty_M_ok 36 (by decide)⟩
theorem gp_M_174 : gFP "PaneScreenModel" 174 6 35 .int := ⟨"PaneScreenModel", "PaneScreenModel", F_M, 37, ty_M, rfl, by decide, w_116, rfl, lays_M, ty_M_ok, nm_M, rfl, ty_M_ok 35 (by decide)⟩
theorem gp_M_180 : gFP "PaneScreenModel" 180 6 31 .boolean := ⟨"PaneScreenModel", "PaneScreenModel", F_M, 37, ty_M, rfl, by decide, w_117, rfl, lays_M, ty_M_ok, nm_M, rfl, ty_M_ok 31 (by decide)⟩
theorem gp_M_183 : gFP "PaneScreenModel" 183 6 32 .int := ⟨"PaneScreenModel", "PaneScreenModel", F_M, 37, ty_M, rfl, by decide, w_118, rfl, lays_M, ty_M_ok, nm_M, rfl, ty_M_ok 32 (by decide)⟩
theorem gp_M_186 : gFP "PaneScreenModel" 186 6 33 .int := ⟨"PaneScreenModel", "PaneScreenModel", F_M, 37, ty_M, rfl, by decide, w_119, rfl, lays_M, ty_M_ok, nm_M, rfl, ty_M_ok 33 (by decide)⟩
theorem gp_M_189 : gFP "PaneScreenModel" 189 6 34 .int := ⟨"PaneScreenModel", "PaneScreenModel", F_M, 37, ty_M, rfl, by decide, w_120, rfl, lays_M, ty_M_ok, nm_M, rfl, ty_M_ok 34 (by decide)⟩
theorem gp_O_15 : gFP "PaneScreen$Order" 15 3 1 .int := ⟨"PaneScreen$Order", "PaneScreen$Order", F_O, 2, ty_O, rfl, by decide, w_122, rfl, lays_O, ty_O_ok, nm_O, rfl, ty_O_ok 1 (by decide)⟩
theorem gp_P_7 : gFP "PaneScreen$Pane" 7 4 0 .boolean := ⟨"PaneScreen$Pane", "PaneScreen$Pane", F_P, 8, ty_P, rfl, by decide, w_162, rfl, lays_P, ty_P_ok, nm_P, rfl, ty_P_ok 0 (by decide)⟩
theorem gp_P_13 : gFP "PaneScreen$Pane" 13 4 5 .int := ⟨"PaneScreen$Pane", "PaneScreen$Pane", F_P, 8, ty_P, rfl, by decide, w_123, rfl, lays_P, ty_P_ok, nm_P, rfl, ty_P_ok 5 (by decide)⟩
theorem gp_P_17 : gFP "PaneScreen$Pane" 17 4 3 .int := ⟨"PaneScreen$Pane", "PaneScreen$Pane", F_P, 8, ty_P, rfl, by decide, w_124, rfl, lays_P, ty_P_ok, nm_P, rfl, ty_P_ok 3 (by decide)⟩
theorem gp_P_20 : gFP "PaneScreen$Pane" 20 4 4 .int := ⟨"PaneScreen$Pane", "PaneScreen$Pane", F_P, 8, ty_P, rfl, by decide, w_125, rfl, lays_P, ty_P_ok, nm_P, rfl, ty_P_ok 4 (by decide)⟩
theorem gp_P_27 : gFP "PaneScreen$Pane" 27 4 1 .int := ⟨"PaneScreen$Pane", "PaneScreen$Pane", F_P, 8, ty_P, rfl, by decide, w_126, rfl, lays_P, ty_P_ok, nm_P, rfl, ty_P_ok 1 (by decide)⟩
theorem gp_P_30 : gFP "PaneScreen$Pane" 30 4 2 .int := ⟨"PaneScreen$Pane", "PaneScreen$Pane", F_P, 8, ty_P, rfl, by decide, w_127, rfl, lays_P, ty_P_ok, nm_P, rfl, ty_P_ok 2 (by decide)⟩
theorem gp_P_33 : gFP "PaneScreen$Pane" 33 4 6 .int := ⟨"PaneScreen$Pane", "PaneScreen$Pane", F_P, 8, ty_P, rfl, by decide, w_163, rfl, lays_P, ty_P_ok, nm_P, rfl, ty_P_ok 6 (by decide)⟩
theorem gp_P_36 : gFP "PaneScreen$Pane" 36 4 7 .int := ⟨"PaneScreen$Pane", "PaneScreen$Pane", F_P, 8, ty_P, rfl, by decide, w_164, rfl, lays_P, ty_P_ok, nm_P, rfl, ty_P_ok 7 (by decide)⟩
theorem gp_S_48 : gFP "PaneScreen" 48 0 6 .int := ⟨"PaneScreen", "PaneScreen", F_S, 8, ty_S, rfl, by decide, w_134, rfl, lays_S, ty_S_ok, nm_S, rfl, ty_S_ok 6 (by decide)⟩
theorem gp_S_52 : gFP "PaneScreen" 52 0 7 .int := ⟨"PaneScreen", "PaneScreen", F_S, 8, ty_S, rfl, by decide, w_135, rfl, lays_S, ty_S_ok, nm_S, rfl, ty_S_ok 7 (by decide)⟩
theorem gw_D_37 : gWV "PaneScreen$Damage" 37 y_D_put b_D_put 6 none 5 := ⟨gGood TW_good (fun w hw => by
  simp only [List.mem_cons, List.not_mem_nil, or_false] at hw
  rcases hw with rfl | rfl | rfl | rfl
  · exact w_165
  · exact w_166
  · exact w_167
  · exact w_168) w_169, by decide, by decide, by decide +kernel⟩
theorem gw_D_41 : gWV "PaneScreen$Damage" 41 y_D_joinAllWith b_D_joinAllWith 10 none 4 := ⟨gGood TW_good (fun w hw => by
  simp only [List.mem_cons, List.not_mem_nil, or_false] at hw
  rcases hw with rfl | rfl | rfl | rfl
  · exact w_170
  · exact w_171
  · exact w_172
  · exact w_168) w_173, by decide, by decide, by decide +kernel⟩
theorem gw_E_43 : gWV "PaneScreen$EventLine" 43 y_E_copy b_E_copy 3 none 2 := ⟨gGood TW_good (fun w hw => by
  simp only [List.mem_cons, List.not_mem_nil, or_false] at hw
  rcases hw with rfl | rfl | rfl | rfl
  · exact w_174
  · exact w_175
  · exact w_176
  · exact w_177) w_178, by decide, by decide, by decide +kernel⟩
theorem gw_L_7 : gWV "PaneScreenLaw" 7 y_S_open b_S_open 7 (some .int) 4 := ⟨gGood TW_good (fun w hw => by
  simp only [List.mem_cons, List.not_mem_nil, or_false] at hw
  rcases hw with rfl | rfl | rfl | rfl
  · exact w_179
  · exact w_180
  · exact w_181
  · exact w_182) w_183, by decide, by decide, by decide +kernel⟩
theorem gw_L_17 : gWV "PaneScreenLaw" 17 y_S_close b_S_close 3 none 1 := ⟨gGood TW_good (fun w hw => by
  simp only [List.mem_cons, List.not_mem_nil, or_false] at hw
  rcases hw with rfl | rfl | rfl | rfl
  · exact w_184
  · exact w_185
  · exact w_186
  · exact w_182) w_187, by decide, by decide, by decide +kernel⟩
theorem gw_L_23 : gWV "PaneScreenLaw" 23 y_S_move b_S_move 5 none 3 := ⟨gGood TW_good (fun w hw => by
  simp only [List.mem_cons, List.not_mem_nil, or_false] at hw
  rcases hw with rfl | rfl | rfl | rfl
  · exact w_188
  · exact w_189
  · exact w_190
  · exact w_182) w_191, by decide, by decide, by decide +kernel⟩
theorem gw_L_27 : gWV "PaneScreenLaw" 27 y_S_raise b_S_raise 4 (some .boolean) 2 := ⟨gGood TW_good (fun w hw => by
  simp only [List.mem_cons, List.not_mem_nil, or_false] at hw
  rcases hw with rfl | rfl | rfl | rfl
  · exact w_192
  · exact w_193
  · exact w_194
  · exact w_182) w_195, by decide, by decide, by decide +kernel⟩
theorem gw_L_31 : gWV "PaneScreenLaw" 31 y_S_plot b_S_plot 6 (some .boolean) 4 := ⟨gGood TW_good (fun w hw => by
  simp only [List.mem_cons, List.not_mem_nil, or_false] at hw
  rcases hw with rfl | rfl | rfl | rfl
  · exact w_196
  · exact w_197
  · exact w_198
  · exact w_182) w_199, by decide, by decide, by decide +kernel⟩
theorem gw_L_35 : gWV "PaneScreenLaw" 35 y_S_fill b_S_fill 13 (some .int) 5 := ⟨gGood TW_good (fun w hw => by
  simp only [List.mem_cons, List.not_mem_nil, or_false] at hw
  rcases hw with rfl | rfl | rfl | rfl
  · exact w_200
  · exact w_201
  · exact w_202
  · exact w_182) w_203, by decide, by decide, by decide +kernel⟩
theorem gw_L_39 : gWV "PaneScreenLaw" 39 y_S_pen b_S_pen 5 none 3 := ⟨gGood TW_good (fun w hw => by
  simp only [List.mem_cons, List.not_mem_nil, or_false] at hw
  rcases hw with rfl | rfl | rfl | rfl
  · exact w_204
  · exact w_205
  · exact w_206
  · exact w_182) w_207, by decide, by decide, by decide +kernel⟩
theorem gw_L_42 : gWV "PaneScreenLaw" 42 y_S_line b_S_line 7 (some .int) 4 := ⟨gGood TW_good (fun w hw => by
  simp only [List.mem_cons, List.not_mem_nil, or_false] at hw
  rcases hw with rfl | rfl | rfl | rfl
  · exact w_208
  · exact w_209
  · exact w_210
  · exact w_182) w_211, by decide, by decide, by decide +kernel⟩
theorem gw_L_45 : gWV "PaneScreenLaw" 45 y_S_scroll b_S_scroll 8 none 3 := ⟨gGood TW_good (fun w hw => by
  simp only [List.mem_cons, List.not_mem_nil, or_false] at hw
  rcases hw with rfl | rfl | rfl | rfl
  · exact w_212
  · exact w_213
  · exact w_214
  · exact w_182) w_215, by decide, by decide, by decide +kernel⟩
theorem gw_L_48 : gWV "PaneScreenLaw" 48 y_S_screen b_S_screen 3 (some .int) 2 := ⟨gGood TW_good (fun w hw => by
  simp only [List.mem_cons, List.not_mem_nil, or_false] at hw
  rcases hw with rfl | rfl | rfl | rfl
  · exact w_216
  · exact w_217
  · exact w_218
  · exact w_182) w_219, by decide, by decide, by decide +kernel⟩
theorem gw_L_54 : gWV "PaneScreenLaw" 54 y_S_picture b_S_picture 5 (some .int) 3 := ⟨gGood TW_good (fun w hw => by
  simp only [List.mem_cons, List.not_mem_nil, or_false] at hw
  rcases hw with rfl | rfl | rfl | rfl
  · exact w_220
  · exact w_221
  · exact w_222
  · exact w_182) w_223, by decide, by decide, by decide +kernel⟩
theorem gw_L_58 : gWV "PaneScreenLaw" 58 y_S_at b_S_at 3 (some .int) 2 := ⟨gGood TW_good (fun w hw => by
  simp only [List.mem_cons, List.not_mem_nil, or_false] at hw
  rcases hw with rfl | rfl | rfl | rfl
  · exact w_224
  · exact w_225
  · exact w_226
  · exact w_182) w_227, by decide, by decide, by decide +kernel⟩
theorem gw_L_61 : gWV "PaneScreenLaw" 61 y_S_visible b_S_visible 5 (some .int) 1 := ⟨gGood TW_good (fun w hw => by
  simp only [List.mem_cons, List.not_mem_nil, or_false] at hw
  rcases hw with rfl | rfl | rfl | rfl
  · exact w_228
  · exact w_229
  · exact w_230
  · exact w_182) w_231, by decide, by decide, by decide +kernel⟩
theorem gw_L_65 : gWV "PaneScreenLaw" 65 y_S_click b_S_click 5 (some .int) 2 := ⟨gGood TW_good (fun w hw => by
  simp only [List.mem_cons, List.not_mem_nil, or_false] at hw
  rcases hw with rfl | rfl | rfl | rfl
  · exact w_232
  · exact w_233
  · exact w_234
  · exact w_182) w_235, by decide, by decide, by decide +kernel⟩
theorem gw_L_68 : gWV "PaneScreenLaw" 68 y_S_next b_S_next 1 (some .int) 0 := ⟨gGood TW_good (fun w hw => by
  simp only [List.mem_cons, List.not_mem_nil, or_false] at hw
  rcases hw with rfl | rfl | rfl | rfl
  · exact w_236
  · exact w_237
  · exact w_238
  · exact w_182) w_239, by decide, by decide, by decide +kernel⟩
theorem gw_L_72 : gWV "PaneScreenLaw" 72 y_S_event b_S_event 2 (some .int) 1 := ⟨gGood TW_good (fun w hw => by
  simp only [List.mem_cons, List.not_mem_nil, or_false] at hw
  rcases hw with rfl | rfl | rfl | rfl
  · exact w_240
  · exact w_241
  · exact w_242
  · exact w_182) w_243, by decide, by decide, by decide +kernel⟩
theorem gw_L_75 : gWV "PaneScreenLaw" 75 y_S_figure b_S_figure 2 (some .int) 1 := ⟨gGood TW_good (fun w hw => by
  simp only [List.mem_cons, List.not_mem_nil, or_false] at hw
  rcases hw with rfl | rfl | rfl | rfl
  · exact w_244
  · exact w_245
  · exact w_246
  · exact w_182) w_247, by decide, by decide, by decide +kernel⟩
theorem gw_M_81 : gWV "PaneScreenModel" 81 y_M_damage b_M_damage 10 none 4 := ⟨gGood TW_good (fun w hw => by
  simp only [List.mem_cons, List.not_mem_nil, or_false] at hw
  rcases hw with rfl | rfl | rfl | rfl
  · exact w_248
  · exact w_249
  · exact w_250
  · exact w_251) w_252, by decide, by decide, by decide +kernel⟩
theorem gw_M_85 : gWV "PaneScreenModel" 85 y_M_inPicture b_M_inPicture 4 (some .boolean) 3 := ⟨gGood TW_good (fun w hw => by
  simp only [List.mem_cons, List.not_mem_nil, or_false] at hw
  rcases hw with rfl | rfl | rfl | rfl
  · exact w_253
  · exact w_254
  · exact w_255
  · exact w_251) w_256, by decide, by decide, by decide +kernel⟩
theorem gw_M_105 : gWV "PaneScreenModel" 105 y_M_isFree b_M_isFree 4 (some .boolean) 1 := ⟨gGood TW_good (fun w hw => by
  simp only [List.mem_cons, List.not_mem_nil, or_false] at hw
  rcases hw with rfl | rfl | rfl | rfl
  · exact w_257
  · exact w_258
  · exact w_259
  · exact w_251) w_260, by decide, by decide, by decide +kernel⟩
theorem gw_M_109 : gWS "PaneScreenModel" 109 y_M_near b_M_near 1 (some .boolean) 1 := ⟨gGood TW_good (fun w hw => by
  simp only [List.mem_cons, List.not_mem_nil, or_false] at hw
  rcases hw with rfl | rfl | rfl
  · exact w_261
  · exact w_262
  · exact w_251) w_263, by decide, by decide, by decide +kernel⟩
theorem gw_M_112 : gWV "PaneScreenModel" 112 y_M_stretch b_M_stretch 4 (some .int) 1 := ⟨gGood TW_good (fun w hw => by
  simp only [List.mem_cons, List.not_mem_nil, or_false] at hw
  rcases hw with rfl | rfl | rfl | rfl
  · exact w_264
  · exact w_265
  · exact w_266
  · exact w_251) w_267, by decide, by decide, by decide +kernel⟩
theorem gw_M_116 : gWV "PaneScreenModel" 116 y_M_firstClosed b_M_firstClosed 2 (some .int) 0 := ⟨gGood TW_good (fun w hw => by
  simp only [List.mem_cons, List.not_mem_nil, or_false] at hw
  rcases hw with rfl | rfl | rfl | rfl
  · exact w_268
  · exact w_269
  · exact w_270
  · exact w_251) w_271, by decide, by decide, by decide +kernel⟩
theorem gw_M_123 : gWV "PaneScreenModel" 123 y_M_damageFrame b_M_damageFrame 2 none 1 := ⟨gGood TW_good (fun w hw => by
  simp only [List.mem_cons, List.not_mem_nil, or_false] at hw
  rcases hw with rfl | rfl | rfl | rfl
  · exact w_272
  · exact w_273
  · exact w_274
  · exact w_251) w_275, by decide, by decide, by decide +kernel⟩
theorem gw_M_127 : gWV "PaneScreenModel" 127 y_M_isOpen b_M_isOpen 2 (some .boolean) 1 := ⟨gGood TW_good (fun w hw => by
  simp only [List.mem_cons, List.not_mem_nil, or_false] at hw
  rcases hw with rfl | rfl | rfl | rfl
  · exact w_276
  · exact w_277
  · exact w_278
  · exact w_251) w_279, by decide, by decide, by decide +kernel⟩
theorem gw_M_133 : gWV "PaneScreenModel" 133 y_M_moveEvent b_M_moveEvent 3 none 2 := ⟨gGood TW_good (fun w hw => by
  simp only [List.mem_cons, List.not_mem_nil, or_false] at hw
  rcases hw with rfl | rfl | rfl | rfl
  · exact w_280
  · exact w_281
  · exact w_282
  · exact w_251) w_283, by decide, by decide, by decide +kernel⟩
theorem gw_M_137 : gWV "PaneScreenModel" 137 y_M_foremost b_M_foremost 3 (some .int) 0 := ⟨gGood TW_good (fun w hw => by
  simp only [List.mem_cons, List.not_mem_nil, or_false] at hw
  rcases hw with rfl | rfl | rfl | rfl
  · exact w_284
  · exact w_285
  · exact w_286
  · exact w_251) w_287, by decide, by decide, by decide +kernel⟩
theorem gw_M_143 : gWV "PaneScreenModel" 143 y_M_lift b_M_lift 5 (some .boolean) 2 := ⟨gGood TW_good (fun w hw => by
  simp only [List.mem_cons, List.not_mem_nil, or_false] at hw
  rcases hw with rfl | rfl | rfl | rfl
  · exact w_288
  · exact w_289
  · exact w_290
  · exact w_251) w_291, by decide, by decide, by decide +kernel⟩
theorem gw_M_147 : gWS "PaneScreenModel" 147 y_M_colour b_M_colour 1 (some .boolean) 1 := ⟨gGood TW_good (fun w hw => by
  simp only [List.mem_cons, List.not_mem_nil, or_false] at hw
  rcases hw with rfl | rfl | rfl
  · exact w_292
  · exact w_293
  · exact w_251) w_294, by decide, by decide, by decide +kernel⟩
theorem gw_M_150 : gWV "PaneScreenModel" 150 y_M_paint b_M_paint 5 (some .boolean) 4 := ⟨gGood TW_good (fun w hw => by
  simp only [List.mem_cons, List.not_mem_nil, or_false] at hw
  rcases hw with rfl | rfl | rfl | rfl
  · exact w_295
  · exact w_296
  · exact w_297
  · exact w_251) w_298, by decide, by decide, by decide +kernel⟩
theorem gw_M_154 : gWV "PaneScreenModel" 154 y_M_damageChanged b_M_damageChanged 2 none 1 := ⟨gGood TW_good (fun w hw => by
  simp only [List.mem_cons, List.not_mem_nil, or_false] at hw
  rcases hw with rfl | rfl | rfl | rfl
  · exact w_299
  · exact w_300
  · exact w_301
  · exact w_251) w_302, by decide, by decide, by decide +kernel⟩
theorem gw_M_157 : gWS "PaneScreenModel" 157 y_M_div b_M_div 3 (some .int) 2 := ⟨gGood TW_good (fun w hw => by
  simp only [List.mem_cons, List.not_mem_nil, or_false] at hw
  rcases hw with rfl | rfl | rfl
  · exact w_303
  · exact w_304
  · exact w_251) w_305, by decide, by decide, by decide +kernel⟩
theorem gw_M_161 : gWV "PaneScreenModel" 161 y_M_isDamaged b_M_isDamaged 5 (some .boolean) 2 := ⟨gGood TW_good (fun w hw => by
  simp only [List.mem_cons, List.not_mem_nil, or_false] at hw
  rcases hw with rfl | rfl | rfl | rfl
  · exact w_306
  · exact w_307
  · exact w_308
  · exact w_251) w_309, by decide, by decide, by decide +kernel⟩
theorem gw_M_165 : gWV "PaneScreenModel" 165 y_M_owner b_M_owner 6 (some .int) 2 := ⟨gGood TW_good (fun w hw => by
  simp only [List.mem_cons, List.not_mem_nil, or_false] at hw
  rcases hw with rfl | rfl | rfl | rfl
  · exact w_310
  · exact w_311
  · exact w_312
  · exact w_251) w_313, by decide, by decide, by decide +kernel⟩
theorem gw_M_171 : gWS "PaneScreenModel" 171 y_M_onScreen b_M_onScreen 2 (some .boolean) 2 := ⟨gGood TW_good (fun w hw => by
  simp only [List.mem_cons, List.not_mem_nil, or_false] at hw
  rcases hw with rfl | rfl | rfl
  · exact w_314
  · exact w_315
  · exact w_251) w_316, by decide, by decide, by decide +kernel⟩
theorem gw_M_177 : gWV "PaneScreenModel" 177 y_M_tell b_M_tell 5 none 4 := ⟨gGood TW_good (fun w hw => by
  simp only [List.mem_cons, List.not_mem_nil, or_false] at hw
  rcases hw with rfl | rfl | rfl | rfl
  · exact w_317
  · exact w_318
  · exact w_319
  · exact w_251) w_320, by decide, by decide, by decide +kernel⟩
theorem gw_M_192 : gWV "PaneScreenModel" 192 y_M_openOnes b_M_openOnes 3 (some .int) 0 := ⟨gGood TW_good (fun w hw => by
  simp only [List.mem_cons, List.not_mem_nil, or_false] at hw
  rcases hw with rfl | rfl | rfl | rfl
  · exact w_321
  · exact w_322
  · exact w_323
  · exact w_251) w_324, by decide, by decide, by decide +kernel⟩
theorem gw_M_195 : gWV "PaneScreenModel" 195 y_M_freeCells b_M_freeCells 7 (some .int) 1 := ⟨gGood TW_good (fun w hw => by
  simp only [List.mem_cons, List.not_mem_nil, or_false] at hw
  rcases hw with rfl | rfl | rfl | rfl
  · exact w_325
  · exact w_326
  · exact w_327
  · exact w_251) w_328, by decide, by decide, by decide +kernel⟩
theorem gw_P_23 : gWV "PaneScreen$Pane" 23 y_P_putPen b_P_putPen 3 none 2 := ⟨gGood TW_good (fun w hw => by
  simp only [List.mem_cons, List.not_mem_nil, or_false] at hw
  rcases hw with rfl | rfl | rfl | rfl
  · exact w_329
  · exact w_330
  · exact w_331
  · exact w_332) w_333, by decide, by decide, by decide +kernel⟩
theorem gw_P_39 : gWV "PaneScreen$Pane" 39 y_P_has b_P_has 3 (some .boolean) 2 := ⟨gGood TW_good (fun w hw => by
  simp only [List.mem_cons, List.not_mem_nil, or_false] at hw
  rcases hw with rfl | rfl | rfl | rfl
  · exact w_334
  · exact w_335
  · exact w_336
  · exact w_332) w_337, by decide, by decide, by decide +kernel⟩
theorem gw_S_55 : gWS "PaneScreen" 55 y_S_requireNear b_S_requireNear 2 none 2 := ⟨gGood TW_good (fun w hw => by
  simp only [List.mem_cons, List.not_mem_nil, or_false] at hw
  rcases hw with rfl | rfl | rfl
  · exact w_338
  · exact w_339
  · exact w_182) w_340, by decide, by decide, by decide +kernel⟩
theorem gw_S_59 : gWS "PaneScreen" 59 y_S_requireSize b_S_requireSize 2 none 2 := ⟨gGood TW_good (fun w hw => by
  simp only [List.mem_cons, List.not_mem_nil, or_false] at hw
  rcases hw with rfl | rfl | rfl
  · exact w_341
  · exact w_342
  · exact w_182) w_343, by decide, by decide, by decide +kernel⟩
theorem gw_S_62 : gWV "PaneScreen" 62 y_S_leastClosed b_S_leastClosed 2 (some .int) 0 := ⟨gGood TW_good (fun w hw => by
  simp only [List.mem_cons, List.not_mem_nil, or_false] at hw
  rcases hw with rfl | rfl | rfl | rfl
  · exact w_344
  · exact w_345
  · exact w_346
  · exact w_182) w_347, by decide, by decide, by decide +kernel⟩
theorem gw_S_66 : gWV "PaneScreen" 66 y_T_firstFree b_T_firstFree 4 (some .int) 1 := ⟨gGood TW_good (fun w hw => by
  simp only [List.mem_cons, List.not_mem_nil, or_false] at hw
  rcases hw with rfl | rfl | rfl | rfl
  · exact w_348
  · exact w_349
  · exact w_350
  · exact w_351) w_352, by decide, by decide, by decide +kernel⟩
theorem gw_S_73 : gWV "PaneScreen" 73 y_T_take b_T_take 4 none 2 := ⟨gGood TW_good (fun w hw => by
  simp only [List.mem_cons, List.not_mem_nil, or_false] at hw
  rcases hw with rfl | rfl | rfl | rfl
  · exact w_353
  · exact w_354
  · exact w_355
  · exact w_351) w_356, by decide, by decide, by decide +kernel⟩
theorem gw_S_76 : gWV "PaneScreen" 76 y_P_begin b_P_begin 4 none 3 := ⟨gGood TW_good (fun w hw => by
  simp only [List.mem_cons, List.not_mem_nil, or_false] at hw
  rcases hw with rfl | rfl | rfl | rfl
  · exact w_357
  · exact w_358
  · exact w_359
  · exact w_332) w_360, by decide, by decide, by decide +kernel⟩
theorem gw_S_80 : gWV "PaneScreen" 80 y_P_place b_P_place 3 none 2 := ⟨gGood TW_good (fun w hw => by
  simp only [List.mem_cons, List.not_mem_nil, or_false] at hw
  rcases hw with rfl | rfl | rfl | rfl
  · exact w_361
  · exact w_362
  · exact w_363
  · exact w_332) w_364, by decide, by decide, by decide +kernel⟩
theorem gw_S_83 : gWV "PaneScreen" 83 y_O_addInFront b_O_addInFront 3 none 1 := ⟨gGood TW_good (fun w hw => by
  simp only [List.mem_cons, List.not_mem_nil, or_false] at hw
  rcases hw with rfl | rfl | rfl | rfl
  · exact w_365
  · exact w_366
  · exact w_367
  · exact w_368) w_369, by decide, by decide, by decide +kernel⟩
theorem gw_S_87 : gWV "PaneScreen" 87 y_S_damageFrame b_S_damageFrame 2 none 1 := ⟨gGood TW_good (fun w hw => by
  simp only [List.mem_cons, List.not_mem_nil, or_false] at hw
  rcases hw with rfl | rfl | rfl | rfl
  · exact w_370
  · exact w_371
  · exact w_372
  · exact w_182) w_373, by decide, by decide, by decide +kernel⟩
theorem gw_S_91 : gWV "PaneScreen" 91 y_S_openPane b_S_openPane 2 (some (.object "PaneScreen$Pane")) 1 := ⟨gGood TW_good (fun w hw => by
  simp only [List.mem_cons, List.not_mem_nil, or_false] at hw
  rcases hw with rfl | rfl | rfl | rfl
  · exact w_374
  · exact w_375
  · exact w_376
  · exact w_182) w_377, by decide, by decide, by decide +kernel⟩
theorem gw_S_104 : gWV "PaneScreen" 104 y_T_release b_T_release 4 none 2 := ⟨gGood TW_good (fun w hw => by
  simp only [List.mem_cons, List.not_mem_nil, or_false] at hw
  rcases hw with rfl | rfl | rfl | rfl
  · exact w_378
  · exact w_379
  · exact w_380
  · exact w_351) w_381, by decide, by decide, by decide +kernel⟩
theorem gw_S_107 : gWV "PaneScreen" 107 y_P_end b_P_end 1 none 0 := ⟨gGood TW_good (fun w hw => by
  simp only [List.mem_cons, List.not_mem_nil, or_false] at hw
  rcases hw with rfl | rfl | rfl | rfl
  · exact w_382
  · exact w_383
  · exact w_384
  · exact w_332) w_385, by decide, by decide, by decide +kernel⟩
theorem gw_S_110 : gWV "PaneScreen" 110 y_O_remove b_O_remove 4 none 1 := ⟨gGood TW_good (fun w hw => by
  simp only [List.mem_cons, List.not_mem_nil, or_false] at hw
  rcases hw with rfl | rfl | rfl | rfl
  · exact w_386
  · exact w_387
  · exact w_388
  · exact w_368) w_389, by decide, by decide, by decide +kernel⟩
theorem gw_S_113 : gWV "PaneScreen" 113 y_E_removeAllOf b_E_removeAllOf 4 none 1 := ⟨gGood TW_good (fun w hw => by
  simp only [List.mem_cons, List.not_mem_nil, or_false] at hw
  rcases hw with rfl | rfl | rfl | rfl
  · exact w_390
  · exact w_391
  · exact w_392
  · exact w_177) w_393, by decide, by decide, by decide +kernel⟩
theorem gw_S_116 : gWV "PaneScreen" 116 y_O_first b_O_first 1 (some .int) 0 := ⟨gGood TW_good (fun w hw => by
  simp only [List.mem_cons, List.not_mem_nil, or_false] at hw
  rcases hw with rfl | rfl | rfl | rfl
  · exact w_394
  · exact w_395
  · exact w_396
  · exact w_368) w_397, by decide, by decide, by decide +kernel⟩
theorem gw_S_119 : gWV "PaneScreen" 119 y_S_reorder b_S_reorder 5 (some .boolean) 3 := ⟨gGood TW_good (fun w hw => by
  simp only [List.mem_cons, List.not_mem_nil, or_false] at hw
  rcases hw with rfl | rfl | rfl | rfl
  · exact w_398
  · exact w_399
  · exact w_400
  · exact w_182) w_401, by decide, by decide, by decide +kernel⟩
theorem gw_S_123 : gWS "PaneScreen" 123 y_S_requireColour b_S_requireColour 1 none 1 := ⟨gGood TW_good (fun w hw => by
  simp only [List.mem_cons, List.not_mem_nil, or_false] at hw
  rcases hw with rfl | rfl | rfl
  · exact w_402
  · exact w_403
  · exact w_182) w_404, by decide, by decide, by decide +kernel⟩
theorem gw_S_126 : gWV "PaneScreen" 126 y_P_has b_P_has 3 (some .boolean) 2 := ⟨gGood TW_good (fun w hw => by
  simp only [List.mem_cons, List.not_mem_nil, or_false] at hw
  rcases hw with rfl | rfl | rfl | rfl
  · exact w_405
  · exact w_335
  · exact w_336
  · exact w_332) w_337, by decide, by decide, by decide +kernel⟩
theorem gw_S_133 : gWV "PaneScreen" 133 y_P_cell b_P_cell 3 (some .int) 2 := ⟨gGood TW_good (fun w hw => by
  simp only [List.mem_cons, List.not_mem_nil, or_false] at hw
  rcases hw with rfl | rfl | rfl | rfl
  · exact w_406
  · exact w_407
  · exact w_408
  · exact w_332) w_409, by decide, by decide, by decide +kernel⟩
theorem gw_S_137 : gWV "PaneScreen" 137 y_S_damagePart b_S_damagePart 6 none 5 := ⟨gGood TW_good (fun w hw => by
  simp only [List.mem_cons, List.not_mem_nil, or_false] at hw
  rcases hw with rfl | rfl | rfl | rfl
  · exact w_410
  · exact w_411
  · exact w_412
  · exact w_182) w_413, by decide, by decide, by decide +kernel⟩
theorem gw_S_141 : gWS "PaneScreen" 141 y_S_requireExtent b_S_requireExtent 1 none 1 := ⟨gGood TW_good (fun w hw => by
  simp only [List.mem_cons, List.not_mem_nil, or_false] at hw
  rcases hw with rfl | rfl | rfl
  · exact w_414
  · exact w_415
  · exact w_182) w_416, by decide, by decide, by decide +kernel⟩
theorem gw_S_152 : gWV "PaneScreen" 152 y_P_putPen b_P_putPen 3 none 2 := ⟨gGood TW_good (fun w hw => by
  simp only [List.mem_cons, List.not_mem_nil, or_false] at hw
  rcases hw with rfl | rfl | rfl | rfl
  · exact w_417
  · exact w_330
  · exact w_331
  · exact w_332) w_333, by decide, by decide, by decide +kernel⟩
theorem gw_S_155 : gWV "PaneScreen" 155 y_S_drawFromPen b_S_drawFromPen 16 (some .int) 4 := ⟨gGood TW_good (fun w hw => by
  simp only [List.mem_cons, List.not_mem_nil, or_false] at hw
  rcases hw with rfl | rfl | rfl | rfl
  · exact w_418
  · exact w_419
  · exact w_420
  · exact w_182) w_421, by decide, by decide, by decide +kernel⟩
theorem gw_S_159 : gWV "PaneScreen" 159 y_T_keepOld b_T_keepOld 1 none 0 := ⟨gGood TW_good (fun w hw => by
  simp only [List.mem_cons, List.not_mem_nil, or_false] at hw
  rcases hw with rfl | rfl | rfl | rfl
  · exact w_422
  · exact w_423
  · exact w_424
  · exact w_351) w_425, by decide, by decide, by decide +kernel⟩
theorem gw_S_165 : gWV "PaneScreen" 165 y_D_holds b_D_holds 4 (some .boolean) 2 := ⟨gGood TW_good (fun w hw => by
  simp only [List.mem_cons, List.not_mem_nil, or_false] at hw
  rcases hw with rfl | rfl | rfl | rfl
  · exact w_426
  · exact w_427
  · exact w_428
  · exact w_168) w_429, by decide, by decide, by decide +kernel⟩
theorem gw_S_168 : gWV "PaneScreen" 168 y_S_colourBelow b_S_colourBelow 5 (some .int) 2 := ⟨gGood TW_good (fun w hw => by
  simp only [List.mem_cons, List.not_mem_nil, or_false] at hw
  rcases hw with rfl | rfl | rfl | rfl
  · exact w_430
  · exact w_431
  · exact w_432
  · exact w_182) w_433, by decide, by decide, by decide +kernel⟩
theorem gw_S_171 : gWV "PaneScreen" 171 y_D_forget b_D_forget 1 none 0 := ⟨gGood TW_good (fun w hw => by
  simp only [List.mem_cons, List.not_mem_nil, or_false] at hw
  rcases hw with rfl | rfl | rfl | rfl
  · exact w_434
  · exact w_435
  · exact w_436
  · exact w_168) w_437, by decide, by decide, by decide +kernel⟩
theorem gw_S_174 : gWS "PaneScreen" 174 y_S_requireOnScreen b_S_requireOnScreen 2 none 2 := ⟨gGood TW_good (fun w hw => by
  simp only [List.mem_cons, List.not_mem_nil, or_false] at hw
  rcases hw with rfl | rfl | rfl
  · exact w_438
  · exact w_439
  · exact w_182) w_440, by decide, by decide, by decide +kernel⟩
theorem gw_S_180 : gWV "PaneScreen" 180 y_S_ownerOf b_S_ownerOf 5 (some .int) 2 := ⟨gGood TW_good (fun w hw => by
  simp only [List.mem_cons, List.not_mem_nil, or_false] at hw
  rcases hw with rfl | rfl | rfl | rfl
  · exact w_441
  · exact w_442
  · exact w_443
  · exact w_182) w_444, by decide, by decide, by decide +kernel⟩
theorem gw_S_183 : gWV "PaneScreen" 183 y_S_giveFocus b_S_giveFocus 2 none 1 := ⟨gGood TW_good (fun w hw => by
  simp only [List.mem_cons, List.not_mem_nil, or_false] at hw
  rcases hw with rfl | rfl | rfl | rfl
  · exact w_445
  · exact w_446
  · exact w_447
  · exact w_182) w_448, by decide, by decide, by decide +kernel⟩
theorem gw_S_192 : gWV "PaneScreen" 192 y_E_tell b_E_tell 5 none 4 := ⟨gGood TW_good (fun w hw => by
  simp only [List.mem_cons, List.not_mem_nil, or_false] at hw
  rcases hw with rfl | rfl | rfl | rfl
  · exact w_449
  · exact w_450
  · exact w_451
  · exact w_177) w_452, by decide, by decide, by decide +kernel⟩
theorem gw_S_202 : gWV "PaneScreen" 202 y_E_takeFirst b_E_takeFirst 2 none 0 := ⟨gGood TW_good (fun w hw => by
  simp only [List.mem_cons, List.not_mem_nil, or_false] at hw
  rcases hw with rfl | rfl | rfl | rfl
  · exact w_453
  · exact w_454
  · exact w_455
  · exact w_177) w_456, by decide, by decide, by decide +kernel⟩
theorem gw_S_221 : gWV "PaneScreen" 221 y_T_freeCells b_T_freeCells 3 (some .int) 0 := ⟨gGood TW_good (fun w hw => by
  simp only [List.mem_cons, List.not_mem_nil, or_false] at hw
  rcases hw with rfl | rfl | rfl | rfl
  · exact w_457
  · exact w_458
  · exact w_459
  · exact w_351) w_460, by decide, by decide, by decide +kernel⟩
theorem gw_S_224 : gWV "PaneScreen" 224 y_T_longestFree b_T_longestFree 4 (some .int) 0 := ⟨gGood TW_good (fun w hw => by
  simp only [List.mem_cons, List.not_mem_nil, or_false] at hw
  rcases hw with rfl | rfl | rfl | rfl
  · exact w_461
  · exact w_462
  · exact w_463
  · exact w_351) w_464, by decide, by decide, by decide +kernel⟩
theorem gw_S_238 : gWV "PaneScreen" 238 y_P_covers b_P_covers 3 (some .boolean) 2 := ⟨gGood TW_good (fun w hw => by
  simp only [List.mem_cons, List.not_mem_nil, or_false] at hw
  rcases hw with rfl | rfl | rfl | rfl
  · exact w_465
  · exact w_466
  · exact w_467
  · exact w_332) w_468, by decide, by decide, by decide +kernel⟩
theorem gw_S_241 : gWV "PaneScreen" 241 y_D_add b_D_add 9 none 4 := ⟨gGood TW_good (fun w hw => by
  simp only [List.mem_cons, List.not_mem_nil, or_false] at hw
  rcases hw with rfl | rfl | rfl | rfl
  · exact w_469
  · exact w_470
  · exact w_471
  · exact w_168) w_472, by decide, by decide, by decide +kernel⟩
theorem gw_S_244 : gWV "PaneScreen" 244 y_O_last b_O_last 1 (some .int) 0 := ⟨gGood TW_good (fun w hw => by
  simp only [List.mem_cons, List.not_mem_nil, or_false] at hw
  rcases hw with rfl | rfl | rfl | rfl
  · exact w_473
  · exact w_474
  · exact w_475
  · exact w_368) w_476, by decide, by decide, by decide +kernel⟩
theorem gw_S_247 : gWV "PaneScreen" 247 y_O_addBehind b_O_addBehind 2 none 1 := ⟨gGood TW_good (fun w hw => by
  simp only [List.mem_cons, List.not_mem_nil, or_false] at hw
  rcases hw with rfl | rfl | rfl | rfl
  · exact w_477
  · exact w_478
  · exact w_479
  · exact w_368) w_480, by decide, by decide, by decide +kernel⟩
theorem gw_S_259 : gWS "PaneScreen" 259 y_S_stepped b_S_stepped 3 (some .int) 3 := ⟨gGood TW_good (fun w hw => by
  simp only [List.mem_cons, List.not_mem_nil, or_false] at hw
  rcases hw with rfl | rfl | rfl
  · exact w_481
  · exact w_482
  · exact w_182) w_483, by decide, by decide, by decide +kernel⟩
theorem gc_L_13 : Cond.classLink "PaneScreenLaw" 13 "java/lang/IllegalArgumentException" ∈ TW := w_484
theorem gc_L_15 : Cond.classLink "PaneScreenLaw" 15 "java/lang/IllegalStateException" ∈ TW := w_485
theorem gc_L_21 : Cond.classLink "PaneScreenLaw" 21 "java/util/NoSuchElementException" ∈ TW := w_486
theorem gc_L_52 : Cond.classLink "PaneScreenLaw" 52 "java/lang/IndexOutOfBoundsException" ∈ TW := w_487
theorem gm_D_24 : Cond.methodLink "PaneScreen$Damage" 24 Lib.Math.max.name ∈ TW := w_488
theorem gm_D_30 : Cond.methodLink "PaneScreen$Damage" 30 Lib.Math.min.name ∈ TW := w_489
theorem gm_S_144 : Cond.methodLink "PaneScreen" 144 Lib.Math.max.name ∈ TW := w_490
theorem gm_S_149 : Cond.methodLink "PaneScreen" 149 Lib.Math.min.name ∈ TW := w_491
theorem gm_S_256 : Cond.methodLink "PaneScreen" 256 Lib.Math.abs.name ∈ TW := w_492
theorem gm_S_263 : Cond.methodLink "PaneScreen" 263 y_J_floorDiv ∈ TW := w_493
theorem gm_T_28 : Cond.methodLink "PaneScreen$Store" 28 Lib.Math.max.name ∈ TW := w_494
theorem gms_abs : Cond.static Lib.Math.abs.name ∈ TW := w_495
theorem gmc_abs : Cond.code Lib.Math.abs.name Lib.Math.abs.code 1 (some .int) ∈ TW := w_496
theorem gms_floorDiv : Cond.static y_J_floorDiv ∈ TW := w_497
theorem gmc_floorDiv : Cond.code y_J_floorDiv b_J_floorDiv 3 (some .int) ∈ TW := w_498
theorem gms_max : Cond.static Lib.Math.max.name ∈ TW := w_499
theorem gmc_max : Cond.code Lib.Math.max.name Lib.Math.max.code 2 (some .int) ∈ TW := w_500
theorem gms_min : Cond.static Lib.Math.min.name ∈ TW := w_501
theorem gmc_min : Cond.code Lib.Math.min.name Lib.Math.min.code 2 (some .int) ∈ TW := w_502
theorem gmi : Cond.initialized "java/lang/Math" ∈ TW := w_503
theorem ga_T_22 : Cond.methodLink "PaneScreen$Store" 22 arraycopyName ∈ TW := w_504
theorem gan : Cond.native arraycopyName ∈ TW := w_505
theorem gas : Cond.static arraycopyName ∈ TW := w_506
theorem gaini : Cond.initialized "java/lang/System" ∈ TW := w_507
set_option maxRecDepth 100000 in
theorem gt_S_70 : gTh "PaneScreen" 70 72 "java/lang/IllegalStateException" := ⟨by decide, by decide +kernel, by decide +kernel, w_508, w_509, by decide +kernel, by decide +kernel, by decide +kernel⟩
set_option maxRecDepth 100000 in
theorem gt_S_177 : gTh "PaneScreen" 177 179 "java/lang/IndexOutOfBoundsException" := ⟨by decide, by decide +kernel, by decide +kernel, w_510, w_511, by decide +kernel, by decide +kernel, by decide +kernel⟩
set_option maxRecDepth 100000 in
theorem gt_S_199 : gTh "PaneScreen" 199 201 "java/util/NoSuchElementException" := ⟨by decide, by decide +kernel, by decide +kernel, w_512, w_513, by decide +kernel, by decide +kernel, by decide +kernel⟩
set_option maxRecDepth 100000 in
theorem gt_S_217 : gTh "PaneScreen" 217 219 "java/lang/IllegalArgumentException" := ⟨by decide, by decide +kernel, by decide +kernel, w_514, w_515, by decide +kernel, by decide +kernel, by decide +kernel⟩
