/-! Words of fields, calls, Math, throws. -/
theorem lays_S : ∀ w ∈ u_ws "PaneScreen" F_S 8, w ∈ TW := by
  intro w h
  obtain ⟨k, hk, rfl⟩ := List.mem_map.1 h
  have hk := List.mem_range.1 hk
  match k, hk with
  | 0, _ => exact w_0
  | 1, _ => exact w_1
  | 2, _ => exact w_2
  | 3, _ => exact w_3
  | 4, _ => exact w_4
  | 5, _ => exact w_5
  | 6, _ => exact w_6
  | 7, _ => exact w_7
  | n + 8, h => exact absurd h (by omega)
theorem lays_D : ∀ w ∈ u_ws "PaneScreen$Damage" F_D 5, w ∈ TW := by
  intro w h
  obtain ⟨k, hk, rfl⟩ := List.mem_map.1 h
  have hk := List.mem_range.1 hk
  match k, hk with
  | 0, _ => exact w_8
  | 1, _ => exact w_9
  | 2, _ => exact w_10
  | 3, _ => exact w_11
  | 4, _ => exact w_12
  | n + 5, h => exact absurd h (by omega)
theorem lays_E : ∀ w ∈ u_ws "PaneScreen$EventLine" F_E 10, w ∈ TW := by
  intro w h
  obtain ⟨k, hk, rfl⟩ := List.mem_map.1 h
  have hk := List.mem_range.1 hk
  match k, hk with
  | 0, _ => exact w_13
  | 1, _ => exact w_14
  | 2, _ => exact w_15
  | 3, _ => exact w_16
  | 4, _ => exact w_17
  | 5, _ => exact w_18
  | 6, _ => exact w_19
  | 7, _ => exact w_20
  | 8, _ => exact w_21
  | 9, _ => exact w_22
  | n + 10, h => exact absurd h (by omega)
theorem lays_O : ∀ w ∈ u_ws "PaneScreen$Order" F_O 2, w ∈ TW := by
  intro w h
  obtain ⟨k, hk, rfl⟩ := List.mem_map.1 h
  have hk := List.mem_range.1 hk
  match k, hk with
  | 0, _ => exact w_23
  | 1, _ => exact w_24
  | n + 2, h => exact absurd h (by omega)
theorem lays_P : ∀ w ∈ u_ws "PaneScreen$Pane" F_P 8, w ∈ TW := by
  intro w h
  obtain ⟨k, hk, rfl⟩ := List.mem_map.1 h
  have hk := List.mem_range.1 hk
  match k, hk with
  | 0, _ => exact w_25
  | 1, _ => exact w_26
  | 2, _ => exact w_27
  | 3, _ => exact w_28
  | 4, _ => exact w_29
  | 5, _ => exact w_30
  | 6, _ => exact w_31
  | 7, _ => exact w_32
  | n + 8, h => exact absurd h (by omega)
theorem lays_T : ∀ w ∈ u_ws "PaneScreen$Store" F_T 3, w ∈ TW := by
  intro w h
  obtain ⟨k, hk, rfl⟩ := List.mem_map.1 h
  have hk := List.mem_range.1 hk
  match k, hk with
  | 0, _ => exact w_33
  | 1, _ => exact w_34
  | 2, _ => exact w_35
  | n + 3, h => exact absurd h (by omega)
theorem lays_M : ∀ w ∈ u_ws "PaneScreenModel" F_M 37, w ∈ TW := by
  intro w h
  obtain ⟨k, hk, rfl⟩ := List.mem_map.1 h
  have hk := List.mem_range.1 hk
  match k, hk with
  | 0, _ => exact w_36
  | 1, _ => exact w_37
  | 2, _ => exact w_38
  | 3, _ => exact w_39
  | 4, _ => exact w_40
  | 5, _ => exact w_41
  | 6, _ => exact w_42
  | 7, _ => exact w_43
  | 8, _ => exact w_44
  | 9, _ => exact w_45
  | 10, _ => exact w_46
  | 11, _ => exact w_47
  | 12, _ => exact w_48
  | 13, _ => exact w_49
  | 14, _ => exact w_50
  | 15, _ => exact w_51
  | 16, _ => exact w_52
  | 17, _ => exact w_53
  | 18, _ => exact w_54
  | 19, _ => exact w_55
  | 20, _ => exact w_56
  | 21, _ => exact w_57
  | 22, _ => exact w_58
  | 23, _ => exact w_59
  | 24, _ => exact w_60
  | 25, _ => exact w_61
  | 26, _ => exact w_62
  | 27, _ => exact w_63
  | 28, _ => exact w_64
  | 29, _ => exact w_65
  | 30, _ => exact w_66
  | 31, _ => exact w_67
  | 32, _ => exact w_68
  | 33, _ => exact w_69
  | 34, _ => exact w_70
  | 35, _ => exact w_71
  | 36, _ => exact w_72
  | n + 37, h => exact absurd h (by omega)
theorem gf_D_9 : gF "PaneScreen$Damage" 9 1 0 := ⟨"PaneScreen$Damage", "PaneScreen$Damage", F_D, 5, rfl, by decide, w_73, rfl, lays_D⟩
theorem gf_D_15 : gF "PaneScreen$Damage" 15 1 1 := ⟨"PaneScreen$Damage", "PaneScreen$Damage", F_D, 5, rfl, by decide, w_74, rfl, lays_D⟩
theorem gf_D_18 : gF "PaneScreen$Damage" 18 1 2 := ⟨"PaneScreen$Damage", "PaneScreen$Damage", F_D, 5, rfl, by decide, w_75, rfl, lays_D⟩
theorem gf_D_21 : gF "PaneScreen$Damage" 21 1 3 := ⟨"PaneScreen$Damage", "PaneScreen$Damage", F_D, 5, rfl, by decide, w_76, rfl, lays_D⟩
theorem gf_D_33 : gF "PaneScreen$Damage" 33 1 4 := ⟨"PaneScreen$Damage", "PaneScreen$Damage", F_D, 5, rfl, by decide, w_77, rfl, lays_D⟩
theorem gf_E_9 : gF "PaneScreen$EventLine" 9 2 0 := ⟨"PaneScreen$EventLine", "PaneScreen$EventLine", F_E, 10, rfl, by decide, w_78, rfl, lays_E⟩
theorem gf_E_15 : gF "PaneScreen$EventLine" 15 2 1 := ⟨"PaneScreen$EventLine", "PaneScreen$EventLine", F_E, 10, rfl, by decide, w_79, rfl, lays_E⟩
theorem gf_E_18 : gF "PaneScreen$EventLine" 18 2 2 := ⟨"PaneScreen$EventLine", "PaneScreen$EventLine", F_E, 10, rfl, by decide, w_80, rfl, lays_E⟩
theorem gf_E_21 : gF "PaneScreen$EventLine" 21 2 3 := ⟨"PaneScreen$EventLine", "PaneScreen$EventLine", F_E, 10, rfl, by decide, w_81, rfl, lays_E⟩
theorem gf_E_28 : gF "PaneScreen$EventLine" 28 2 4 := ⟨"PaneScreen$EventLine", "PaneScreen$EventLine", F_E, 10, rfl, by decide, w_82, rfl, lays_E⟩
theorem gf_E_31 : gF "PaneScreen$EventLine" 31 2 5 := ⟨"PaneScreen$EventLine", "PaneScreen$EventLine", F_E, 10, rfl, by decide, w_83, rfl, lays_E⟩
theorem gf_M_7 : gF "PaneScreenModel" 7 6 1 := ⟨"PaneScreenModel", "PaneScreenModel", F_M, 37, rfl, by decide, w_84, rfl, lays_M⟩
theorem gf_M_13 : gF "PaneScreenModel" 13 6 2 := ⟨"PaneScreenModel", "PaneScreenModel", F_M, 37, rfl, by decide, w_85, rfl, lays_M⟩
theorem gf_M_17 : gF "PaneScreenModel" 17 6 3 := ⟨"PaneScreenModel", "PaneScreenModel", F_M, 37, rfl, by decide, w_86, rfl, lays_M⟩
theorem gf_M_20 : gF "PaneScreenModel" 20 6 4 := ⟨"PaneScreenModel", "PaneScreenModel", F_M, 37, rfl, by decide, w_87, rfl, lays_M⟩
theorem gf_M_23 : gF "PaneScreenModel" 23 6 5 := ⟨"PaneScreenModel", "PaneScreenModel", F_M, 37, rfl, by decide, w_88, rfl, lays_M⟩
theorem gf_M_26 : gF "PaneScreenModel" 26 6 6 := ⟨"PaneScreenModel", "PaneScreenModel", F_M, 37, rfl, by decide, w_89, rfl, lays_M⟩
theorem gf_M_29 : gF "PaneScreenModel" 29 6 7 := ⟨"PaneScreenModel", "PaneScreenModel", F_M, 37, rfl, by decide, w_90, rfl, lays_M⟩
theorem gf_M_32 : gF "PaneScreenModel" 32 6 8 := ⟨"PaneScreenModel", "PaneScreenModel", F_M, 37, rfl, by decide, w_91, rfl, lays_M⟩
theorem gf_M_35 : gF "PaneScreenModel" 35 6 9 := ⟨"PaneScreenModel", "PaneScreenModel", F_M, 37, rfl, by decide, w_92, rfl, lays_M⟩
theorem gf_M_38 : gF "PaneScreenModel" 38 6 10 := ⟨"PaneScreenModel", "PaneScreenModel", F_M, 37, rfl, by decide, w_93, rfl, lays_M⟩
theorem gf_M_41 : gF "PaneScreenModel" 41 6 13 := ⟨"PaneScreenModel", "PaneScreenModel", F_M, 37, rfl, by decide, w_94, rfl, lays_M⟩
theorem gf_M_44 : gF "PaneScreenModel" 44 6 14 := ⟨"PaneScreenModel", "PaneScreenModel", F_M, 37, rfl, by decide, w_95, rfl, lays_M⟩
theorem gf_M_47 : gF "PaneScreenModel" 47 6 15 := ⟨"PaneScreenModel", "PaneScreenModel", F_M, 37, rfl, by decide, w_96, rfl, lays_M⟩
theorem gf_M_51 : gF "PaneScreenModel" 51 6 17 := ⟨"PaneScreenModel", "PaneScreenModel", F_M, 37, rfl, by decide, w_97, rfl, lays_M⟩
theorem gf_M_54 : gF "PaneScreenModel" 54 6 18 := ⟨"PaneScreenModel", "PaneScreenModel", F_M, 37, rfl, by decide, w_98, rfl, lays_M⟩
theorem gf_M_57 : gF "PaneScreenModel" 57 6 19 := ⟨"PaneScreenModel", "PaneScreenModel", F_M, 37, rfl, by decide, w_99, rfl, lays_M⟩
theorem gf_M_60 : gF "PaneScreenModel" 60 6 20 := ⟨"PaneScreenModel", "PaneScreenModel", F_M, 37, rfl, by decide, w_100, rfl, lays_M⟩
theorem gf_M_63 : gF "PaneScreenModel" 63 6 27 := ⟨"PaneScreenModel", "PaneScreenModel", F_M, 37, rfl, by decide, w_101, rfl, lays_M⟩
theorem gf_M_66 : gF "PaneScreenModel" 66 6 28 := ⟨"PaneScreenModel", "PaneScreenModel", F_M, 37, rfl, by decide, w_102, rfl, lays_M⟩
theorem gf_M_69 : gF "PaneScreenModel" 69 6 29 := ⟨"PaneScreenModel", "PaneScreenModel", F_M, 37, rfl, by decide, w_103, rfl, lays_M⟩
theorem gf_M_72 : gF "PaneScreenModel" 72 6 30 := ⟨"PaneScreenModel", "PaneScreenModel", F_M, 37, rfl, by decide, w_104, rfl, lays_M⟩
theorem gf_M_75 : gF "PaneScreenModel" 75 6 0 := ⟨"PaneScreenModel", "PaneScreenModel", F_M, 37, rfl, by decide, w_105, rfl, lays_M⟩
theorem gf_M_78 : gF "PaneScreenModel" 78 6 16 := ⟨"PaneScreenModel", "PaneScreenModel", F_M, 37, rfl, by decide, w_106, rfl, lays_M⟩
theorem gf_M_89 : gF "PaneScreenModel" 89 6 21 := ⟨"PaneScreenModel", "PaneScreenModel", F_M, 37, rfl, by decide, w_107, rfl, lays_M⟩
theorem gf_M_93 : gF "PaneScreenModel" 93 6 22 := ⟨"PaneScreenModel", "PaneScreenModel", F_M, 37, rfl, by decide, w_108, rfl, lays_M⟩
theorem gf_M_96 : gF "PaneScreenModel" 96 6 23 := ⟨"PaneScreenModel", "PaneScreenModel", F_M, 37, rfl, by decide, w_109, rfl, lays_M⟩
theorem gf_M_99 : gF "PaneScreenModel" 99 6 24 := ⟨"PaneScreenModel", "PaneScreenModel", F_M, 37, rfl, by decide, w_110, rfl, lays_M⟩
theorem gf_M_102 : gF "PaneScreenModel" 102 6 25 := ⟨"PaneScreenModel", "PaneScreenModel", F_M, 37, rfl, by decide, w_111, rfl, lays_M⟩
theorem gf_M_120 : gF "PaneScreenModel" 120 6 11 := ⟨"PaneScreenModel", "PaneScreenModel", F_M, 37, rfl, by decide, w_112, rfl, lays_M⟩
theorem gf_M_130 : gF "PaneScreenModel" 130 6 26 := ⟨"PaneScreenModel", "PaneScreenModel", F_M, 37, rfl, by decide, w_113, rfl, lays_M⟩
theorem gf_M_140 : gF "PaneScreenModel" 140 6 12 := ⟨"PaneScreenModel", "PaneScreenModel", F_M, 37, rfl, by decide, w_114, rfl, lays_M⟩
theorem gf_M_168 : gF "PaneScreenModel" 168 6 36 := ⟨"PaneScreenModel", "PaneScreenModel", F_M, 37, rfl, by decide, w_115, rfl, lays_M⟩
theorem gf_M_174 : gF "PaneScreenModel" 174 6 35 := ⟨"PaneScreenModel", "PaneScreenModel", F_M, 37, rfl, by decide, w_116, rfl, lays_M⟩
theorem gf_M_180 : gF "PaneScreenModel" 180 6 31 := ⟨"PaneScreenModel", "PaneScreenModel", F_M, 37, rfl, by decide, w_117, rfl, lays_M⟩
theorem gf_M_183 : gF "PaneScreenModel" 183 6 32 := ⟨"PaneScreenModel", "PaneScreenModel", F_M, 37, rfl, by decide, w_118, rfl, lays_M⟩
theorem gf_M_186 : gF "PaneScreenModel" 186 6 33 := ⟨"PaneScreenModel", "PaneScreenModel", F_M, 37, rfl, by decide, w_119, rfl, lays_M⟩
theorem gf_M_189 : gF "PaneScreenModel" 189 6 34 := ⟨"PaneScreenModel", "PaneScreenModel", F_M, 37, rfl, by decide, w_120, rfl, lays_M⟩
theorem gf_O_9 : gF "PaneScreen$Order" 9 3 0 := ⟨"PaneScreen$Order", "PaneScreen$Order", F_O, 2, rfl, by decide, w_121, rfl, lays_O⟩
theorem gf_O_15 : gF "PaneScreen$Order" 15 3 1 := ⟨"PaneScreen$Order", "PaneScreen$Order", F_O, 2, rfl, by decide, w_122, rfl, lays_O⟩
theorem gf_P_13 : gF "PaneScreen$Pane" 13 4 5 := ⟨"PaneScreen$Pane", "PaneScreen$Pane", F_P, 8, rfl, by decide, w_123, rfl, lays_P⟩
theorem gf_P_17 : gF "PaneScreen$Pane" 17 4 3 := ⟨"PaneScreen$Pane", "PaneScreen$Pane", F_P, 8, rfl, by decide, w_124, rfl, lays_P⟩
theorem gf_P_20 : gF "PaneScreen$Pane" 20 4 4 := ⟨"PaneScreen$Pane", "PaneScreen$Pane", F_P, 8, rfl, by decide, w_125, rfl, lays_P⟩
theorem gf_P_27 : gF "PaneScreen$Pane" 27 4 1 := ⟨"PaneScreen$Pane", "PaneScreen$Pane", F_P, 8, rfl, by decide, w_126, rfl, lays_P⟩
theorem gf_P_30 : gF "PaneScreen$Pane" 30 4 2 := ⟨"PaneScreen$Pane", "PaneScreen$Pane", F_P, 8, rfl, by decide, w_127, rfl, lays_P⟩
theorem gf_S_9 : gF "PaneScreen" 9 0 0 := ⟨"PaneScreen", "PaneScreen", F_S, 8, rfl, by decide, w_128, rfl, lays_S⟩
theorem gf_S_15 : gF "PaneScreen" 15 0 1 := ⟨"PaneScreen", "PaneScreen", F_S, 8, rfl, by decide, w_129, rfl, lays_S⟩
theorem gf_S_23 : gF "PaneScreen" 23 0 2 := ⟨"PaneScreen", "PaneScreen", F_S, 8, rfl, by decide, w_130, rfl, lays_S⟩
theorem gf_S_30 : gF "PaneScreen" 30 0 3 := ⟨"PaneScreen", "PaneScreen", F_S, 8, rfl, by decide, w_131, rfl, lays_S⟩
theorem gf_S_37 : gF "PaneScreen" 37 0 4 := ⟨"PaneScreen", "PaneScreen", F_S, 8, rfl, by decide, w_132, rfl, lays_S⟩
theorem gf_S_44 : gF "PaneScreen" 44 0 5 := ⟨"PaneScreen", "PaneScreen", F_S, 8, rfl, by decide, w_133, rfl, lays_S⟩
theorem gf_S_48 : gF "PaneScreen" 48 0 6 := ⟨"PaneScreen", "PaneScreen", F_S, 8, rfl, by decide, w_134, rfl, lays_S⟩
theorem gf_S_52 : gF "PaneScreen" 52 0 7 := ⟨"PaneScreen", "PaneScreen", F_S, 8, rfl, by decide, w_135, rfl, lays_S⟩
theorem gf_S_95 : gF "PaneScreen" 95 4 5 := ⟨"PaneScreen$Pane", "PaneScreen$Pane", F_P, 8, rfl, by decide, w_136, rfl, lays_P⟩
theorem gf_S_98 : gF "PaneScreen" 98 4 3 := ⟨"PaneScreen$Pane", "PaneScreen$Pane", F_P, 8, rfl, by decide, w_137, rfl, lays_P⟩
theorem gf_S_101 : gF "PaneScreen" 101 4 4 := ⟨"PaneScreen$Pane", "PaneScreen$Pane", F_P, 8, rfl, by decide, w_138, rfl, lays_P⟩
theorem gf_S_130 : gF "PaneScreen" 130 5 0 := ⟨"PaneScreen$Store", "PaneScreen$Store", F_T, 3, rfl, by decide, w_139, rfl, lays_T⟩
theorem gf_S_162 : gF "PaneScreen" 162 5 1 := ⟨"PaneScreen$Store", "PaneScreen$Store", F_T, 3, rfl, by decide, w_140, rfl, lays_T⟩
theorem gf_S_186 : gF "PaneScreen" 186 4 1 := ⟨"PaneScreen$Pane", "PaneScreen$Pane", F_P, 8, rfl, by decide, w_141, rfl, lays_P⟩
theorem gf_S_189 : gF "PaneScreen" 189 4 2 := ⟨"PaneScreen$Pane", "PaneScreen$Pane", F_P, 8, rfl, by decide, w_142, rfl, lays_P⟩
theorem gf_S_196 : gF "PaneScreen" 196 2 4 := ⟨"PaneScreen$EventLine", "PaneScreen$EventLine", F_E, 10, rfl, by decide, w_143, rfl, lays_E⟩
theorem gf_S_205 : gF "PaneScreen" 205 2 6 := ⟨"PaneScreen$EventLine", "PaneScreen$EventLine", F_E, 10, rfl, by decide, w_144, rfl, lays_E⟩
theorem gf_S_208 : gF "PaneScreen" 208 2 7 := ⟨"PaneScreen$EventLine", "PaneScreen$EventLine", F_E, 10, rfl, by decide, w_145, rfl, lays_E⟩
theorem gf_S_211 : gF "PaneScreen" 211 2 8 := ⟨"PaneScreen$EventLine", "PaneScreen$EventLine", F_E, 10, rfl, by decide, w_146, rfl, lays_E⟩
theorem gf_S_214 : gF "PaneScreen" 214 2 9 := ⟨"PaneScreen$EventLine", "PaneScreen$EventLine", F_E, 10, rfl, by decide, w_147, rfl, lays_E⟩
theorem gf_S_220 : gF "PaneScreen" 220 3 1 := ⟨"PaneScreen$Order", "PaneScreen$Order", F_O, 2, rfl, by decide, w_148, rfl, lays_O⟩
theorem gf_S_227 : gF "PaneScreen" 227 1 4 := ⟨"PaneScreen$Damage", "PaneScreen$Damage", F_D, 5, rfl, by decide, w_149, rfl, lays_D⟩
theorem gf_S_228 : gF "PaneScreen" 228 2 5 := ⟨"PaneScreen$EventLine", "PaneScreen$EventLine", F_E, 10, rfl, by decide, w_150, rfl, lays_E⟩
theorem gf_S_231 : gF "PaneScreen" 231 4 0 := ⟨"PaneScreen$Pane", "PaneScreen$Pane", F_P, 8, rfl, by decide, w_151, rfl, lays_P⟩
theorem gf_S_235 : gF "PaneScreen" 235 3 0 := ⟨"PaneScreen$Order", "PaneScreen$Order", F_O, 2, rfl, by decide, w_152, rfl, lays_O⟩
theorem gf_S_250 : gF "PaneScreen" 250 4 6 := ⟨"PaneScreen$Pane", "PaneScreen$Pane", F_P, 8, rfl, by decide, w_153, rfl, lays_P⟩
theorem gf_S_253 : gF "PaneScreen" 253 4 7 := ⟨"PaneScreen$Pane", "PaneScreen$Pane", F_P, 8, rfl, by decide, w_154, rfl, lays_P⟩
theorem gf_T_9 : gF "PaneScreen$Store" 9 5 0 := ⟨"PaneScreen$Store", "PaneScreen$Store", F_T, 3, rfl, by decide, w_155, rfl, lays_T⟩
theorem gf_T_15 : gF "PaneScreen$Store" 15 5 1 := ⟨"PaneScreen$Store", "PaneScreen$Store", F_T, 3, rfl, by decide, w_156, rfl, lays_T⟩
theorem gf_T_18 : gF "PaneScreen$Store" 18 5 2 := ⟨"PaneScreen$Store", "PaneScreen$Store", F_T, 3, rfl, by decide, w_157, rfl, lays_T⟩
theorem gp_D_33 : gFP "PaneScreen$Damage" 33 1 4 .int := ⟨"PaneScreen$Damage", "PaneScreen$Damage", F_D, 5, ty_D, rfl, by decide, w_77, rfl, lays_D, ty_D_ok, nm_D, rfl, ty_D_ok 4 (by decide)⟩
theorem gp_E_24 : gFP "PaneScreen$EventLine" 24 2 6 .int := ⟨"PaneScreen$EventLine", "PaneScreen$EventLine", F_E, 10, ty_E, rfl, by decide, w_158, rfl, lays_E, ty_E_ok, nm_E, rfl, ty_E_ok 6 (by decide)⟩
theorem gp_E_28 : gFP "PaneScreen$EventLine" 28 2 4 .int := ⟨"PaneScreen$EventLine", "PaneScreen$EventLine", F_E, 10, ty_E, rfl, by decide, w_82, rfl, lays_E, ty_E_ok, nm_E, rfl, ty_E_ok 4 (by decide)⟩
theorem gp_E_31 : gFP "PaneScreen$EventLine" 31 2 5 .int := ⟨"PaneScreen$EventLine", "PaneScreen$EventLine", F_E, 10, ty_E, rfl, by decide, w_83, rfl, lays_E, ty_E_ok, nm_E, rfl, ty_E_ok 5 (by decide)⟩
theorem gp_E_34 : gFP "PaneScreen$EventLine" 34 2 7 .int := ⟨"PaneScreen$EventLine", "PaneScreen$EventLine", F_E, 10, ty_E, rfl, by decide, w_159, rfl, lays_E, ty_E_ok, nm_E, rfl, ty_E_ok 7 (by decide)⟩
theorem gp_E_37 : gFP "PaneScreen$EventLine" 37 2 8 .int := ⟨"PaneScreen$EventLine", "PaneScreen$EventLine", F_E, 10, ty_E, rfl, by decide, w_160, rfl, lays_E, ty_E_ok, nm_E, rfl, ty_E_ok 8 (by decide)⟩
theorem gp_E_40 : gFP "PaneScreen$EventLine" 40 2 9 .int := ⟨"PaneScreen$EventLine", "PaneScreen$EventLine", F_E, 10, ty_E, rfl, by decide, w_161, rfl, lays_E, ty_E_ok, nm_E, rfl, ty_E_ok 9 (by decide)⟩
theorem gp_M_47 : gFP "PaneScreenModel" 47 6 15 .int := ⟨"PaneScreenModel", "PaneScreenModel", F_M, 37, ty_M, rfl, by decide, w_96, rfl, lays_M, ty_M_ok, nm_M, rfl, ty_M_ok 15 (by decide)⟩
theorem gp_M_75 : gFP "PaneScreenModel" 75 6 0 .int := ⟨"PaneScreenModel", "PaneScreenModel", F_M, 37, ty_M, rfl, by decide, w_105, rfl, lays_M, ty_M_ok, nm_M, rfl, ty_M_ok 0 (by decide)⟩
theorem gp_M_78 : gFP "PaneScreenModel" 78 6 16 .int := ⟨"PaneScreenModel", "PaneScreenModel", F_M, 37, ty_M, rfl, by decide, w_106, rfl, lays_M, ty_M_ok, nm_M, rfl, ty_M_ok 16 (by decide)⟩
theorem gp_M_89 : gFP "PaneScreenModel" 89 6 21 .boolean := ⟨"PaneScreenModel", "PaneScreenModel", F_M, 37, ty_M, rfl, by decide, w_107, rfl, lays_M, ty_M_ok, nm_M, rfl, ty_M_ok 21 (by decide)⟩
theorem gp_M_93 : gFP "PaneScreenModel" 93 6 22 .int := ⟨"PaneScreenModel", "PaneScreenModel", F_M, 37, ty_M, rfl, by decide, w_108, rfl, lays_M, ty_M_ok, nm_M, rfl, ty_M_ok 22 (by decide)⟩
theorem gp_M_96 : gFP "PaneScreenModel" 96 6 23 .int := ⟨"PaneScreenModel", "PaneScreenModel", F_M, 37, ty_M, rfl, by decide, w_109, rfl, lays_M, ty_M_ok, nm_M, rfl, ty_M_ok 23 (by decide)⟩
theorem gp_M_99 : gFP "PaneScreenModel" 99 6 24 .int := ⟨"PaneScreenModel", "PaneScreenModel", F_M, 37, ty_M, rfl, by decide, w_110, rfl, lays_M, ty_M_ok, nm_M, rfl, ty_M_ok 24 (by decide)⟩
theorem gp_M_102 : gFP "PaneScreenModel" 102 6 25 .int := ⟨"PaneScreenModel", "PaneScreenModel", F_M, 37, ty_M, rfl, by decide, w_111, rfl, lays_M, ty_M_ok, nm_M, rfl, ty_M_ok 25 (by decide)⟩
theorem gp_M_120 : gFP "PaneScreenModel" 120 6 11 .int := ⟨"PaneScreenModel", "PaneScreenModel", F_M, 37, ty_M, rfl, by decide, w_112, rfl, lays_M, ty_M_ok, nm_M, rfl, ty_M_ok 11 (by decide)⟩
theorem gp_M_130 : gFP "PaneScreenModel" 130 6 26 .int := ⟨"PaneScreenModel", "PaneScreenModel", F_M, 37, ty_M, rfl, by decide, w_113, rfl, lays_M, ty_M_ok, nm_M, rfl, ty_M_ok 26 (by decide)⟩
theorem gp_M_140 : gFP "PaneScreenModel" 140 6 12 .int := ⟨"PaneScreenModel", "PaneScreenModel", F_M, 37, ty_M, rfl, by decide, w_114, rfl, lays_M, ty_M_ok, nm_M, rfl, ty_M_ok 12 (by decide)⟩
theorem gp_M_168 : gFP "PaneScreenModel" 168 6 36 .int := ⟨"PaneScreenModel", "PaneScreenModel", F_M, 37, ty_M, rfl, by decide, w_115, rfl, lays_M, ty_M_ok, nm_M, rfl, ty_M_ok 36 (by decide)⟩
theorem gp_M_174 : gFP "PaneScreenModel" 174 6 35 .int := ⟨"PaneScreenModel", "PaneScreenModel", F_M, 37, ty_M, rfl, by decide, w_116, rfl, lays_M, ty_M_ok, nm_M, rfl, ty_M_ok 35 (by decide)⟩
theorem gp_M_180 : gFP "PaneScreenModel" 180 6 31 .boolean := ⟨"PaneScreenModel", "PaneScreenModel", F_M, 37, ty_M, rfl, by decide, w_117, rfl, lays_M, ty_M_ok, nm_M, rfl, ty_M_ok 31 (by decide)⟩
theorem gp_M_183 : gFP "PaneScreenModel" 183 6 32 .int := ⟨"PaneScreenModel", "PaneScreenModel", F_M, 37, ty_M, rfl, by decide, w_118, rfl, lays_M, ty_M_ok, nm_M, rfl, ty_M_ok 32 (by decide)⟩
theorem gp_M_186 : gFP "PaneScreenModel" 186 6 33 .int := ⟨"PaneScreenModel", "PaneScreenModel", F_M, 37, ty_M, rfl, by decide, w_119, rfl, lays_M, ty_M_ok, nm_M, rfl, ty_M_ok 33 (by decide)⟩
theorem gp_M_189 : gFP "PaneScreenModel" 189 6 34 .int := ⟨"PaneScreenModel", "PaneScreenModel", F_M, 37, ty_M, rfl, by decide, w_120, rfl, lays_M, ty_M_ok, nm_M, rfl, ty_M_ok 34 (by decide)⟩
theorem gp_O_15 : gFP "PaneScreen$Order" 15 3 1 .int := ⟨"PaneScreen$Order", "PaneScreen$Order", F_O, 2, ty_O, rfl, by decide, w_122, rfl, lays_O, ty_O_ok, nm_O, rfl, ty_O_ok 1 (by decide)⟩
theorem gp_P_7 : gFP "PaneScreen$Pane" 7 4 0 .boolean := ⟨"PaneScreen$Pane", "PaneScreen$Pane", F_P, 8, ty_P, rfl, by decide, w_162, rfl, lays_P, ty_P_ok, nm_P, rfl, ty_P_ok 0 (by decide)⟩
theorem gp_P_13 : gFP "PaneScreen$Pane" 13 4 5 .int := ⟨"PaneScreen$Pane", "PaneScreen$Pane", F_P, 8, ty_P, rfl, by decide, w_123, rfl, lays_P, ty_P_ok, nm_P, rfl, ty_P_ok 5 (by decide)⟩
theorem gp_P_17 : gFP "PaneScreen$Pane" 17 4 3 .int := ⟨"PaneScreen$Pane", "PaneScreen$Pane", F_P, 8, ty_P, rfl, by decide, w_124, rfl, lays_P, ty_P_ok, nm_P, rfl, ty_P_ok 3 (by decide)⟩
theorem gp_P_20 : gFP "PaneScreen$Pane" 20 4 4 .int := ⟨"PaneScreen$Pane", "PaneScreen$Pane", F_P, 8, ty_P, rfl, by decide, w_125, rfl, lays_P, ty_P_ok, nm_P, rfl, ty_P_ok 4 (by decide)⟩
theorem gp_P_27 : gFP "PaneScreen$Pane" 27 4 1 .int := ⟨"PaneScreen$Pane", "PaneScreen$Pane", F_P, 8, ty_P, rfl, by decide, w_126, rfl, lays_P, ty_P_ok, nm_P, rfl, ty_P_ok 1 (by decide)⟩
theorem gp_P_30 : gFP "PaneScreen$Pane" 30 4 2 .int := ⟨"PaneScreen$Pane", "PaneScreen$Pane", F_P, 8, ty_P, rfl, by decide, w_127, rfl, lays_P, ty_P_ok, nm_P, rfl, ty_P_ok 2 (by decide)⟩
theorem gp_P_33 : gFP "PaneScreen$Pane" 33 4 6 .int := ⟨"PaneScreen$Pane", "PaneScreen$Pane", F_P, 8, ty_P, rfl, by decide, w_163, rfl, lays_P, ty_P_ok, nm_P, rfl, ty_P_ok 6 (by decide)⟩
theorem gp_P_36 : gFP "PaneScreen$Pane" 36 4 7 .int := ⟨"PaneScreen$Pane", "PaneScreen$Pane", F_P, 8, ty_P, rfl, by decide, w_164, rfl, lays_P, ty_P_ok, nm_P, rfl, ty_P_ok 7 (by decide)⟩
theorem gp_S_48 : gFP "PaneScreen" 48 0 6 .int := ⟨"PaneScreen", "PaneScreen", F_S, 8, ty_S, rfl, by decide, w_134, rfl, lays_S, ty_S_ok, nm_S, rfl, ty_S_ok 6 (by decide)⟩
theorem gp_S_52 : gFP "PaneScreen" 52 0 7 .int := ⟨"PaneScreen", "PaneScreen", F_S, 8, ty_S, rfl, by decide, w_135, rfl, lays_S, ty_S_ok, nm_S, rfl, ty_S_ok 7 (by decide)⟩
theorem gw_D_37 : gWV "PaneScreen$Damage" 37 y_D_put b_D_put 6 none 5 := ⟨gGood TW_good (fun w hw => by
  simp only [List.mem_cons, List.not_mem_nil, or_false] at hw
  rcases hw with rfl | rfl | rfl | rfl
  · exact w_165
  · exact w_166
  · exact w_167
  · exact w_168) w_169, by decide, by decide, by decide +kernel⟩
theorem gw_D_41 : gWV "PaneScreen$Damage" 41 y_D_joinAllWith b_D_joinAllWith 10 none 4 := ⟨gGood TW_good (fun w hw => by
  simp only [List.mem_cons, List.not_mem_nil, or_false] at hw
  rcases hw with rfl | rfl | rfl | rfl
  · exact w_170
  · exact w_171
  · exact w_172
  · exact w_168) w_173, by decide, by decide, by decide +kernel⟩
theorem gw_E_43 : gWV "PaneScreen$EventLine" 43 y_E_copy b_E_copy 3 none 2 := ⟨gGood TW_good (fun w hw => by
  simp only [List.mem_cons, List.not_mem_nil, or_false] at hw
  rcases hw with rfl | rfl | rfl | rfl
  · exact w_174
  · exact w_175
  · exact w_176
  · exact w_177) w_178, by decide, by decide, by decide +kernel⟩
theorem gw_M_81 : gWV "PaneScreenModel" 81 y_M_damage b_M_damage 10 none 4 := ⟨gGood TW_good (fun w hw => by
  simp only [List.mem_cons, List.not_mem_nil, or_false] at hw
  rcases hw with rfl | rfl | rfl | rfl
  · exact w_179
  · exact w_180
  · exact w_181
  · exact w_182) w_183, by decide, by decide, by decide +kernel⟩
theorem gw_M_85 : gWV "PaneScreenModel" 85 y_M_inPicture b_M_inPicture 4 (some .boolean) 3 := ⟨gGood TW_good (fun w hw => by
  simp only [List.mem_cons, List.not_mem_nil, or_false] at hw
  rcases hw with rfl | rfl | rfl | rfl
  · exact w_184
  · exact w_185
  · exact w_186
  · exact w_182) w_187, by decide, by decide, by decide +kernel⟩
theorem gw_M_105 : gWV "PaneScreenModel" 105 y_M_isFree b_M_isFree 4 (some .boolean) 1 := ⟨gGood TW_good (fun w hw => by
  simp only [List.mem_cons, List.not_mem_nil, or_false] at hw
  rcases hw with rfl | rfl | rfl | rfl
  · exact w_188
  · exact w_189
  · exact w_190
  · exact w_182) w_191, by decide, by decide, by decide +kernel⟩
theorem gw_M_109 : gWS "PaneScreenModel" 109 y_M_near b_M_near 1 (some .boolean) 1 := ⟨gGood TW_good (fun w hw => by
  simp only [List.mem_cons, List.not_mem_nil, or_false] at hw
  rcases hw with rfl | rfl | rfl
  · exact w_192
  · exact w_193
  · exact w_182) w_194, by decide, by decide, by decide +kernel⟩
theorem gw_M_112 : gWV "PaneScreenModel" 112 y_M_stretch b_M_stretch 4 (some .int) 1 := ⟨gGood TW_good (fun w hw => by
  simp only [List.mem_cons, List.not_mem_nil, or_false] at hw
  rcases hw with rfl | rfl | rfl | rfl
  · exact w_195
  · exact w_196
  · exact w_197
  · exact w_182) w_198, by decide, by decide, by decide +kernel⟩
theorem gw_M_116 : gWV "PaneScreenModel" 116 y_M_firstClosed b_M_firstClosed 2 (some .int) 0 := ⟨gGood TW_good (fun w hw => by
  simp only [List.mem_cons, List.not_mem_nil, or_false] at hw
  rcases hw with rfl | rfl | rfl | rfl
  · exact w_199
  · exact w_200
  · exact w_201
  · exact w_182) w_202, by decide, by decide, by decide +kernel⟩
theorem gw_M_123 : gWV "PaneScreenModel" 123 y_M_damageFrame b_M_damageFrame 2 none 1 := ⟨gGood TW_good (fun w hw => by
  simp only [List.mem_cons, List.not_mem_nil, or_false] at hw
  rcases hw with rfl | rfl | rfl | rfl
  · exact w_203
  · exact w_204
  · exact w_205
  · exact w_182) w_206, by decide, by decide, by decide +kernel⟩
theorem gw_M_127 : gWV "PaneScreenModel" 127 y_M_isOpen b_M_isOpen 2 (some .boolean) 1 := ⟨gGood TW_good (fun w hw => by
  simp only [List.mem_cons, List.not_mem_nil, or_false] at hw
  rcases hw with rfl | rfl | rfl | rfl
  · exact w_207
  · exact w_208
  · exact w_209
  · exact w_182) w_210, by decide, by decide, by decide +kernel⟩
theorem gw_M_133 : gWV "PaneScreenModel" 133 y_M_moveEvent b_M_moveEvent 3 none 2 := ⟨gGood TW_good (fun w hw => by
  simp only [List.mem_cons, List.not_mem_nil, or_false] at hw
  rcases hw with rfl | rfl | rfl | rfl
  · exact w_211
  · exact w_212
  · exact w_213
  · exact w_182) w_214, by decide, by decide, by decide +kernel⟩
theorem gw_M_137 : gWV "PaneScreenModel" 137 y_M_foremost b_M_foremost 3 (some .int) 0 := ⟨gGood TW_good (fun w hw => by
  simp only [List.mem_cons, List.not_mem_nil, or_false] at hw
  rcases hw with rfl | rfl | rfl | rfl
  · exact w_215
  · exact w_216
  · exact w_217
  · exact w_182) w_218, by decide, by decide, by decide +kernel⟩
theorem gw_M_143 : gWV "PaneScreenModel" 143 y_M_lift b_M_lift 5 (some .boolean) 2 := ⟨gGood TW_good (fun w hw => by
  simp only [List.mem_cons, List.not_mem_nil, or_false] at hw
  rcases hw with rfl | rfl | rfl | rfl
  · exact w_219
  · exact w_220
  · exact w_221
  · exact w_182) w_222, by decide, by decide, by decide +kernel⟩
theorem gw_M_147 : gWS "PaneScreenModel" 147 y_M_colour b_M_colour 1 (some .boolean) 1 := ⟨gGood TW_good (fun w hw => by
  simp only [List.mem_cons, List.not_mem_nil, or_false] at hw
  rcases hw with rfl | rfl | rfl
  · exact w_223
  · exact w_224
  · exact w_182) w_225, by decide, by decide, by decide +kernel⟩
theorem gw_M_150 : gWV "PaneScreenModel" 150 y_M_paint b_M_paint 5 (some .boolean) 4 := ⟨gGood TW_good (fun w hw => by
  simp only [List.mem_cons, List.not_mem_nil, or_false] at hw
  rcases hw with rfl | rfl | rfl | rfl
  · exact w_226
  · exact w_227
  · exact w_228
  · exact w_182) w_229, by decide, by decide, by decide +kernel⟩
theorem gw_M_154 : gWV "PaneScreenModel" 154 y_M_damageChanged b_M_damageChanged 2 none 1 := ⟨gGood TW_good (fun w hw => by
  simp only [List.mem_cons, List.not_mem_nil, or_false] at hw
  rcases hw with rfl | rfl | rfl | rfl
  · exact w_230
  · exact w_231
  · exact w_232
  · exact w_182) w_233, by decide, by decide, by decide +kernel⟩
theorem gw_M_157 : gWS "PaneScreenModel" 157 y_M_div b_M_div 3 (some .int) 2 := ⟨gGood TW_good (fun w hw => by
  simp only [List.mem_cons, List.not_mem_nil, or_false] at hw
  rcases hw with rfl | rfl | rfl
  · exact w_234
  · exact w_235
  · exact w_182) w_236, by decide, by decide, by decide +kernel⟩
theorem gw_M_161 : gWV "PaneScreenModel" 161 y_M_isDamaged b_M_isDamaged 5 (some .boolean) 2 := ⟨gGood TW_good (fun w hw => by
  simp only [List.mem_cons, List.not_mem_nil, or_false] at hw
  rcases hw with rfl | rfl | rfl | rfl
  · exact w_237
  · exact w_238
  · exact w_239
  · exact w_182) w_240, by decide, by decide, by decide +kernel⟩
theorem gw_M_165 : gWV "PaneScreenModel" 165 y_M_owner b_M_owner 6 (some .int) 2 := ⟨gGood TW_good (fun w hw => by
  simp only [List.mem_cons, List.not_mem_nil, or_false] at hw
  rcases hw with rfl | rfl | rfl | rfl
  · exact w_241
  · exact w_242
  · exact w_243
  · exact w_182) w_244, by decide, by decide, by decide +kernel⟩
theorem gw_M_171 : gWS "PaneScreenModel" 171 y_M_onScreen b_M_onScreen 2 (some .boolean) 2 := ⟨gGood TW_good (fun w hw => by
  simp only [List.mem_cons, List.not_mem_nil, or_false] at hw
  rcases hw with rfl | rfl | rfl
  · exact w_245
  · exact w_246
  · exact w_182) w_247, by decide, by decide, by decide +kernel⟩
theorem gw_M_177 : gWV "PaneScreenModel" 177 y_M_tell b_M_tell 5 none 4 := ⟨gGood TW_good (fun w hw => by
  simp only [List.mem_cons, List.not_mem_nil, or_false] at hw
  rcases hw with rfl | rfl | rfl | rfl
  · exact w_248
  · exact w_249
  · exact w_250
  · exact w_182) w_251, by decide, by decide, by decide +kernel⟩
theorem gw_M_192 : gWV "PaneScreenModel" 192 y_M_openOnes b_M_openOnes 3 (some .int) 0 := ⟨gGood TW_good (fun w hw => by
  simp only [List.mem_cons, List.not_mem_nil, or_false] at hw
  rcases hw with rfl | rfl | rfl | rfl
  · exact w_252
  · exact w_253
  · exact w_254
  · exact w_182) w_255, by decide, by decide, by decide +kernel⟩
theorem gw_M_195 : gWV "PaneScreenModel" 195 y_M_freeCells b_M_freeCells 7 (some .int) 1 := ⟨gGood TW_good (fun w hw => by
  simp only [List.mem_cons, List.not_mem_nil, or_false] at hw
  rcases hw with rfl | rfl | rfl | rfl
  · exact w_256
  · exact w_257
  · exact w_258
  · exact w_182) w_259, by decide, by decide, by decide +kernel⟩
theorem gw_P_23 : gWV "PaneScreen$Pane" 23 y_P_putPen b_P_putPen 3 none 2 := ⟨gGood TW_good (fun w hw => by
  simp only [List.mem_cons, List.not_mem_nil, or_false] at hw
  rcases hw with rfl | rfl | rfl | rfl
  · exact w_260
  · exact w_261
  · exact w_262
  · exact w_263) w_264, by decide, by decide, by decide +kernel⟩
theorem gw_P_39 : gWV "PaneScreen$Pane" 39 y_P_has b_P_has 3 (some .boolean) 2 := ⟨gGood TW_good (fun w hw => by
  simp only [List.mem_cons, List.not_mem_nil, or_false] at hw
  rcases hw with rfl | rfl | rfl | rfl
  · exact w_265
  · exact w_266
  · exact w_267
  · exact w_263) w_268, by decide, by decide, by decide +kernel⟩
theorem gw_S_55 : gWS "PaneScreen" 55 y_S_requireNear b_S_requireNear 2 none 2 := ⟨gGood TW_good (fun w hw => by
  simp only [List.mem_cons, List.not_mem_nil, or_false] at hw
  rcases hw with rfl | rfl | rfl
  · exact w_269
  · exact w_270
  · exact w_271) w_272, by decide, by decide, by decide +kernel⟩
theorem gw_S_59 : gWS "PaneScreen" 59 y_S_requireSize b_S_requireSize 2 none 2 := ⟨gGood TW_good (fun w hw => by
  simp only [List.mem_cons, List.not_mem_nil, or_false] at hw
  rcases hw with rfl | rfl | rfl
  · exact w_273
  · exact w_274
  · exact w_271) w_275, by decide, by decide, by decide +kernel⟩
theorem gw_S_62 : gWV "PaneScreen" 62 y_S_leastClosed b_S_leastClosed 2 (some .int) 0 := ⟨gGood TW_good (fun w hw => by
  simp only [List.mem_cons, List.not_mem_nil, or_false] at hw
  rcases hw with rfl | rfl | rfl | rfl
  · exact w_276
  · exact w_277
  · exact w_278
  · exact w_271) w_279, by decide, by decide, by decide +kernel⟩
theorem gw_S_66 : gWV "PaneScreen" 66 y_T_firstFree b_T_firstFree 4 (some .int) 1 := ⟨gGood TW_good (fun w hw => by
  simp only [List.mem_cons, List.not_mem_nil, or_false] at hw
  rcases hw with rfl | rfl | rfl | rfl
  · exact w_280
  · exact w_281
  · exact w_282
  · exact w_283) w_284, by decide, by decide, by decide +kernel⟩
theorem gw_S_73 : gWV "PaneScreen" 73 y_T_take b_T_take 4 none 2 := ⟨gGood TW_good (fun w hw => by
  simp only [List.mem_cons, List.not_mem_nil, or_false] at hw
  rcases hw with rfl | rfl | rfl | rfl
  · exact w_285
  · exact w_286
  · exact w_287
  · exact w_283) w_288, by decide, by decide, by decide +kernel⟩
theorem gw_S_76 : gWV "PaneScreen" 76 y_P_begin b_P_begin 4 none 3 := ⟨gGood TW_good (fun w hw => by
  simp only [List.mem_cons, List.not_mem_nil, or_false] at hw
  rcases hw with rfl | rfl | rfl | rfl
  · exact w_289
  · exact w_290
  · exact w_291
  · exact w_263) w_292, by decide, by decide, by decide +kernel⟩
theorem gw_S_80 : gWV "PaneScreen" 80 y_P_place b_P_place 3 none 2 := ⟨gGood TW_good (fun w hw => by
  simp only [List.mem_cons, List.not_mem_nil, or_false] at hw
  rcases hw with rfl | rfl | rfl | rfl
  · exact w_293
  · exact w_294
  · exact w_295
  · exact w_263) w_296, by decide, by decide, by decide +kernel⟩
theorem gw_S_83 : gWV "PaneScreen" 83 y_O_addInFront b_O_addInFront 3 none 1 := ⟨gGood TW_good (fun w hw => by
  simp only [List.mem_cons, List.not_mem_nil, or_false] at hw
  rcases hw with rfl | rfl | rfl | rfl
  · exact w_297
  · exact w_298
  · exact w_299
  · exact w_300) w_301, by decide, by decide, by decide +kernel⟩
theorem gw_S_87 : gWV "PaneScreen" 87 y_S_damageFrame b_S_damageFrame 2 none 1 := ⟨gGood TW_good (fun w hw => by
  simp only [List.mem_cons, List.not_mem_nil, or_false] at hw
  rcases hw with rfl | rfl | rfl | rfl
  · exact w_302
  · exact w_303
  · exact w_304
  · exact w_271) w_305, by decide, by decide, by decide +kernel⟩
theorem gw_S_91 : gWV "PaneScreen" 91 y_S_openPane b_S_openPane 2 (some (.object "PaneScreen$Pane")) 1 := ⟨gGood TW_good (fun w hw => by
  simp only [List.mem_cons, List.not_mem_nil, or_false] at hw
  rcases hw with rfl | rfl | rfl | rfl
  · exact w_306
  · exact w_307
  · exact w_308
  · exact w_271) w_309, by decide, by decide, by decide +kernel⟩
theorem gw_S_104 : gWV "PaneScreen" 104 y_T_release b_T_release 4 none 2 := ⟨gGood TW_good (fun w hw => by
  simp only [List.mem_cons, List.not_mem_nil, or_false] at hw
  rcases hw with rfl | rfl | rfl | rfl
  · exact w_310
  · exact w_311
  · exact w_312
  · exact w_283) w_313, by decide, by decide, by decide +kernel⟩
theorem gw_S_107 : gWV "PaneScreen" 107 y_P_end b_P_end 1 none 0 := ⟨gGood TW_good (fun w hw => by
  simp only [List.mem_cons, List.not_mem_nil, or_false] at hw
  rcases hw with rfl | rfl | rfl | rfl
  · exact w_314
  · exact w_315
  · exact w_316
  · exact w_263) w_317, by decide, by decide, by decide +kernel⟩
theorem gw_S_110 : gWV "PaneScreen" 110 y_O_remove b_O_remove 4 none 1 := ⟨gGood TW_good (fun w hw => by
  simp only [List.mem_cons, List.not_mem_nil, or_false] at hw
  rcases hw with rfl | rfl | rfl | rfl
  · exact w_318
  · exact w_319
  · exact w_320
  · exact w_300) w_321, by decide, by decide, by decide +kernel⟩
theorem gw_S_113 : gWV "PaneScreen" 113 y_E_removeAllOf b_E_removeAllOf 4 none 1 := ⟨gGood TW_good (fun w hw => by
  simp only [List.mem_cons, List.not_mem_nil, or_false] at hw
  rcases hw with rfl | rfl | rfl | rfl
  · exact w_322
  · exact w_323
  · exact w_324
  · exact w_177) w_325, by decide, by decide, by decide +kernel⟩
theorem gw_S_116 : gWV "PaneScreen" 116 y_O_first b_O_first 1 (some .int) 0 := ⟨gGood TW_good (fun w hw => by
  simp only [List.mem_cons, List.not_mem_nil, or_false] at hw
  rcases hw with rfl | rfl | rfl | rfl
  · exact w_326
  · exact w_327
  · exact w_328
  · exact w_300) w_329, by decide, by decide, by decide +kernel⟩
theorem gw_S_119 : gWV "PaneScreen" 119 y_S_reorder b_S_reorder 5 (some .boolean) 3 := ⟨gGood TW_good (fun w hw => by
  simp only [List.mem_cons, List.not_mem_nil, or_false] at hw
  rcases hw with rfl | rfl | rfl | rfl
  · exact w_330
  · exact w_331
  · exact w_332
  · exact w_271) w_333, by decide, by decide, by decide +kernel⟩
theorem gw_S_123 : gWS "PaneScreen" 123 y_S_requireColour b_S_requireColour 1 none 1 := ⟨gGood TW_good (fun w hw => by
  simp only [List.mem_cons, List.not_mem_nil, or_false] at hw
  rcases hw with rfl | rfl | rfl
  · exact w_334
  · exact w_335
  · exact w_271) w_336, by decide, by decide, by decide +kernel⟩
theorem gw_S_126 : gWV "PaneScreen" 126 y_P_has b_P_has 3 (some .boolean) 2 := ⟨gGood TW_good (fun w hw => by
  simp only [List.mem_cons, List.not_mem_nil, or_false] at hw
  rcases hw with rfl | rfl | rfl | rfl
  · exact w_337
  · exact w_266
  · exact w_267
  · exact w_263) w_268, by decide, by decide, by decide +kernel⟩
theorem gw_S_133 : gWV "PaneScreen" 133 y_P_cell b_P_cell 3 (some .int) 2 := ⟨gGood TW_good (fun w hw => by
  simp only [List.mem_cons, List.not_mem_nil, or_false] at hw
  rcases hw with rfl | rfl | rfl | rfl
  · exact w_338
  · exact w_339
  · exact w_340
  · exact w_263) w_341, by decide, by decide, by decide +kernel⟩
theorem gw_S_137 : gWV "PaneScreen" 137 y_S_damagePart b_S_damagePart 6 none 5 := ⟨gGood TW_good (fun w hw => by
  simp only [List.mem_cons, List.not_mem_nil, or_false] at hw
  rcases hw with rfl | rfl | rfl | rfl
  · exact w_342
  · exact w_343
  · exact w_344
  · exact w_271) w_345, by decide, by decide, by decide +kernel⟩
theorem gw_S_141 : gWS "PaneScreen" 141 y_S_requireExtent b_S_requireExtent 1 none 1 := ⟨gGood TW_good (fun w hw => by
  simp only [List.mem_cons, List.not_mem_nil, or_false] at hw
  rcases hw with rfl | rfl | rfl
  · exact w_346
  · exact w_347
  · exact w_271) w_348, by decide, by decide, by decide +kernel⟩
theorem gw_S_152 : gWV "PaneScreen" 152 y_P_putPen b_P_putPen 3 none 2 := ⟨gGood TW_good (fun w hw => by
  simp only [List.mem_cons, List.not_mem_nil, or_false] at hw
  rcases hw with rfl | rfl | rfl | rfl
  · exact w_349
  · exact w_261
  · exact w_262
  · exact w_263) w_264, by decide, by decide, by decide +kernel⟩
theorem gw_S_155 : gWV "PaneScreen" 155 y_S_drawFromPen b_S_drawFromPen 16 (some .int) 4 := ⟨gGood TW_good (fun w hw => by
  simp only [List.mem_cons, List.not_mem_nil, or_false] at hw
  rcases hw with rfl | rfl | rfl | rfl
  · exact w_350
  · exact w_351
  · exact w_352
  · exact w_271) w_353, by decide, by decide, by decide +kernel⟩
theorem gw_S_159 : gWV "PaneScreen" 159 y_T_keepOld b_T_keepOld 1 none 0 := ⟨gGood TW_good (fun w hw => by
  simp only [List.mem_cons, List.not_mem_nil, or_false] at hw
  rcases hw with rfl | rfl | rfl | rfl
  · exact w_354
  · exact w_355
  · exact w_356
  · exact w_283) w_357, by decide, by decide, by decide +kernel⟩
theorem gw_S_165 : gWV "PaneScreen" 165 y_D_holds b_D_holds 4 (some .boolean) 2 := ⟨gGood TW_good (fun w hw => by
  simp only [List.mem_cons, List.not_mem_nil, or_false] at hw
  rcases hw with rfl | rfl | rfl | rfl
  · exact w_358
  · exact w_359
  · exact w_360
  · exact w_168) w_361, by decide, by decide, by decide +kernel⟩
theorem gw_S_168 : gWV "PaneScreen" 168 y_S_colourBelow b_S_colourBelow 5 (some .int) 2 := ⟨gGood TW_good (fun w hw => by
  simp only [List.mem_cons, List.not_mem_nil, or_false] at hw
  rcases hw with rfl | rfl | rfl | rfl
  · exact w_362
  · exact w_363
  · exact w_364
  · exact w_271) w_365, by decide, by decide, by decide +kernel⟩
theorem gw_S_171 : gWV "PaneScreen" 171 y_D_forget b_D_forget 1 none 0 := ⟨gGood TW_good (fun w hw => by
  simp only [List.mem_cons, List.not_mem_nil, or_false] at hw
  rcases hw with rfl | rfl | rfl | rfl
  · exact w_366
  · exact w_367
  · exact w_368
  · exact w_168) w_369, by decide, by decide, by decide +kernel⟩
theorem gw_S_174 : gWS "PaneScreen" 174 y_S_requireOnScreen b_S_requireOnScreen 2 none 2 := ⟨gGood TW_good (fun w hw => by
  simp only [List.mem_cons, List.not_mem_nil, or_false] at hw
  rcases hw with rfl | rfl | rfl
  · exact w_370
  · exact w_371
  · exact w_271) w_372, by decide, by decide, by decide +kernel⟩
theorem gw_S_180 : gWV "PaneScreen" 180 y_S_ownerOf b_S_ownerOf 5 (some .int) 2 := ⟨gGood TW_good (fun w hw => by
  simp only [List.mem_cons, List.not_mem_nil, or_false] at hw
  rcases hw with rfl | rfl | rfl | rfl
  · exact w_373
  · exact w_374
  · exact w_375
  · exact w_271) w_376, by decide, by decide, by decide +kernel⟩
theorem gw_S_183 : gWV "PaneScreen" 183 y_S_giveFocus b_S_giveFocus 2 none 1 := ⟨gGood TW_good (fun w hw => by
  simp only [List.mem_cons, List.not_mem_nil, or_false] at hw
  rcases hw with rfl | rfl | rfl | rfl
  · exact w_377
  · exact w_378
  · exact w_379
  · exact w_271) w_380, by decide, by decide, by decide +kernel⟩
theorem gw_S_192 : gWV "PaneScreen" 192 y_E_tell b_E_tell 5 none 4 := ⟨gGood TW_good (fun w hw => by
  simp only [List.mem_cons, List.not_mem_nil, or_false] at hw
  rcases hw with rfl | rfl | rfl | rfl
  · exact w_381
  · exact w_382
  · exact w_383
  · exact w_177) w_384, by decide, by decide, by decide +kernel⟩
theorem gw_S_202 : gWV "PaneScreen" 202 y_E_takeFirst b_E_takeFirst 2 none 0 := ⟨gGood TW_good (fun w hw => by
  simp only [List.mem_cons, List.not_mem_nil, or_false] at hw
  rcases hw with rfl | rfl | rfl | rfl
  · exact w_385
  · exact w_386
  · exact w_387
  · exact w_177) w_388, by decide, by decide, by decide +kernel⟩
theorem gw_S_221 : gWV "PaneScreen" 221 y_T_freeCells b_T_freeCells 3 (some .int) 0 := ⟨gGood TW_good (fun w hw => by
  simp only [List.mem_cons, List.not_mem_nil, or_false] at hw
  rcases hw with rfl | rfl | rfl | rfl
  · exact w_389
  · exact w_390
  · exact w_391
  · exact w_283) w_392, by decide, by decide, by decide +kernel⟩
theorem gw_S_224 : gWV "PaneScreen" 224 y_T_longestFree b_T_longestFree 4 (some .int) 0 := ⟨gGood TW_good (fun w hw => by
  simp only [List.mem_cons, List.not_mem_nil, or_false] at hw
  rcases hw with rfl | rfl | rfl | rfl
  · exact w_393
  · exact w_394
  · exact w_395
  · exact w_283) w_396, by decide, by decide, by decide +kernel⟩
theorem gw_S_238 : gWV "PaneScreen" 238 y_P_covers b_P_covers 3 (some .boolean) 2 := ⟨gGood TW_good (fun w hw => by
  simp only [List.mem_cons, List.not_mem_nil, or_false] at hw
  rcases hw with rfl | rfl | rfl | rfl
  · exact w_397
  · exact w_398
  · exact w_399
  · exact w_263) w_400, by decide, by decide, by decide +kernel⟩
theorem gw_S_241 : gWV "PaneScreen" 241 y_D_add b_D_add 9 none 4 := ⟨gGood TW_good (fun w hw => by
  simp only [List.mem_cons, List.not_mem_nil, or_false] at hw
  rcases hw with rfl | rfl | rfl | rfl
  · exact w_401
  · exact w_402
  · exact w_403
  · exact w_168) w_404, by decide, by decide, by decide +kernel⟩
theorem gw_S_244 : gWV "PaneScreen" 244 y_O_last b_O_last 1 (some .int) 0 := ⟨gGood TW_good (fun w hw => by
  simp only [List.mem_cons, List.not_mem_nil, or_false] at hw
  rcases hw with rfl | rfl | rfl | rfl
  · exact w_405
  · exact w_406
  · exact w_407
  · exact w_300) w_408, by decide, by decide, by decide +kernel⟩
theorem gw_S_247 : gWV "PaneScreen" 247 y_O_addBehind b_O_addBehind 2 none 1 := ⟨gGood TW_good (fun w hw => by
  simp only [List.mem_cons, List.not_mem_nil, or_false] at hw
  rcases hw with rfl | rfl | rfl | rfl
  · exact w_409
  · exact w_410
  · exact w_411
  · exact w_300) w_412, by decide, by decide, by decide +kernel⟩
theorem gw_S_259 : gWS "PaneScreen" 259 y_S_stepped b_S_stepped 3 (some .int) 3 := ⟨gGood TW_good (fun w hw => by
  simp only [List.mem_cons, List.not_mem_nil, or_false] at hw
  rcases hw with rfl | rfl | rfl
  · exact w_413
  · exact w_414
  · exact w_271) w_415, by decide, by decide, by decide +kernel⟩
theorem gm_D_24 : Cond.methodLink "PaneScreen$Damage" 24 Lib.Math.max.name ∈ TW := w_416
theorem gm_D_30 : Cond.methodLink "PaneScreen$Damage" 30 Lib.Math.min.name ∈ TW := w_417
theorem gm_S_144 : Cond.methodLink "PaneScreen" 144 Lib.Math.max.name ∈ TW := w_418
theorem gm_S_149 : Cond.methodLink "PaneScreen" 149 Lib.Math.min.name ∈ TW := w_419
theorem gm_S_256 : Cond.methodLink "PaneScreen" 256 Lib.Math.abs.name ∈ TW := w_420
theorem gm_S_263 : Cond.methodLink "PaneScreen" 263 y_J_floorDiv ∈ TW := w_421
theorem gm_T_28 : Cond.methodLink "PaneScreen$Store" 28 Lib.Math.max.name ∈ TW := w_422
theorem gms_abs : Cond.static Lib.Math.abs.name ∈ TW := w_423
theorem gmc_abs : Cond.code Lib.Math.abs.name Lib.Math.abs.code 1 (some .int) ∈ TW := w_424
theorem gms_floorDiv : Cond.static y_J_floorDiv ∈ TW := w_425
theorem gmc_floorDiv : Cond.code y_J_floorDiv b_J_floorDiv 3 (some .int) ∈ TW := w_426
theorem gms_max : Cond.static Lib.Math.max.name ∈ TW := w_427
theorem gmc_max : Cond.code Lib.Math.max.name Lib.Math.max.code 2 (some .int) ∈ TW := w_428
theorem gms_min : Cond.static Lib.Math.min.name ∈ TW := w_429
theorem gmc_min : Cond.code Lib.Math.min.name Lib.Math.min.code 2 (some .int) ∈ TW := w_430
theorem gmi : Cond.initialized "java/lang/Math" ∈ TW := w_431
theorem ga_T_22 : Cond.methodLink "PaneScreen$Store" 22 arraycopyName ∈ TW := w_432
theorem gan : Cond.native arraycopyName ∈ TW := w_433
theorem gas : Cond.static arraycopyName ∈ TW := w_434
theorem gaini : Cond.initialized "java/lang/System" ∈ TW := w_435
set_option maxRecDepth 100000 in
theorem gt_S_70 : gTh "PaneScreen" 70 72 "java/lang/IllegalStateException" := ⟨by decide, by decide +kernel, by decide +kernel, w_436, w_437, by decide +kernel, by decide +kernel, by decide +kernel⟩
set_option maxRecDepth 100000 in
theorem gt_S_177 : gTh "PaneScreen" 177 179 "java/lang/IndexOutOfBoundsException" := ⟨by decide, by decide +kernel, by decide +kernel, w_438, w_439, by decide +kernel, by decide +kernel, by decide +kernel⟩
set_option maxRecDepth 100000 in
theorem gt_S_199 : gTh "PaneScreen" 199 201 "java/util/NoSuchElementException" := ⟨by decide, by decide +kernel, by decide +kernel, w_440, w_441, by decide +kernel, by decide +kernel, by decide +kernel⟩
set_option maxRecDepth 100000 in
theorem gt_S_217 : gTh "PaneScreen" 217 219 "java/lang/IllegalArgumentException" := ⟨by decide, by decide +kernel, by decide +kernel, w_442, w_443, by decide +kernel, by decide +kernel, by decide +kernel⟩
