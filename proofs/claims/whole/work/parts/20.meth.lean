/-! M_click -/
theorem d_M_click_0 : decode b_M_click 0 = .ok (.aload_n 0, 1) := by decide +kernel
theorem d_M_click_1 : decode b_M_click 1 = .ok (.iload_n 1, 1) := by decide +kernel
theorem d_M_click_2 : decode b_M_click 2 = .ok (.iload_n 2, 1) := by decide +kernel
theorem d_M_click_3 : decode b_M_click 3 = .ok (.invokestatic 171, 3) := by decide +kernel
theorem d_M_click_6 : decode b_M_click 6 = .ok (.ifCond .eq 7, 3) := by decide +kernel
theorem d_M_click_9 : decode b_M_click 9 = .ok (.iconst 0, 1) := by decide +kernel
theorem d_M_click_10 : decode b_M_click 10 = .ok (.goto 4, 3) := by decide +kernel
theorem d_M_click_13 : decode b_M_click 13 = .ok (.iconst 1, 1) := by decide +kernel
theorem d_M_click_14 : decode b_M_click 14 = .ok (.putfield 75, 3) := by decide +kernel
theorem d_M_click_17 : decode b_M_click 17 = .ok (.aload_n 0, 1) := by decide +kernel
theorem d_M_click_18 : decode b_M_click 18 = .ok (.getfield 75, 3) := by decide +kernel
theorem d_M_click_21 : decode b_M_click 21 = .ok (.ifCond .le 5, 3) := by decide +kernel
theorem d_M_click_24 : decode b_M_click 24 = .ok (.iconst 0, 1) := by decide +kernel
theorem d_M_click_25 : decode b_M_click 25 = .ok (.ireturn, 1) := by decide +kernel
theorem d_M_click_26 : decode b_M_click 26 = .ok (.aload_n 0, 1) := by decide +kernel
theorem d_M_click_27 : decode b_M_click 27 = .ok (.iload_n 1, 1) := by decide +kernel
theorem d_M_click_28 : decode b_M_click 28 = .ok (.iload_n 2, 1) := by decide +kernel
theorem d_M_click_29 : decode b_M_click 29 = .ok (.invokevirtual 165, 3) := by decide +kernel
theorem d_M_click_32 : decode b_M_click 32 = .ok (.istore_n 3, 1) := by decide +kernel
theorem d_M_click_33 : decode b_M_click 33 = .ok (.aload_n 0, 1) := by decide +kernel
theorem d_M_click_34 : decode b_M_click 34 = .ok (.getfield 47, 3) := by decide +kernel
theorem d_M_click_37 : decode b_M_click 37 = .ok (.iload_n 3, 1) := by decide +kernel
theorem d_M_click_38 : decode b_M_click 38 = .ok (.if_icmp .eq 21, 3) := by decide +kernel
theorem d_M_click_41 : decode b_M_click 41 = .ok (.aload_n 0, 1) := by decide +kernel
theorem d_M_click_42 : decode b_M_click 42 = .ok (.getfield 47, 3) := by decide +kernel
theorem d_M_click_45 : decode b_M_click 45 = .ok (.ifCond .lt 14, 3) := by decide +kernel
theorem d_M_click_48 : decode b_M_click 48 = .ok (.aload_n 0, 1) := by decide +kernel
theorem d_M_click_49 : decode b_M_click 49 = .ok (.iconst 4, 1) := by decide +kernel
theorem d_M_click_50 : decode b_M_click 50 = .ok (.aload_n 0, 1) := by decide +kernel
theorem d_M_click_51 : decode b_M_click 51 = .ok (.getfield 47, 3) := by decide +kernel
theorem d_M_click_54 : decode b_M_click 54 = .ok (.iconst 0, 1) := by decide +kernel
theorem d_M_click_55 : decode b_M_click 55 = .ok (.iconst 0, 1) := by decide +kernel
theorem d_M_click_56 : decode b_M_click 56 = .ok (.invokevirtual 177, 3) := by decide +kernel
theorem d_M_click_59 : decode b_M_click 59 = .ok (.iload_n 3, 1) := by decide +kernel
theorem d_M_click_60 : decode b_M_click 60 = .ok (.ifCond .lt 19, 3) := by decide +kernel
theorem d_M_click_63 : decode b_M_click 63 = .ok (.aload_n 0, 1) := by decide +kernel
theorem d_M_click_64 : decode b_M_click 64 = .ok (.getfield 47, 3) := by decide +kernel
theorem d_M_click_67 : decode b_M_click 67 = .ok (.iload_n 3, 1) := by decide +kernel
theorem d_M_click_68 : decode b_M_click 68 = .ok (.if_icmp .eq 11, 3) := by decide +kernel
theorem d_M_click_71 : decode b_M_click 71 = .ok (.aload_n 0, 1) := by decide +kernel
theorem d_M_click_72 : decode b_M_click 72 = .ok (.iconst 3, 1) := by decide +kernel
theorem d_M_click_73 : decode b_M_click 73 = .ok (.iload_n 3, 1) := by decide +kernel
theorem d_M_click_74 : decode b_M_click 74 = .ok (.iconst 0, 1) := by decide +kernel
theorem d_M_click_75 : decode b_M_click 75 = .ok (.iconst 0, 1) := by decide +kernel
theorem d_M_click_76 : decode b_M_click 76 = .ok (.invokevirtual 177, 3) := by decide +kernel
theorem d_M_click_79 : decode b_M_click 79 = .ok (.aload_n 0, 1) := by decide +kernel
theorem d_M_click_80 : decode b_M_click 80 = .ok (.iload_n 3, 1) := by decide +kernel
theorem d_M_click_81 : decode b_M_click 81 = .ok (.putfield 47, 3) := by decide +kernel
theorem d_M_click_84 : decode b_M_click 84 = .ok (.iload_n 3, 1) := by decide +kernel
theorem d_M_click_85 : decode b_M_click 85 = .ok (.ifCond .lt 32, 3) := by decide +kernel
theorem d_M_click_88 : decode b_M_click 88 = .ok (.aload_n 0, 1) := by decide +kernel
theorem d_M_click_89 : decode b_M_click 89 = .ok (.iload_n 3, 1) := by decide +kernel
theorem d_M_click_90 : decode b_M_click 90 = .ok (.iconst 1, 1) := by decide +kernel
theorem d_M_click_91 : decode b_M_click 91 = .ok (.invokevirtual 143, 3) := by decide +kernel
theorem d_M_click_94 : decode b_M_click 94 = .ok (.pop, 1) := by decide +kernel
theorem d_M_click_95 : decode b_M_click 95 = .ok (.aload_n 0, 1) := by decide +kernel
theorem d_M_click_96 : decode b_M_click 96 = .ok (.iconst 1, 1) := by decide +kernel
theorem d_M_click_97 : decode b_M_click 97 = .ok (.iload_n 3, 1) := by decide +kernel
theorem d_M_click_98 : decode b_M_click 98 = .ok (.iload_n 1, 1) := by decide +kernel
theorem d_M_click_99 : decode b_M_click 99 = .ok (.aload_n 0, 1) := by decide +kernel
theorem d_M_click_100 : decode b_M_click 100 = .ok (.getfield 17, 3) := by decide +kernel
theorem d_M_click_103 : decode b_M_click 103 = .ok (.iload_n 3, 1) := by decide +kernel
theorem d_M_click_104 : decode b_M_click 104 = .ok (.iaload, 1) := by decide +kernel
theorem d_M_click_105 : decode b_M_click 105 = .ok (.isub, 1) := by decide +kernel
theorem d_M_click_106 : decode b_M_click 106 = .ok (.iload_n 2, 1) := by decide +kernel
theorem d_M_click_107 : decode b_M_click 107 = .ok (.aload_n 0, 1) := by decide +kernel
theorem d_M_click_108 : decode b_M_click 108 = .ok (.getfield 20, 3) := by decide +kernel
theorem d_M_click_111 : decode b_M_click 111 = .ok (.iload_n 3, 1) := by decide +kernel
theorem d_M_click_112 : decode b_M_click 112 = .ok (.iaload, 1) := by decide +kernel
theorem d_M_click_113 : decode b_M_click 113 = .ok (.isub, 1) := by decide +kernel
theorem d_M_click_114 : decode b_M_click 114 = .ok (.invokevirtual 177, 3) := by decide +kernel
theorem d_M_click_117 : decode b_M_click 117 = .ok (.iload_n 3, 1) := by decide +kernel
theorem d_M_click_118 : decode b_M_click 118 = .ok (.ireturn, 1) := by decide +kernel
abbrev r_M_click : Room := ⟨3, 0, 0, 74⟩
def f_M_click_117 (σ : Mem) (x3 : Int32) : Option (Int32 × Mem) :=
  some (x3, σ)
set_option maxRecDepth 100000 in
theorem m_M_click_117 {κ : GC} {Γ : GA} (hX : Gx κ Γ 4 b_M_click "PaneScreenModel" r_M_click (some .int)) (σ : Mem) (x3 : Int32) : GG κ Γ 4 (gQ gqi κ Γ r_M_click) 0 0 σ [none, none, none, some (.int x3)] 117 [] (f_M_click_117 σ x3) := by
  unfold f_M_click_117
  refine g_iload_n hX 3 d_M_click_117 (n := 118) rfl rfl rfl ?_
  exact g_iret hX d_M_click_118 (by decide) (by decide)
def f_M_click_79 (σ : Mem) (x1 : Int32) (x2 : Int32) (x3 : Int32) : Option (Int32 × Mem) :=
  gbm (m2 σ 19 15 x3) fun u1 =>
  if x3 < 0 then
    f_M_click_117 u1 x3
  else
    gb (f_M_lift x3 1 u1) fun r3 u2 =>
    if gin x3 8 = true then
      if gin x3 8 = true then
        gbv (f_M_tell 1 x3 (x1 - (u2 22 x3.toNatClampNeg)) (x2 - (u2 23 x3.toNatClampNeg)) u2) fun u4 =>
        f_M_click_117 u4 x3
      else none
    else none
set_option maxRecDepth 100000 in
theorem m_M_click_79 {κ : GC} {Γ : GA} (hX : Gx κ Γ 4 b_M_click "PaneScreenModel" r_M_click (some .int)) (σ : Mem) (x1 : Int32) (x2 : Int32) (x3 : Int32) : GG κ Γ 4 (gQ gqi κ Γ r_M_click) 0 0 σ [some (.ref (Γ.2.1 19)), some (.int x1), some (.int x2), some (.int x3)] 79 [] (f_M_click_79 σ x1 x2 x3) := by
  unfold f_M_click_79
  refine g_aload_n hX 0 d_M_click_79 (n := 80) rfl rfl rfl ?_
  refine g_iload_n hX 3 d_M_click_80 (n := 81) rfl rfl rfl ?_
  refine g_puti hX gp_M_47 d_M_click_81 (n := 84) rfl sh_19 rfl ?_
  refine g_mem (fun u1 => ?_)
  refine g_iload_n hX 3 d_M_click_84 (n := 85) rfl rfl rfl ?_
  refine g_if_lt hX 117 d_M_click_85 (n := 88) rfl rfl ?_ ?_
  · exact (g_sub (lw := [none, none, none, some (.int x3)]) (And.intro rfl (True.intro)) (m_M_click_117 hX u1 x3))
  · refine g_aload_n hX 0 d_M_click_88 (n := 89) rfl rfl rfl ?_
    refine g_iload_n hX 3 d_M_click_89 (n := 90) rfl rfl rfl ?_
    refine g_iconst hX 1 d_M_click_90 (n := 91) rfl k_iconst_1 ?_
    refine g_cVi hX [_, _] rfl 0 0 (c_M_lift _ Γ x3 1 u1) gw_M_143 rfl sh_19 rfl d_M_click_91 (n := 94) rfl ⟨by decide, by decide⟩ ⟨by decide, by decide⟩ (Nat.le_of_ble_eq_true rfl) rfl rfl (fun r3 u2 => ?_)
    refine g_pop hX d_M_click_94 (n := 95) rfl rfl ?_
    refine g_aload_n hX 0 d_M_click_95 (n := 96) rfl rfl rfl ?_
    refine g_iconst hX 1 d_M_click_96 (n := 97) rfl k_iconst_1 ?_
    refine g_iload_n hX 3 d_M_click_97 (n := 98) rfl rfl rfl ?_
    refine g_iload_n hX 1 d_M_click_98 (n := 99) rfl rfl rfl ?_
    refine g_aload_n hX 0 d_M_click_99 (n := 100) rfl rfl rfl ?_
    refine g_geta hX 22 gf_M_17 d_M_click_100 (n := 103) rfl sh_19 rfl ?_
    refine g_iload_n hX 3 d_M_click_103 (n := 104) rfl rfl rfl ?_
    refine g_iald hX d_M_click_104 (n := 105) rfl sh_22 ?_
    refine g_isub hX d_M_click_105 (n := 106) rfl ?_
    refine g_iload_n hX 2 d_M_click_106 (n := 107) rfl rfl rfl ?_
    refine g_aload_n hX 0 d_M_click_107 (n := 108) rfl rfl rfl ?_
    refine g_geta hX 23 gf_M_20 d_M_click_108 (n := 111) rfl sh_19 rfl ?_
    refine g_iload_n hX 3 d_M_click_111 (n := 112) rfl rfl rfl ?_
    refine g_iald hX d_M_click_112 (n := 113) rfl sh_23 ?_
    refine g_isub hX d_M_click_113 (n := 114) rfl ?_
    refine g_cVv hX [_, _, _, _] rfl 0 0 (c_M_tell _ Γ 1 x3 (x1 - (u2 22 x3.toNatClampNeg)) (x2 - (u2 23 x3.toNatClampNeg)) u2) gw_M_177 rfl sh_19 rfl d_M_click_114 (n := 117) rfl ⟨by decide, by decide⟩ ⟨by decide, by decide⟩ (Nat.le_of_ble_eq_true rfl) rfl rfl (fun u4 => ?_)
    exact (g_sub (lw := [none, none, none, some (.int x3)]) (And.intro rfl (True.intro)) (m_M_click_117 hX u4 x3))
def f_M_click_59 (σ : Mem) (x1 : Int32) (x2 : Int32) (x3 : Int32) : Option (Int32 × Mem) :=
  if x3 < 0 then
    f_M_click_79 σ x1 x2 x3
  else
    if (σ 19 15) = x3 then
      f_M_click_79 σ x1 x2 x3
    else
      gbv (f_M_tell 3 x3 0 0 σ) fun u1 =>
      f_M_click_79 u1 x1 x2 x3
set_option maxRecDepth 100000 in
theorem m_M_click_59 {κ : GC} {Γ : GA} (hX : Gx κ Γ 4 b_M_click "PaneScreenModel" r_M_click (some .int)) (σ : Mem) (x1 : Int32) (x2 : Int32) (x3 : Int32) : GG κ Γ 4 (gQ gqi κ Γ r_M_click) 0 0 σ [some (.ref (Γ.2.1 19)), some (.int x1), some (.int x2), some (.int x3)] 59 [] (f_M_click_59 σ x1 x2 x3) := by
  unfold f_M_click_59
  refine g_iload_n hX 3 d_M_click_59 (n := 60) rfl rfl rfl ?_
  refine g_if_lt hX 79 d_M_click_60 (n := 63) rfl rfl ?_ ?_
  · exact (m_M_click_79 hX σ x1 x2 x3)
  · refine g_aload_n hX 0 d_M_click_63 (n := 64) rfl rfl rfl ?_
    refine g_geti hX gf_M_47 d_M_click_64 (n := 67) rfl sh_19 rfl ?_
    refine g_iload_n hX 3 d_M_click_67 (n := 68) rfl rfl rfl ?_
    refine g_icmp_eq hX 79 d_M_click_68 (n := 71) rfl rfl ?_ ?_
    · exact (m_M_click_79 hX σ x1 x2 x3)
    · refine g_aload_n hX 0 d_M_click_71 (n := 72) rfl rfl rfl ?_
      refine g_iconst hX 3 d_M_click_72 (n := 73) rfl k_iconst_3 ?_
      refine g_iload_n hX 3 d_M_click_73 (n := 74) rfl rfl rfl ?_
      refine g_iconst hX 0 d_M_click_74 (n := 75) rfl k_iconst_0 ?_
      refine g_iconst hX 0 d_M_click_75 (n := 76) rfl k_iconst_0 ?_
      refine g_cVv hX [_, _, _, _] rfl 0 0 (c_M_tell _ Γ 3 x3 0 0 σ) gw_M_177 rfl sh_19 rfl d_M_click_76 (n := 79) rfl ⟨by decide, by decide⟩ ⟨by decide, by decide⟩ (Nat.le_of_ble_eq_true rfl) rfl rfl (fun u1 => ?_)
      exact (m_M_click_79 hX u1 x1 x2 x3)
def f_M_click_14 (σ : Mem) (x1 : Int32) (x2 : Int32) (s0 : Int32) : Option (Int32 × Mem) :=
  gbm (m2 σ 19 0 s0) fun u1 =>
  if (u1 19 0) ≤ 0 then
    gb (f_M_owner x1 x2 u1) fun r3 u2 =>
    if (u2 19 15) = r3 then
      f_M_click_59 u2 x1 x2 r3
    else
      if (u2 19 15) < 0 then
        f_M_click_59 u2 x1 x2 r3
      else
        gbv (f_M_tell 4 (u2 19 15) 0 0 u2) fun u4 =>
        f_M_click_59 u4 x1 x2 r3
  else
    some (0, u1)
set_option maxRecDepth 100000 in
theorem m_M_click_14 {κ : GC} {Γ : GA} (hX : Gx κ Γ 4 b_M_click "PaneScreenModel" r_M_click (some .int)) (σ : Mem) (x1 : Int32) (x2 : Int32) (s0 : Int32) : GG κ Γ 4 (gQ gqi κ Γ r_M_click) 0 0 σ [some (.ref (Γ.2.1 19)), some (.int x1), some (.int x2), none] 14 [.int s0, .ref (Γ.2.1 19)] (f_M_click_14 σ x1 x2 s0) := by
  unfold f_M_click_14
  refine g_puti hX gp_M_75 d_M_click_14 (n := 17) rfl sh_19 rfl ?_
  refine g_mem (fun u1 => ?_)
  refine g_aload_n hX 0 d_M_click_17 (n := 18) rfl rfl rfl ?_
  refine g_geti hX gf_M_75 d_M_click_18 (n := 21) rfl sh_19 rfl ?_
  refine g_if_le hX 26 d_M_click_21 (n := 24) rfl rfl ?_ ?_
  · refine g_aload_n hX 0 d_M_click_26 (n := 27) rfl rfl rfl ?_
    refine g_iload_n hX 1 d_M_click_27 (n := 28) rfl rfl rfl ?_
    refine g_iload_n hX 2 d_M_click_28 (n := 29) rfl rfl rfl ?_
    refine g_cVi hX [_, _] rfl 0 0 (c_M_owner _ Γ x1 x2 u1) gw_M_165 rfl sh_19 rfl d_M_click_29 (n := 32) rfl ⟨by decide, by decide⟩ ⟨by decide, by decide⟩ (Nat.le_of_ble_eq_true rfl) rfl rfl (fun r3 u2 => ?_)
    refine g_istore_n hX 3 [_, _, _, _] d_M_click_32 (n := 33) rfl rfl (by decide) rfl ?_
    refine g_aload_n hX 0 d_M_click_33 (n := 34) rfl rfl rfl ?_
    refine g_geti hX gf_M_47 d_M_click_34 (n := 37) rfl sh_19 rfl ?_
    refine g_iload_n hX 3 d_M_click_37 (n := 38) rfl rfl rfl ?_
    refine g_icmp_eq hX 59 d_M_click_38 (n := 41) rfl rfl ?_ ?_
    · exact (m_M_click_59 hX u2 x1 x2 r3)
    · refine g_aload_n hX 0 d_M_click_41 (n := 42) rfl rfl rfl ?_
      refine g_geti hX gf_M_47 d_M_click_42 (n := 45) rfl sh_19 rfl ?_
      refine g_if_lt hX 59 d_M_click_45 (n := 48) rfl rfl ?_ ?_
      · exact (m_M_click_59 hX u2 x1 x2 r3)
      · refine g_aload_n hX 0 d_M_click_48 (n := 49) rfl rfl rfl ?_
        refine g_iconst hX 4 d_M_click_49 (n := 50) rfl k_iconst_4 ?_
        refine g_aload_n hX 0 d_M_click_50 (n := 51) rfl rfl rfl ?_
        refine g_geti hX gf_M_47 d_M_click_51 (n := 54) rfl sh_19 rfl ?_
        refine g_iconst hX 0 d_M_click_54 (n := 55) rfl k_iconst_0 ?_
        refine g_iconst hX 0 d_M_click_55 (n := 56) rfl k_iconst_0 ?_
        refine g_cVv hX [_, _, _, _] rfl 0 0 (c_M_tell _ Γ 4 (u2 19 15) 0 0 u2) gw_M_177 rfl sh_19 rfl d_M_click_56 (n := 59) rfl ⟨by decide, by decide⟩ ⟨by decide, by decide⟩ (Nat.le_of_ble_eq_true rfl) rfl rfl (fun u4 => ?_)
        exact (m_M_click_59 hX u4 x1 x2 r3)
  · refine g_iconst hX 0 d_M_click_24 (n := 25) rfl k_iconst_0 ?_
    exact g_iret hX d_M_click_25 (by decide) (by decide)
def f_M_click_0 (σ : Mem) (x1 : Int32) (x2 : Int32) : Option (Int32 × Mem) :=
  gb (f_M_onScreen x1 x2 σ) fun r2 u1 =>
  if r2 = 0 then
    f_M_click_14 u1 x1 x2 1
  else
    f_M_click_14 u1 x1 x2 0
set_option maxRecDepth 100000 in
theorem m_M_click_0 {κ : GC} {Γ : GA} (hX : Gx κ Γ 4 b_M_click "PaneScreenModel" r_M_click (some .int)) (σ : Mem) (x1 : Int32) (x2 : Int32) : GG κ Γ 4 (gQ gqi κ Γ r_M_click) 0 0 σ [some (.ref (Γ.2.1 19)), some (.int x1), some (.int x2), none] 0 [] (f_M_click_0 σ x1 x2) := by
  unfold f_M_click_0
  refine g_aload_n hX 0 d_M_click_0 (n := 1) rfl rfl rfl ?_
  refine g_iload_n hX 1 d_M_click_1 (n := 2) rfl rfl rfl ?_
  refine g_iload_n hX 2 d_M_click_2 (n := 3) rfl rfl rfl ?_
  refine g_cSi hX [_, _] rfl 0 0 (c_M_onScreen _ Γ x1 x2 σ) gw_M_171 rfl d_M_click_3 (n := 6) rfl ⟨by decide, by decide⟩ ⟨by decide, by decide⟩ (Nat.le_of_ble_eq_true rfl) rfl rfl (fun r2 u1 => ?_)
  refine g_if_eq hX 13 d_M_click_6 (n := 9) rfl rfl ?_ ?_
  · refine g_iconst hX 1 d_M_click_13 (n := 14) rfl k_iconst_1 ?_
    exact (m_M_click_14 hX u1 x1 x2 1)
  · refine g_iconst hX 0 d_M_click_9 (n := 10) rfl k_iconst_0 ?_
    refine g_goto hX 14 d_M_click_10 rfl ?_
    exact (m_M_click_14 hX u1 x1 x2 0)
def f_M_click (x1 : Int32) (x2 : Int32) (σ : Mem) : Option (Int32 × Mem) := f_M_click_0 σ x1 x2
theorem c_M_click (l : Launch) (Γ : GA) (x1 : Int32) (x2 : Int32) (σ : Mem) : gM gqi l y_M_click b_M_click 4 (some .int) r_M_click [.ref (Γ.2.1 19), .int x1, .int x2] Γ σ (f_M_click x1 x2 σ) :=
  gM.of [some (.ref (Γ.2.1 19)), some (.int x1), some (.int x2), none] (by decide) (Nat.le_of_ble_eq_true rfl) rfl rfl (fun κ hX _ => m_M_click_0 hX σ x1 x2)
/-! M_key -/
theorem d_M_key_0 : decode b_M_key 0 = .ok (.aload_n 0, 1) := by decide +kernel
theorem d_M_key_1 : decode b_M_key 1 = .ok (.iconst 0, 1) := by decide +kernel
theorem d_M_key_2 : decode b_M_key 2 = .ok (.putfield 75, 3) := by decide +kernel
theorem d_M_key_5 : decode b_M_key 5 = .ok (.aload_n 0, 1) := by decide +kernel
theorem d_M_key_6 : decode b_M_key 6 = .ok (.getfield 47, 3) := by decide +kernel
theorem d_M_key_9 : decode b_M_key 9 = .ok (.ifCond .ge 5, 3) := by decide +kernel
theorem d_M_key_12 : decode b_M_key 12 = .ok (.iconst 0, 1) := by decide +kernel
theorem d_M_key_13 : decode b_M_key 13 = .ok (.ireturn, 1) := by decide +kernel
theorem d_M_key_14 : decode b_M_key 14 = .ok (.aload_n 0, 1) := by decide +kernel
theorem d_M_key_15 : decode b_M_key 15 = .ok (.iconst 2, 1) := by decide +kernel
theorem d_M_key_16 : decode b_M_key 16 = .ok (.aload_n 0, 1) := by decide +kernel
theorem d_M_key_17 : decode b_M_key 17 = .ok (.getfield 47, 3) := by decide +kernel
theorem d_M_key_20 : decode b_M_key 20 = .ok (.iload_n 1, 1) := by decide +kernel
theorem d_M_key_21 : decode b_M_key 21 = .ok (.iconst 0, 1) := by decide +kernel
theorem d_M_key_22 : decode b_M_key 22 = .ok (.invokevirtual 177, 3) := by decide +kernel
theorem d_M_key_25 : decode b_M_key 25 = .ok (.iconst 1, 1) := by decide +kernel
theorem d_M_key_26 : decode b_M_key 26 = .ok (.ireturn, 1) := by decide +kernel
abbrev r_M_key : Room := ⟨1, 0, 0, 24⟩
def f_M_key_0 (σ : Mem) (x1 : Int32) : Option (Int32 × Mem) :=
  gbm (m2 σ 19 0 0) fun u1 =>
  if 0 ≤ (u1 19 15) then
    gbv (f_M_tell 2 (u1 19 15) x1 0 u1) fun u2 =>
    some (1, u2)
  else
    some (0, u1)
set_option maxRecDepth 100000 in
theorem m_M_key_0 {κ : GC} {Γ : GA} (hX : Gx κ Γ 2 b_M_key "PaneScreenModel" r_M_key (some .boolean)) (σ : Mem) (x1 : Int32) : GG κ Γ 2 (gQ gqi κ Γ r_M_key) 0 0 σ [some (.ref (Γ.2.1 19)), some (.int x1)] 0 [] (f_M_key_0 σ x1) := by
  unfold f_M_key_0
  refine g_aload_n hX 0 d_M_key_0 (n := 1) rfl rfl rfl ?_
  refine g_iconst hX 0 d_M_key_1 (n := 2) rfl k_iconst_0 ?_
  refine g_puti hX gp_M_75 d_M_key_2 (n := 5) rfl sh_19 rfl ?_
  refine g_mem (fun u1 => ?_)
  refine g_aload_n hX 0 d_M_key_5 (n := 6) rfl rfl rfl ?_
  refine g_geti hX gf_M_47 d_M_key_6 (n := 9) rfl sh_19 rfl ?_
  refine g_if_ge hX 14 d_M_key_9 (n := 12) rfl rfl ?_ ?_
  · refine g_aload_n hX 0 d_M_key_14 (n := 15) rfl rfl rfl ?_
    refine g_iconst hX 2 d_M_key_15 (n := 16) rfl k_iconst_2 ?_
    refine g_aload_n hX 0 d_M_key_16 (n := 17) rfl rfl rfl ?_
    refine g_geti hX gf_M_47 d_M_key_17 (n := 20) rfl sh_19 rfl ?_
    refine g_iload_n hX 1 d_M_key_20 (n := 21) rfl rfl rfl ?_
    refine g_iconst hX 0 d_M_key_21 (n := 22) rfl k_iconst_0 ?_
    refine g_cVv hX [_, _, _, _] rfl 0 0 (c_M_tell _ Γ 2 (u1 19 15) x1 0 u1) gw_M_177 rfl sh_19 rfl d_M_key_22 (n := 25) rfl ⟨by decide, by decide⟩ ⟨by decide, by decide⟩ (Nat.le_of_ble_eq_true rfl) rfl rfl (fun u2 => ?_)
    refine g_iconst hX 1 d_M_key_25 (n := 26) rfl k_iconst_1 ?_
    exact g_iretz hX rfl d_M_key_26 (by decide) (by decide)
  · refine g_iconst hX 0 d_M_key_12 (n := 13) rfl k_iconst_0 ?_
    exact g_iretz hX rfl d_M_key_13 (by decide) (by decide)
def f_M_key (x1 : Int32) (σ : Mem) : Option (Int32 × Mem) := f_M_key_0 σ x1
theorem c_M_key (l : Launch) (Γ : GA) (x1 : Int32) (σ : Mem) : gM gqi l y_M_key b_M_key 2 (some .boolean) r_M_key [.ref (Γ.2.1 19), .int x1] Γ σ (f_M_key x1 σ) :=
  gM.of [some (.ref (Γ.2.1 19)), some (.int x1)] (by decide) (Nat.le_of_ble_eq_true rfl) rfl rfl (fun κ hX _ => m_M_key_0 hX σ x1)
/-! M_next -/
theorem d_M_next_0 : decode b_M_next 0 = .ok (.aload_n 0, 1) := by decide +kernel
theorem d_M_next_1 : decode b_M_next 1 = .ok (.aload_n 0, 1) := by decide +kernel
theorem d_M_next_2 : decode b_M_next 2 = .ok (.getfield 130, 3) := by decide +kernel
theorem d_M_next_5 : decode b_M_next 5 = .ok (.ifCond .ne 7, 3) := by decide +kernel
theorem d_M_next_8 : decode b_M_next 8 = .ok (.iconst 1, 1) := by decide +kernel
theorem d_M_next_9 : decode b_M_next 9 = .ok (.goto 4, 3) := by decide +kernel
theorem d_M_next_12 : decode b_M_next 12 = .ok (.iconst 0, 1) := by decide +kernel
theorem d_M_next_13 : decode b_M_next 13 = .ok (.putfield 75, 3) := by decide +kernel
theorem d_M_next_16 : decode b_M_next 16 = .ok (.aload_n 0, 1) := by decide +kernel
theorem d_M_next_17 : decode b_M_next 17 = .ok (.getfield 75, 3) := by decide +kernel
theorem d_M_next_20 : decode b_M_next 20 = .ok (.ifCond .le 5, 3) := by decide +kernel
theorem d_M_next_23 : decode b_M_next 23 = .ok (.iconst 0, 1) := by decide +kernel
theorem d_M_next_24 : decode b_M_next 24 = .ok (.ireturn, 1) := by decide +kernel
theorem d_M_next_25 : decode b_M_next 25 = .ok (.aload_n 0, 1) := by decide +kernel
theorem d_M_next_26 : decode b_M_next 26 = .ok (.getfield 63, 3) := by decide +kernel
theorem d_M_next_29 : decode b_M_next 29 = .ok (.iconst 0, 1) := by decide +kernel
theorem d_M_next_30 : decode b_M_next 30 = .ok (.iaload, 1) := by decide +kernel
theorem d_M_next_31 : decode b_M_next 31 = .ok (.istore_n 1, 1) := by decide +kernel
theorem d_M_next_32 : decode b_M_next 32 = .ok (.aload_n 0, 1) := by decide +kernel
theorem d_M_next_33 : decode b_M_next 33 = .ok (.iconst 1, 1) := by decide +kernel
theorem d_M_next_34 : decode b_M_next 34 = .ok (.putfield 180, 3) := by decide +kernel
theorem d_M_next_37 : decode b_M_next 37 = .ok (.aload_n 0, 1) := by decide +kernel
theorem d_M_next_38 : decode b_M_next 38 = .ok (.aload_n 0, 1) := by decide +kernel
theorem d_M_next_39 : decode b_M_next 39 = .ok (.getfield 66, 3) := by decide +kernel
theorem d_M_next_42 : decode b_M_next 42 = .ok (.iconst 0, 1) := by decide +kernel
theorem d_M_next_43 : decode b_M_next 43 = .ok (.iaload, 1) := by decide +kernel
theorem d_M_next_44 : decode b_M_next 44 = .ok (.putfield 183, 3) := by decide +kernel
theorem d_M_next_47 : decode b_M_next 47 = .ok (.aload_n 0, 1) := by decide +kernel
theorem d_M_next_48 : decode b_M_next 48 = .ok (.aload_n 0, 1) := by decide +kernel
theorem d_M_next_49 : decode b_M_next 49 = .ok (.getfield 69, 3) := by decide +kernel
theorem d_M_next_52 : decode b_M_next 52 = .ok (.iconst 0, 1) := by decide +kernel
theorem d_M_next_53 : decode b_M_next 53 = .ok (.iaload, 1) := by decide +kernel
theorem d_M_next_54 : decode b_M_next 54 = .ok (.putfield 186, 3) := by decide +kernel
theorem d_M_next_57 : decode b_M_next 57 = .ok (.aload_n 0, 1) := by decide +kernel
theorem d_M_next_58 : decode b_M_next 58 = .ok (.aload_n 0, 1) := by decide +kernel
theorem d_M_next_59 : decode b_M_next 59 = .ok (.getfield 72, 3) := by decide +kernel
theorem d_M_next_62 : decode b_M_next 62 = .ok (.iconst 0, 1) := by decide +kernel
theorem d_M_next_63 : decode b_M_next 63 = .ok (.iaload, 1) := by decide +kernel
theorem d_M_next_64 : decode b_M_next 64 = .ok (.putfield 189, 3) := by decide +kernel
theorem d_M_next_67 : decode b_M_next 67 = .ok (.aload_n 0, 1) := by decide +kernel
theorem d_M_next_68 : decode b_M_next 68 = .ok (.dup, 1) := by decide +kernel
theorem d_M_next_69 : decode b_M_next 69 = .ok (.getfield 130, 3) := by decide +kernel
theorem d_M_next_72 : decode b_M_next 72 = .ok (.iconst 1, 1) := by decide +kernel
theorem d_M_next_73 : decode b_M_next 73 = .ok (.isub, 1) := by decide +kernel
theorem d_M_next_74 : decode b_M_next 74 = .ok (.putfield 130, 3) := by decide +kernel
theorem d_M_next_77 : decode b_M_next 77 = .ok (.iconst 0, 1) := by decide +kernel
theorem d_M_next_78 : decode b_M_next 78 = .ok (.istore_n 2, 1) := by decide +kernel
theorem d_M_next_79 : decode b_M_next 79 = .ok (.iload_n 2, 1) := by decide +kernel
theorem d_M_next_80 : decode b_M_next 80 = .ok (.aload_n 0, 1) := by decide +kernel
theorem d_M_next_81 : decode b_M_next 81 = .ok (.getfield 130, 3) := by decide +kernel
theorem d_M_next_84 : decode b_M_next 84 = .ok (.if_icmp .ge 17, 3) := by decide +kernel
theorem d_M_next_87 : decode b_M_next 87 = .ok (.aload_n 0, 1) := by decide +kernel
theorem d_M_next_88 : decode b_M_next 88 = .ok (.iload_n 2, 1) := by decide +kernel
theorem d_M_next_89 : decode b_M_next 89 = .ok (.iconst 1, 1) := by decide +kernel
theorem d_M_next_90 : decode b_M_next 90 = .ok (.iadd, 1) := by decide +kernel
theorem d_M_next_91 : decode b_M_next 91 = .ok (.iload_n 2, 1) := by decide +kernel
theorem d_M_next_92 : decode b_M_next 92 = .ok (.invokevirtual 133, 3) := by decide +kernel
theorem d_M_next_95 : decode b_M_next 95 = .ok (.iinc 2 1, 3) := by decide +kernel
theorem d_M_next_98 : decode b_M_next 98 = .ok (.goto (-19), 3) := by decide +kernel
theorem d_M_next_101 : decode b_M_next 101 = .ok (.iload_n 1, 1) := by decide +kernel
theorem d_M_next_102 : decode b_M_next 102 = .ok (.ireturn, 1) := by decide +kernel
abbrev r_M_next : Room := ⟨1, 0, 0, 22⟩
def f_M_next_79B (K79 : Mem → Int32 → Int32 → Option (Int32 × Mem)) (σ : Mem) (x1 : Int32) (x2 : Int32) : Option (Int32 × Mem) :=
  if (σ 19 26) ≤ x2 then
    some (x1, σ)
  else
    gbv (f_M_moveEvent (x2 + 1) x2 σ) fun u1 =>
    K79 u1 x1 (x2 + 1)
set_option maxRecDepth 100000 in
theorem m_M_next_79B {κ : GC} {Γ : GA} (hX : Gx κ Γ 3 b_M_next "PaneScreenModel" r_M_next (some .int)) (K79 : Mem → Int32 → Int32 → Option (Int32 × Mem)) (hK79 : ∀ (σ : Mem) (x1 : Int32) (x2 : Int32), GG κ Γ 3 (gQ gqi κ Γ r_M_next) 0 0 σ [some (.ref (Γ.2.1 19)), some (.int x1), some (.int x2)] 79 [] (K79 σ x1 x2)) (σ : Mem) (x1 : Int32) (x2 : Int32) : GG κ Γ 3 (gQ gqi κ Γ r_M_next) 0 0 σ [some (.ref (Γ.2.1 19)), some (.int x1), some (.int x2)] 79 [] (f_M_next_79B K79 σ x1 x2) := by
  unfold f_M_next_79B
  refine g_iload_n hX 2 d_M_next_79 (n := 80) rfl rfl rfl ?_
  refine g_aload_n hX 0 d_M_next_80 (n := 81) rfl rfl rfl ?_
  refine g_geti hX gf_M_130 d_M_next_81 (n := 84) rfl sh_19 rfl ?_
  refine g_icmp_ge hX 101 d_M_next_84 (n := 87) rfl rfl ?_ ?_
  · refine g_iload_n hX 1 d_M_next_101 (n := 102) rfl rfl rfl ?_
    exact g_iret hX d_M_next_102 (by decide) (by decide)
  · refine g_aload_n hX 0 d_M_next_87 (n := 88) rfl rfl rfl ?_
    refine g_iload_n hX 2 d_M_next_88 (n := 89) rfl rfl rfl ?_
    refine g_iconst hX 1 d_M_next_89 (n := 90) rfl k_iconst_1 ?_
    refine g_iadd hX d_M_next_90 (n := 91) rfl ?_
    refine g_iload_n hX 2 d_M_next_91 (n := 92) rfl rfl rfl ?_
    refine g_cVv hX [_, _] rfl 0 0 (c_M_moveEvent _ Γ (x2 + 1) x2 σ) gw_M_133 rfl sh_19 rfl d_M_next_92 (n := 95) rfl ⟨by decide, by decide⟩ ⟨by decide, by decide⟩ (Nat.le_of_ble_eq_true rfl) rfl rfl (fun u1 => ?_)
    refine g_iinc hX 1 _ [_, _, _] d_M_next_95 (n := 98) rfl rfl k_iconst_1 rfl (by decide) rfl ?_
    refine g_goto hX 79 d_M_next_98 rfl ?_
    exact (hK79 u1 x1 (x2 + 1))
def f_M_next_79 (n : Nat) : Mem → Int32 → Int32 → Option (Int32 × Mem) := gfix (fun _ _ _ => none) (fun K79 => f_M_next_79B K79) n
theorem m_M_next_79 {κ : GC} {Γ : GA} (hX : Gx κ Γ 3 b_M_next "PaneScreenModel" r_M_next (some .int)) (n : Nat) : ∀ (σ : Mem) (x1 : Int32) (x2 : Int32), GG κ Γ 3 (gQ gqi κ Γ r_M_next) 0 0 σ [some (.ref (Γ.2.1 19)), some (.int x1), some (.int x2)] 79 [] (f_M_next_79 n σ x1 x2) := by
  induction n with
  | zero => intros; exact g_none
  | succ n ih => intro σ x1 x2; exact m_M_next_79B hX (f_M_next_79 n) ih σ x1 x2
def f_M_next_13 (σ : Mem) (s0 : Int32) : Option (Int32 × Mem) :=
  gbm (m2 σ 19 0 s0) fun u1 =>
  if (u1 19 0) ≤ 0 then
    if gin 0 12 = true then
      gbi (u1 36 (0 : Int32).toNatClampNeg) fun y2 =>
      gbm (m2 u1 19 31 1) fun u3 =>
      if gin 0 12 = true then
        gbm (m2 u3 19 32 (u3 37 (0 : Int32).toNatClampNeg)) fun u4 =>
        if gin 0 12 = true then
          gbm (m2 u4 19 33 (u4 38 (0 : Int32).toNatClampNeg)) fun u5 =>
          if gin 0 12 = true then
            gbm (m2 u5 19 34 (u5 39 (0 : Int32).toNatClampNeg)) fun u6 =>
            gbm (m2 u6 19 26 ((u6 19 26) - 1)) fun u7 =>
            f_M_next_79 gN u7 y2 0
          else none
        else none
      else none
    else none
  else
    some (0, u1)
set_option maxRecDepth 100000 in
theorem m_M_next_13 {κ : GC} {Γ : GA} (hX : Gx κ Γ 3 b_M_next "PaneScreenModel" r_M_next (some .int)) (σ : Mem) (s0 : Int32) : GG κ Γ 3 (gQ gqi κ Γ r_M_next) 0 0 σ [some (.ref (Γ.2.1 19)), none, none] 13 [.int s0, .ref (Γ.2.1 19)] (f_M_next_13 σ s0) := by
  unfold f_M_next_13
  refine g_puti hX gp_M_75 d_M_next_13 (n := 16) rfl sh_19 rfl ?_
  refine g_mem (fun u1 => ?_)
  refine g_aload_n hX 0 d_M_next_16 (n := 17) rfl rfl rfl ?_
  refine g_geti hX gf_M_75 d_M_next_17 (n := 20) rfl sh_19 rfl ?_
  refine g_if_le hX 25 d_M_next_20 (n := 23) rfl rfl ?_ ?_
  · refine g_aload_n hX 0 d_M_next_25 (n := 26) rfl rfl rfl ?_
    refine g_geta hX 36 gf_M_63 d_M_next_26 (n := 29) rfl sh_19 rfl ?_
    refine g_iconst hX 0 d_M_next_29 (n := 30) rfl k_iconst_0 ?_
    refine g_iald hX d_M_next_30 (n := 31) rfl sh_36 ?_
    refine g_top (fun y2 => ?_)
    refine g_istore_n hX 1 [_, _, _] d_M_next_31 (n := 32) rfl rfl (by decide) rfl ?_
    refine g_aload_n hX 0 d_M_next_32 (n := 33) rfl rfl rfl ?_
    refine g_iconst hX 1 d_M_next_33 (n := 34) rfl k_iconst_1 ?_
    refine g_putz hX gp_M_180 d_M_next_34 (n := 37) rfl sh_19 rfl rfl rfl ?_
    refine g_mem (fun u3 => ?_)
    refine g_aload_n hX 0 d_M_next_37 (n := 38) rfl rfl rfl ?_
    refine g_aload_n hX 0 d_M_next_38 (n := 39) rfl rfl rfl ?_
    refine g_geta hX 37 gf_M_66 d_M_next_39 (n := 42) rfl sh_19 rfl ?_
    refine g_iconst hX 0 d_M_next_42 (n := 43) rfl k_iconst_0 ?_
    refine g_iald hX d_M_next_43 (n := 44) rfl sh_37 ?_
    refine g_puti hX gp_M_183 d_M_next_44 (n := 47) rfl sh_19 rfl ?_
    refine g_mem (fun u4 => ?_)
    refine g_aload_n hX 0 d_M_next_47 (n := 48) rfl rfl rfl ?_
    refine g_aload_n hX 0 d_M_next_48 (n := 49) rfl rfl rfl ?_
    refine g_geta hX 38 gf_M_69 d_M_next_49 (n := 52) rfl sh_19 rfl ?_
    refine g_iconst hX 0 d_M_next_52 (n := 53) rfl k_iconst_0 ?_
    refine g_iald hX d_M_next_53 (n := 54) rfl sh_38 ?_
    refine g_puti hX gp_M_186 d_M_next_54 (n := 57) rfl sh_19 rfl ?_
    refine g_mem (fun u5 => ?_)
    refine g_aload_n hX 0 d_M_next_57 (n := 58) rfl rfl rfl ?_
    refine g_aload_n hX 0 d_M_next_58 (n := 59) rfl rfl rfl ?_
    refine g_geta hX 39 gf_M_72 d_M_next_59 (n := 62) rfl sh_19 rfl ?_
    refine g_iconst hX 0 d_M_next_62 (n := 63) rfl k_iconst_0 ?_
    refine g_iald hX d_M_next_63 (n := 64) rfl sh_39 ?_
    refine g_puti hX gp_M_189 d_M_next_64 (n := 67) rfl sh_19 rfl ?_
    refine g_mem (fun u6 => ?_)
    refine g_aload_n hX 0 d_M_next_67 (n := 68) rfl rfl rfl ?_
    refine g_dup hX d_M_next_68 (n := 69) rfl rfl ?_
    refine g_geti hX gf_M_130 d_M_next_69 (n := 72) rfl sh_19 rfl ?_
    refine g_iconst hX 1 d_M_next_72 (n := 73) rfl k_iconst_1 ?_
    refine g_isub hX d_M_next_73 (n := 74) rfl ?_
    refine g_puti hX gp_M_130 d_M_next_74 (n := 77) rfl sh_19 rfl ?_
    refine g_mem (fun u7 => ?_)
    refine g_iconst hX 0 d_M_next_77 (n := 78) rfl k_iconst_0 ?_
    refine g_istore_n hX 2 [_, _, _] d_M_next_78 (n := 79) rfl rfl (by decide) rfl ?_
    exact (m_M_next_79 hX gN u7 y2 0)
  · refine g_iconst hX 0 d_M_next_23 (n := 24) rfl k_iconst_0 ?_
    exact g_iret hX d_M_next_24 (by decide) (by decide)
def f_M_next_0 (σ : Mem) : Option (Int32 × Mem) :=
  if (σ 19 26) = 0 then
    f_M_next_13 σ 1
  else
    f_M_next_13 σ 0
set_option maxRecDepth 100000 in
theorem m_M_next_0 {κ : GC} {Γ : GA} (hX : Gx κ Γ 3 b_M_next "PaneScreenModel" r_M_next (some .int)) (σ : Mem) : GG κ Γ 3 (gQ gqi κ Γ r_M_next) 0 0 σ [some (.ref (Γ.2.1 19)), none, none] 0 [] (f_M_next_0 σ) := by
  unfold f_M_next_0
  refine g_aload_n hX 0 d_M_next_0 (n := 1) rfl rfl rfl ?_
  refine g_aload_n hX 0 d_M_next_1 (n := 2) rfl rfl rfl ?_
  refine g_geti hX gf_M_130 d_M_next_2 (n := 5) rfl sh_19 rfl ?_
  refine g_if_ne hX 12 d_M_next_5 (n := 8) rfl rfl ?_ ?_
  · refine g_iconst hX 0 d_M_next_12 (n := 13) rfl k_iconst_0 ?_
    exact (m_M_next_13 hX σ 0)
  · refine g_iconst hX 1 d_M_next_8 (n := 9) rfl k_iconst_1 ?_
    refine g_goto hX 13 d_M_next_9 rfl ?_
    exact (m_M_next_13 hX σ 1)
def f_M_next (σ : Mem) : Option (Int32 × Mem) := f_M_next_0 σ
theorem c_M_next (l : Launch) (Γ : GA) (σ : Mem) : gM gqi l y_M_next b_M_next 3 (some .int) r_M_next [.ref (Γ.2.1 19)] Γ σ (f_M_next σ) :=
  gM.of [some (.ref (Γ.2.1 19)), none, none] (by decide) (Nat.le_of_ble_eq_true rfl) rfl rfl (fun κ hX _ => m_M_next_0 hX σ)
/-! M_event -/
theorem d_M_event_0 : decode b_M_event 0 = .ok (.aload_n 0, 1) := by decide +kernel
theorem d_M_event_1 : decode b_M_event 1 = .ok (.aload_n 0, 1) := by decide +kernel
theorem d_M_event_2 : decode b_M_event 2 = .ok (.getfield 180, 3) := by decide +kernel
theorem d_M_event_5 : decode b_M_event 5 = .ok (.ifCond .ne 7, 3) := by decide +kernel
theorem d_M_event_8 : decode b_M_event 8 = .ok (.iconst 1, 1) := by decide +kernel
theorem d_M_event_9 : decode b_M_event 9 = .ok (.goto 17, 3) := by decide +kernel
theorem d_M_event_12 : decode b_M_event 12 = .ok (.iload_n 1, 1) := by decide +kernel
theorem d_M_event_13 : decode b_M_event 13 = .ok (.ifCond .lt 8, 3) := by decide +kernel
theorem d_M_event_16 : decode b_M_event 16 = .ok (.iload_n 1, 1) := by decide +kernel
theorem d_M_event_17 : decode b_M_event 17 = .ok (.iconst 2, 1) := by decide +kernel
theorem d_M_event_18 : decode b_M_event 18 = .ok (.if_icmp .le 7, 3) := by decide +kernel
theorem d_M_event_21 : decode b_M_event 21 = .ok (.iconst 2, 1) := by decide +kernel
theorem d_M_event_22 : decode b_M_event 22 = .ok (.goto 4, 3) := by decide +kernel
theorem d_M_event_25 : decode b_M_event 25 = .ok (.iconst 0, 1) := by decide +kernel
theorem d_M_event_26 : decode b_M_event 26 = .ok (.putfield 75, 3) := by decide +kernel
theorem d_M_event_29 : decode b_M_event 29 = .ok (.aload_n 0, 1) := by decide +kernel
theorem d_M_event_30 : decode b_M_event 30 = .ok (.getfield 75, 3) := by decide +kernel
theorem d_M_event_33 : decode b_M_event 33 = .ok (.ifCond .le 7, 3) := by decide +kernel
theorem d_M_event_36 : decode b_M_event 36 = .ok (.iconst 0, 1) := by decide +kernel
theorem d_M_event_37 : decode b_M_event 37 = .ok (.goto 30, 3) := by decide +kernel
theorem d_M_event_40 : decode b_M_event 40 = .ok (.iload_n 1, 1) := by decide +kernel
theorem d_M_event_41 : decode b_M_event 41 = .ok (.ifCond .ne 10, 3) := by decide +kernel
theorem d_M_event_44 : decode b_M_event 44 = .ok (.aload_n 0, 1) := by decide +kernel
theorem d_M_event_45 : decode b_M_event 45 = .ok (.getfield 183, 3) := by decide +kernel
theorem d_M_event_48 : decode b_M_event 48 = .ok (.goto 19, 3) := by decide +kernel
theorem d_M_event_51 : decode b_M_event 51 = .ok (.iload_n 1, 1) := by decide +kernel
theorem d_M_event_52 : decode b_M_event 52 = .ok (.iconst 1, 1) := by decide +kernel
theorem d_M_event_53 : decode b_M_event 53 = .ok (.if_icmp .ne 10, 3) := by decide +kernel
theorem d_M_event_56 : decode b_M_event 56 = .ok (.aload_n 0, 1) := by decide +kernel
theorem d_M_event_57 : decode b_M_event 57 = .ok (.getfield 186, 3) := by decide +kernel
theorem d_M_event_60 : decode b_M_event 60 = .ok (.goto 7, 3) := by decide +kernel
theorem d_M_event_63 : decode b_M_event 63 = .ok (.aload_n 0, 1) := by decide +kernel
theorem d_M_event_64 : decode b_M_event 64 = .ok (.getfield 189, 3) := by decide +kernel
theorem d_M_event_67 : decode b_M_event 67 = .ok (.ireturn, 1) := by decide +kernel
abbrev r_M_event : Room := ⟨0, 0, 0, 0⟩
def f_M_event_67 (σ : Mem) (s0 : Int32) : Option (Int32 × Mem) :=
  some (s0, σ)
set_option maxRecDepth 100000 in
theorem m_M_event_67 {κ : GC} {Γ : GA} (hX : Gx κ Γ 2 b_M_event "PaneScreenModel" r_M_event (some .int)) (σ : Mem) (s0 : Int32) : GG κ Γ 2 (gQ gqi κ Γ r_M_event) 0 0 σ [none, none] 67 [.int s0] (f_M_event_67 σ s0) := by
  unfold f_M_event_67
  exact g_iret hX d_M_event_67 (by decide) (by decide)
def f_M_event_26 (σ : Mem) (x1 : Int32) (s0 : Int32) : Option (Int32 × Mem) :=
  gbm (m2 σ 19 0 s0) fun u1 =>
  if (u1 19 0) ≤ 0 then
    if x1 = 0 then
      f_M_event_67 u1 (u1 19 32)
    else
      if x1 = 1 then
        f_M_event_67 u1 (u1 19 33)
      else
        f_M_event_67 u1 (u1 19 34)
  else
    f_M_event_67 u1 0
set_option maxRecDepth 100000 in
theorem m_M_event_26 {κ : GC} {Γ : GA} (hX : Gx κ Γ 2 b_M_event "PaneScreenModel" r_M_event (some .int)) (σ : Mem) (x1 : Int32) (s0 : Int32) : GG κ Γ 2 (gQ gqi κ Γ r_M_event) 0 0 σ [some (.ref (Γ.2.1 19)), some (.int x1)] 26 [.int s0, .ref (Γ.2.1 19)] (f_M_event_26 σ x1 s0) := by
  unfold f_M_event_26
  refine g_puti hX gp_M_75 d_M_event_26 (n := 29) rfl sh_19 rfl ?_
  refine g_mem (fun u1 => ?_)
  refine g_aload_n hX 0 d_M_event_29 (n := 30) rfl rfl rfl ?_
  refine g_geti hX gf_M_75 d_M_event_30 (n := 33) rfl sh_19 rfl ?_
  refine g_if_le hX 40 d_M_event_33 (n := 36) rfl rfl ?_ ?_
  · refine g_iload_n hX 1 d_M_event_40 (n := 41) rfl rfl rfl ?_
    refine g_if_ne hX 51 d_M_event_41 (n := 44) rfl rfl ?_ ?_
    · refine g_iload_n hX 1 d_M_event_51 (n := 52) rfl rfl rfl ?_
      refine g_iconst hX 1 d_M_event_52 (n := 53) rfl k_iconst_1 ?_
      refine g_icmp_ne hX 63 d_M_event_53 (n := 56) rfl rfl ?_ ?_
      · refine g_aload_n hX 0 d_M_event_63 (n := 64) rfl rfl rfl ?_
        refine g_geti hX gf_M_189 d_M_event_64 (n := 67) rfl sh_19 rfl ?_
        exact (g_sub (lw := [none, none]) (True.intro) (m_M_event_67 hX u1 (u1 19 34)))
      · refine g_aload_n hX 0 d_M_event_56 (n := 57) rfl rfl rfl ?_
        refine g_geti hX gf_M_186 d_M_event_57 (n := 60) rfl sh_19 rfl ?_
        refine g_goto hX 67 d_M_event_60 rfl ?_
        exact (g_sub (lw := [none, none]) (True.intro) (m_M_event_67 hX u1 (u1 19 33)))
    · refine g_aload_n hX 0 d_M_event_44 (n := 45) rfl rfl rfl ?_
      refine g_geti hX gf_M_183 d_M_event_45 (n := 48) rfl sh_19 rfl ?_
      refine g_goto hX 67 d_M_event_48 rfl ?_
      exact (g_sub (lw := [none, none]) (True.intro) (m_M_event_67 hX u1 (u1 19 32)))
  · refine g_iconst hX 0 d_M_event_36 (n := 37) rfl k_iconst_0 ?_
    refine g_goto hX 67 d_M_event_37 rfl ?_
    exact (g_sub (lw := [none, none]) (True.intro) (m_M_event_67 hX u1 0))
def f_M_event_21 (σ : Mem) (x1 : Int32) : Option (Int32 × Mem) :=
  f_M_event_26 σ x1 2
set_option maxRecDepth 100000 in
theorem m_M_event_21 {κ : GC} {Γ : GA} (hX : Gx κ Γ 2 b_M_event "PaneScreenModel" r_M_event (some .int)) (σ : Mem) (x1 : Int32) : GG κ Γ 2 (gQ gqi κ Γ r_M_event) 0 0 σ [some (.ref (Γ.2.1 19)), some (.int x1)] 21 [.ref (Γ.2.1 19)] (f_M_event_21 σ x1) := by
  unfold f_M_event_21
  refine g_iconst hX 2 d_M_event_21 (n := 22) rfl k_iconst_2 ?_
  refine g_goto hX 26 d_M_event_22 rfl ?_
  exact (m_M_event_26 hX σ x1 2)
def f_M_event_0 (σ : Mem) (x1 : Int32) : Option (Int32 × Mem) :=
  if (σ 19 31) = 0 then
    f_M_event_26 σ x1 1
  else
    if x1 < 0 then
      f_M_event_21 σ x1
    else
      if x1 ≤ 2 then
        f_M_event_26 σ x1 0
      else
        f_M_event_21 σ x1
set_option maxRecDepth 100000 in
theorem m_M_event_0 {κ : GC} {Γ : GA} (hX : Gx κ Γ 2 b_M_event "PaneScreenModel" r_M_event (some .int)) (σ : Mem) (x1 : Int32) : GG κ Γ 2 (gQ gqi κ Γ r_M_event) 0 0 σ [some (.ref (Γ.2.1 19)), some (.int x1)] 0 [] (f_M_event_0 σ x1) := by
  unfold f_M_event_0
  refine g_aload_n hX 0 d_M_event_0 (n := 1) rfl rfl rfl ?_
  refine g_aload_n hX 0 d_M_event_1 (n := 2) rfl rfl rfl ?_
  refine g_geti hX gf_M_180 d_M_event_2 (n := 5) rfl sh_19 rfl ?_
  refine g_if_ne hX 12 d_M_event_5 (n := 8) rfl rfl ?_ ?_
  · refine g_iload_n hX 1 d_M_event_12 (n := 13) rfl rfl rfl ?_
    refine g_if_lt hX 21 d_M_event_13 (n := 16) rfl rfl ?_ ?_
    · exact (m_M_event_21 hX σ x1)
    · refine g_iload_n hX 1 d_M_event_16 (n := 17) rfl rfl rfl ?_
      refine g_iconst hX 2 d_M_event_17 (n := 18) rfl k_iconst_2 ?_
      refine g_icmp_le hX 25 d_M_event_18 (n := 21) rfl rfl ?_ ?_
      · refine g_iconst hX 0 d_M_event_25 (n := 26) rfl k_iconst_0 ?_
        exact (m_M_event_26 hX σ x1 0)
      · exact (m_M_event_21 hX σ x1)
  · refine g_iconst hX 1 d_M_event_8 (n := 9) rfl k_iconst_1 ?_
    refine g_goto hX 26 d_M_event_9 rfl ?_
    exact (m_M_event_26 hX σ x1 1)
def f_M_event (x1 : Int32) (σ : Mem) : Option (Int32 × Mem) := f_M_event_0 σ x1
theorem c_M_event (l : Launch) (Γ : GA) (x1 : Int32) (σ : Mem) : gM gqi l y_M_event b_M_event 2 (some .int) r_M_event [.ref (Γ.2.1 19), .int x1] Γ σ (f_M_event x1 σ) :=
  gM.of [some (.ref (Γ.2.1 19)), some (.int x1)] (by decide) (Nat.le_of_ble_eq_true rfl) rfl rfl (fun κ hX _ => m_M_event_0 hX σ x1)
/-! M_freeCells -/
theorem d_M_freeCells_0 : decode b_M_freeCells 0 = .ok (.iconst 0, 1) := by decide +kernel
theorem d_M_freeCells_1 : decode b_M_freeCells 1 = .ok (.istore_n 2, 1) := by decide +kernel
theorem d_M_freeCells_2 : decode b_M_freeCells 2 = .ok (.iconst 0, 1) := by decide +kernel
theorem d_M_freeCells_3 : decode b_M_freeCells 3 = .ok (.istore_n 3, 1) := by decide +kernel
theorem d_M_freeCells_4 : decode b_M_freeCells 4 = .ok (.iconst 0, 1) := by decide +kernel
theorem d_M_freeCells_5 : decode b_M_freeCells 5 = .ok (.istore 4, 2) := by decide +kernel
theorem d_M_freeCells_7 : decode b_M_freeCells 7 = .ok (.iconst 0, 1) := by decide +kernel
theorem d_M_freeCells_8 : decode b_M_freeCells 8 = .ok (.istore 5, 2) := by decide +kernel
theorem d_M_freeCells_10 : decode b_M_freeCells 10 = .ok (.iload 5, 2) := by decide +kernel
theorem d_M_freeCells_12 : decode b_M_freeCells 12 = .ok (.sipush 400, 3) := by decide +kernel
theorem d_M_freeCells_15 : decode b_M_freeCells 15 = .ok (.if_icmp .ge 57, 3) := by decide +kernel
theorem d_M_freeCells_18 : decode b_M_freeCells 18 = .ok (.aload_n 0, 1) := by decide +kernel
theorem d_M_freeCells_19 : decode b_M_freeCells 19 = .ok (.iload 5, 2) := by decide +kernel
theorem d_M_freeCells_21 : decode b_M_freeCells 21 = .ok (.invokevirtual 105, 3) := by decide +kernel
theorem d_M_freeCells_24 : decode b_M_freeCells 24 = .ok (.istore 6, 2) := by decide +kernel
theorem d_M_freeCells_26 : decode b_M_freeCells 26 = .ok (.iload_n 2, 1) := by decide +kernel
theorem d_M_freeCells_27 : decode b_M_freeCells 27 = .ok (.iload 6, 2) := by decide +kernel
theorem d_M_freeCells_29 : decode b_M_freeCells 29 = .ok (.ifCond .eq 7, 3) := by decide +kernel
theorem d_M_freeCells_32 : decode b_M_freeCells 32 = .ok (.iconst 1, 1) := by decide +kernel
theorem d_M_freeCells_33 : decode b_M_freeCells 33 = .ok (.goto 4, 3) := by decide +kernel
theorem d_M_freeCells_36 : decode b_M_freeCells 36 = .ok (.iconst 0, 1) := by decide +kernel
theorem d_M_freeCells_37 : decode b_M_freeCells 37 = .ok (.iadd, 1) := by decide +kernel
theorem d_M_freeCells_38 : decode b_M_freeCells 38 = .ok (.istore_n 2, 1) := by decide +kernel
theorem d_M_freeCells_39 : decode b_M_freeCells 39 = .ok (.iload 6, 2) := by decide +kernel
theorem d_M_freeCells_41 : decode b_M_freeCells 41 = .ok (.ifCond .eq 9, 3) := by decide +kernel
theorem d_M_freeCells_44 : decode b_M_freeCells 44 = .ok (.iload_n 3, 1) := by decide +kernel
theorem d_M_freeCells_45 : decode b_M_freeCells 45 = .ok (.iconst 1, 1) := by decide +kernel
theorem d_M_freeCells_46 : decode b_M_freeCells 46 = .ok (.iadd, 1) := by decide +kernel
theorem d_M_freeCells_47 : decode b_M_freeCells 47 = .ok (.goto 4, 3) := by decide +kernel
theorem d_M_freeCells_50 : decode b_M_freeCells 50 = .ok (.iconst 0, 1) := by decide +kernel
theorem d_M_freeCells_51 : decode b_M_freeCells 51 = .ok (.istore_n 3, 1) := by decide +kernel
theorem d_M_freeCells_52 : decode b_M_freeCells 52 = .ok (.iload_n 3, 1) := by decide +kernel
theorem d_M_freeCells_53 : decode b_M_freeCells 53 = .ok (.iload 4, 2) := by decide +kernel
theorem d_M_freeCells_55 : decode b_M_freeCells 55 = .ok (.if_icmp .le 7, 3) := by decide +kernel
theorem d_M_freeCells_58 : decode b_M_freeCells 58 = .ok (.iload_n 3, 1) := by decide +kernel
theorem d_M_freeCells_59 : decode b_M_freeCells 59 = .ok (.goto 5, 3) := by decide +kernel
theorem d_M_freeCells_62 : decode b_M_freeCells 62 = .ok (.iload 4, 2) := by decide +kernel
theorem d_M_freeCells_64 : decode b_M_freeCells 64 = .ok (.istore 4, 2) := by decide +kernel
theorem d_M_freeCells_66 : decode b_M_freeCells 66 = .ok (.iinc 5 1, 3) := by decide +kernel
theorem d_M_freeCells_69 : decode b_M_freeCells 69 = .ok (.goto (-59), 3) := by decide +kernel
theorem d_M_freeCells_72 : decode b_M_freeCells 72 = .ok (.iload_n 1, 1) := by decide +kernel
theorem d_M_freeCells_73 : decode b_M_freeCells 73 = .ok (.ifCond .eq 8, 3) := by decide +kernel
theorem d_M_freeCells_76 : decode b_M_freeCells 76 = .ok (.iload 4, 2) := by decide +kernel
theorem d_M_freeCells_78 : decode b_M_freeCells 78 = .ok (.goto 4, 3) := by decide +kernel
theorem d_M_freeCells_81 : decode b_M_freeCells 81 = .ok (.iload_n 2, 1) := by decide +kernel
theorem d_M_freeCells_82 : decode b_M_freeCells 82 = .ok (.ireturn, 1) := by decide +kernel
abbrev r_M_freeCells : Room := ⟨1, 0, 0, 23⟩
def f_M_freeCells_64 (K10 : Mem → Int32 → Int32 → Int32 → Int32 → Int32 → Option (Int32 × Mem)) (σ : Mem) (x1 : Int32) (x2 : Int32) (x3 : Int32) (x5 : Int32) (s0 : Int32) : Option (Int32 × Mem) :=
  K10 σ x1 x2 x3 s0 (x5 + 1)
set_option maxRecDepth 100000 in
theorem m_M_freeCells_64 {κ : GC} {Γ : GA} (hX : Gx κ Γ 7 b_M_freeCells "PaneScreenModel" r_M_freeCells (some .int)) (K10 : Mem → Int32 → Int32 → Int32 → Int32 → Int32 → Option (Int32 × Mem)) (hK10 : ∀ (σ : Mem) (x1 : Int32) (x2 : Int32) (x3 : Int32) (x4 : Int32) (x5 : Int32), GG κ Γ 7 (gQ gqi κ Γ r_M_freeCells) 0 0 σ [some (.ref (Γ.2.1 19)), some (.int x1), some (.int x2), some (.int x3), some (.int x4), some (.int x5), none] 10 [] (K10 σ x1 x2 x3 x4 x5)) (σ : Mem) (x1 : Int32) (x2 : Int32) (x3 : Int32) (x5 : Int32) (s0 : Int32) : GG κ Γ 7 (gQ gqi κ Γ r_M_freeCells) 0 0 σ [some (.ref (Γ.2.1 19)), some (.int x1), some (.int x2), some (.int x3), none, some (.int x5), none] 64 [.int s0] (f_M_freeCells_64 K10 σ x1 x2 x3 x5 s0) := by
  unfold f_M_freeCells_64
  refine g_istore hX [_, _, _, _, _, _, _] d_M_freeCells_64 (n := 66) rfl (by decide) rfl ?_
  refine g_iinc hX 1 _ [_, _, _, _, _, _, _] d_M_freeCells_66 (n := 69) rfl rfl k_iconst_1 rfl (by decide) rfl ?_
  refine g_goto hX 10 d_M_freeCells_69 rfl ?_
  exact (hK10 σ x1 x2 x3 s0 (x5 + 1))
def f_M_freeCells_51 (K10 : Mem → Int32 → Int32 → Int32 → Int32 → Int32 → Option (Int32 × Mem)) (σ : Mem) (x1 : Int32) (x2 : Int32) (x4 : Int32) (x5 : Int32) (s0 : Int32) : Option (Int32 × Mem) :=
  if s0 ≤ x4 then
    f_M_freeCells_64 K10 σ x1 x2 s0 x5 x4
  else
    f_M_freeCells_64 K10 σ x1 x2 s0 x5 s0
set_option maxRecDepth 100000 in
theorem m_M_freeCells_51 {κ : GC} {Γ : GA} (hX : Gx κ Γ 7 b_M_freeCells "PaneScreenModel" r_M_freeCells (some .int)) (K10 : Mem → Int32 → Int32 → Int32 → Int32 → Int32 → Option (Int32 × Mem)) (hK10 : ∀ (σ : Mem) (x1 : Int32) (x2 : Int32) (x3 : Int32) (x4 : Int32) (x5 : Int32), GG κ Γ 7 (gQ gqi κ Γ r_M_freeCells) 0 0 σ [some (.ref (Γ.2.1 19)), some (.int x1), some (.int x2), some (.int x3), some (.int x4), some (.int x5), none] 10 [] (K10 σ x1 x2 x3 x4 x5)) (σ : Mem) (x1 : Int32) (x2 : Int32) (x4 : Int32) (x5 : Int32) (s0 : Int32) : GG κ Γ 7 (gQ gqi κ Γ r_M_freeCells) 0 0 σ [some (.ref (Γ.2.1 19)), some (.int x1), some (.int x2), none, some (.int x4), some (.int x5), none] 51 [.int s0] (f_M_freeCells_51 K10 σ x1 x2 x4 x5 s0) := by
  unfold f_M_freeCells_51
  refine g_istore_n hX 3 [_, _, _, _, _, _, _] d_M_freeCells_51 (n := 52) rfl rfl (by decide) rfl ?_
  refine g_iload_n hX 3 d_M_freeCells_52 (n := 53) rfl rfl rfl ?_
  refine g_iload hX d_M_freeCells_53 (n := 55) rfl rfl ?_
  refine g_icmp_le hX 62 d_M_freeCells_55 (n := 58) rfl rfl ?_ ?_
  · refine g_iload hX d_M_freeCells_62 (n := 64) rfl rfl ?_
    exact (g_sub (lw := [some (.ref (Γ.2.1 19)), some (.int x1), some (.int x2), some (.int s0), none, some (.int x5), none]) (And.intro rfl (And.intro rfl (And.intro rfl (And.intro rfl (And.intro rfl (True.intro)))))) (m_M_freeCells_64 hX K10 hK10 σ x1 x2 s0 x5 x4))
  · refine g_iload_n hX 3 d_M_freeCells_58 (n := 59) rfl rfl rfl ?_
    refine g_goto hX 64 d_M_freeCells_59 rfl ?_
    exact (g_sub (lw := [some (.ref (Γ.2.1 19)), some (.int x1), some (.int x2), some (.int s0), none, some (.int x5), none]) (And.intro rfl (And.intro rfl (And.intro rfl (And.intro rfl (And.intro rfl (True.intro)))))) (m_M_freeCells_64 hX K10 hK10 σ x1 x2 s0 x5 s0))
def f_M_freeCells_37 (K10 : Mem → Int32 → Int32 → Int32 → Int32 → Int32 → Option (Int32 × Mem)) (σ : Mem) (x1 : Int32) (x3 : Int32) (x4 : Int32) (x5 : Int32) (x6 : Int32) (s0 : Int32) (s1 : Int32) : Option (Int32 × Mem) :=
  gbi (s1 + s0) fun y1 =>
  if x6 = 0 then
    f_M_freeCells_51 K10 σ x1 y1 x4 x5 0
  else
    f_M_freeCells_51 K10 σ x1 y1 x4 x5 (x3 + 1)
set_option maxRecDepth 100000 in
theorem m_M_freeCells_37 {κ : GC} {Γ : GA} (hX : Gx κ Γ 7 b_M_freeCells "PaneScreenModel" r_M_freeCells (some .int)) (K10 : Mem → Int32 → Int32 → Int32 → Int32 → Int32 → Option (Int32 × Mem)) (hK10 : ∀ (σ : Mem) (x1 : Int32) (x2 : Int32) (x3 : Int32) (x4 : Int32) (x5 : Int32), GG κ Γ 7 (gQ gqi κ Γ r_M_freeCells) 0 0 σ [some (.ref (Γ.2.1 19)), some (.int x1), some (.int x2), some (.int x3), some (.int x4), some (.int x5), none] 10 [] (K10 σ x1 x2 x3 x4 x5)) (σ : Mem) (x1 : Int32) (x3 : Int32) (x4 : Int32) (x5 : Int32) (x6 : Int32) (s0 : Int32) (s1 : Int32) : GG κ Γ 7 (gQ gqi κ Γ r_M_freeCells) 0 0 σ [some (.ref (Γ.2.1 19)), some (.int x1), none, some (.int x3), some (.int x4), some (.int x5), some (.int x6)] 37 [.int s0, .int s1] (f_M_freeCells_37 K10 σ x1 x3 x4 x5 x6 s0 s1) := by
  unfold f_M_freeCells_37
  refine g_iadd hX d_M_freeCells_37 (n := 38) rfl ?_
  refine g_top (fun y1 => ?_)
  refine g_istore_n hX 2 [_, _, _, _, _, _, _] d_M_freeCells_38 (n := 39) rfl rfl (by decide) rfl ?_
  refine g_iload hX d_M_freeCells_39 (n := 41) rfl rfl ?_
  refine g_if_eq hX 50 d_M_freeCells_41 (n := 44) rfl rfl ?_ ?_
  · refine g_iconst hX 0 d_M_freeCells_50 (n := 51) rfl k_iconst_0 ?_
    exact (g_sub (lw := [some (.ref (Γ.2.1 19)), some (.int x1), some (.int y1), none, some (.int x4), some (.int x5), none]) (And.intro rfl (And.intro rfl (And.intro rfl (And.intro rfl (And.intro rfl (True.intro)))))) (m_M_freeCells_51 hX K10 hK10 σ x1 y1 x4 x5 0))
  · refine g_iload_n hX 3 d_M_freeCells_44 (n := 45) rfl rfl rfl ?_
    refine g_iconst hX 1 d_M_freeCells_45 (n := 46) rfl k_iconst_1 ?_
    refine g_iadd hX d_M_freeCells_46 (n := 47) rfl ?_
    refine g_goto hX 51 d_M_freeCells_47 rfl ?_
    exact (g_sub (lw := [some (.ref (Γ.2.1 19)), some (.int x1), some (.int y1), none, some (.int x4), some (.int x5), none]) (And.intro rfl (And.intro rfl (And.intro rfl (And.intro rfl (And.intro rfl (True.intro)))))) (m_M_freeCells_51 hX K10 hK10 σ x1 y1 x4 x5 (x3 + 1)))
def f_M_freeCells_82 (σ : Mem) (s0 : Int32) : Option (Int32 × Mem) :=
  some (s0, σ)
set_option maxRecDepth 100000 in
theorem m_M_freeCells_82 {κ : GC} {Γ : GA} (hX : Gx κ Γ 7 b_M_freeCells "PaneScreenModel" r_M_freeCells (some .int)) (σ : Mem) (s0 : Int32) : GG κ Γ 7 (gQ gqi κ Γ r_M_freeCells) 0 0 σ [none, none, none, none, none, none, none] 82 [.int s0] (f_M_freeCells_82 σ s0) := by
  unfold f_M_freeCells_82
  exact g_iret hX d_M_freeCells_82 (by decide) (by decide)
def f_M_freeCells_10B (K10 : Mem → Int32 → Int32 → Int32 → Int32 → Int32 → Option (Int32 × Mem)) (σ : Mem) (x1 : Int32) (x2 : Int32) (x3 : Int32) (x4 : Int32) (x5 : Int32) : Option (Int32 × Mem) :=
  if 400 ≤ x5 then
    if x1 = 0 then
      f_M_freeCells_82 σ x2
    else
      f_M_freeCells_82 σ x4
  else
    gb (f_M_isFree x5 σ) fun r2 u1 =>
    if r2 = 0 then
      f_M_freeCells_37 K10 u1 x1 x3 x4 x5 r2 0 x2
    else
      f_M_freeCells_37 K10 u1 x1 x3 x4 x5 r2 1 x2
set_option maxRecDepth 100000 in
theorem m_M_freeCells_10B {κ : GC} {Γ : GA} (hX : Gx κ Γ 7 b_M_freeCells "PaneScreenModel" r_M_freeCells (some .int)) (K10 : Mem → Int32 → Int32 → Int32 → Int32 → Int32 → Option (Int32 × Mem)) (hK10 : ∀ (σ : Mem) (x1 : Int32) (x2 : Int32) (x3 : Int32) (x4 : Int32) (x5 : Int32), GG κ Γ 7 (gQ gqi κ Γ r_M_freeCells) 0 0 σ [some (.ref (Γ.2.1 19)), some (.int x1), some (.int x2), some (.int x3), some (.int x4), some (.int x5), none] 10 [] (K10 σ x1 x2 x3 x4 x5)) (σ : Mem) (x1 : Int32) (x2 : Int32) (x3 : Int32) (x4 : Int32) (x5 : Int32) : GG κ Γ 7 (gQ gqi κ Γ r_M_freeCells) 0 0 σ [some (.ref (Γ.2.1 19)), some (.int x1), some (.int x2), some (.int x3), some (.int x4), some (.int x5), none] 10 [] (f_M_freeCells_10B K10 σ x1 x2 x3 x4 x5) := by
  unfold f_M_freeCells_10B
  refine g_iload hX d_M_freeCells_10 (n := 12) rfl rfl ?_
  refine g_sipush hX 400 d_M_freeCells_12 (n := 15) rfl k_sipush_400 ?_
  refine g_icmp_ge hX 72 d_M_freeCells_15 (n := 18) rfl rfl ?_ ?_
  · refine g_iload_n hX 1 d_M_freeCells_72 (n := 73) rfl rfl rfl ?_
    refine g_if_eq hX 81 d_M_freeCells_73 (n := 76) rfl rfl ?_ ?_
    · refine g_iload_n hX 2 d_M_freeCells_81 (n := 82) rfl rfl rfl ?_
      exact (g_sub (lw := [none, none, none, none, none, none, none]) (True.intro) (m_M_freeCells_82 hX σ x2))
    · refine g_iload hX d_M_freeCells_76 (n := 78) rfl rfl ?_
      refine g_goto hX 82 d_M_freeCells_78 rfl ?_
      exact (g_sub (lw := [none, none, none, none, none, none, none]) (True.intro) (m_M_freeCells_82 hX σ x4))
  · refine g_aload_n hX 0 d_M_freeCells_18 (n := 19) rfl rfl rfl ?_
    refine g_iload hX d_M_freeCells_19 (n := 21) rfl rfl ?_
    refine g_cVi hX [_] rfl 0 0 (c_M_isFree _ Γ x5 σ) gw_M_105 rfl sh_19 rfl d_M_freeCells_21 (n := 24) rfl ⟨by decide, by decide⟩ ⟨by decide, by decide⟩ (Nat.le_of_ble_eq_true rfl) rfl rfl (fun r2 u1 => ?_)
    refine g_istore hX [_, _, _, _, _, _, _] d_M_freeCells_24 (n := 26) rfl (by decide) rfl ?_
    refine g_iload_n hX 2 d_M_freeCells_26 (n := 27) rfl rfl rfl ?_
    refine g_iload hX d_M_freeCells_27 (n := 29) rfl rfl ?_
    refine g_if_eq hX 36 d_M_freeCells_29 (n := 32) rfl rfl ?_ ?_
    · refine g_iconst hX 0 d_M_freeCells_36 (n := 37) rfl k_iconst_0 ?_
      exact (g_sub (lw := [some (.ref (Γ.2.1 19)), some (.int x1), none, some (.int x3), some (.int x4), some (.int x5), some (.int r2)]) (And.intro rfl (And.intro rfl (And.intro rfl (And.intro rfl (And.intro rfl (And.intro rfl (True.intro))))))) (m_M_freeCells_37 hX K10 hK10 u1 x1 x3 x4 x5 r2 0 x2))
    · refine g_iconst hX 1 d_M_freeCells_32 (n := 33) rfl k_iconst_1 ?_
      refine g_goto hX 37 d_M_freeCells_33 rfl ?_
      exact (g_sub (lw := [some (.ref (Γ.2.1 19)), some (.int x1), none, some (.int x3), some (.int x4), some (.int x5), some (.int r2)]) (And.intro rfl (And.intro rfl (And.intro rfl (And.intro rfl (And.intro rfl (And.intro rfl (True.intro))))))) (m_M_freeCells_37 hX K10 hK10 u1 x1 x3 x4 x5 r2 1 x2))
def f_M_freeCells_10 (n : Nat) : Mem → Int32 → Int32 → Int32 → Int32 → Int32 → Option (Int32 × Mem) := gfix (fun _ _ _ _ _ _ => none) (fun K10 => f_M_freeCells_10B K10) n
theorem m_M_freeCells_10 {κ : GC} {Γ : GA} (hX : Gx κ Γ 7 b_M_freeCells "PaneScreenModel" r_M_freeCells (some .int)) (n : Nat) : ∀ (σ : Mem) (x1 : Int32) (x2 : Int32) (x3 : Int32) (x4 : Int32) (x5 : Int32), GG κ Γ 7 (gQ gqi κ Γ r_M_freeCells) 0 0 σ [some (.ref (Γ.2.1 19)), some (.int x1), some (.int x2), some (.int x3), some (.int x4), some (.int x5), none] 10 [] (f_M_freeCells_10 n σ x1 x2 x3 x4 x5) := by
  induction n with
  | zero => intros; exact g_none
  | succ n ih => intro σ x1 x2 x3 x4 x5; exact m_M_freeCells_10B hX (f_M_freeCells_10 n) ih σ x1 x2 x3 x4 x5
def f_M_freeCells_0 (σ : Mem) (x1 : Int32) : Option (Int32 × Mem) :=
  f_M_freeCells_10 gN σ x1 0 0 0 0
set_option maxRecDepth 100000 in
theorem m_M_freeCells_0 {κ : GC} {Γ : GA} (hX : Gx κ Γ 7 b_M_freeCells "PaneScreenModel" r_M_freeCells (some .int)) (σ : Mem) (x1 : Int32) : GG κ Γ 7 (gQ gqi κ Γ r_M_freeCells) 0 0 σ [some (.ref (Γ.2.1 19)), some (.int x1), none, none, none, none, none] 0 [] (f_M_freeCells_0 σ x1) := by
  unfold f_M_freeCells_0
  refine g_iconst hX 0 d_M_freeCells_0 (n := 1) rfl k_iconst_0 ?_
  refine g_istore_n hX 2 [_, _, _, _, _, _, _] d_M_freeCells_1 (n := 2) rfl rfl (by decide) rfl ?_
  refine g_iconst hX 0 d_M_freeCells_2 (n := 3) rfl k_iconst_0 ?_
  refine g_istore_n hX 3 [_, _, _, _, _, _, _] d_M_freeCells_3 (n := 4) rfl rfl (by decide) rfl ?_
  refine g_iconst hX 0 d_M_freeCells_4 (n := 5) rfl k_iconst_0 ?_
  refine g_istore hX [_, _, _, _, _, _, _] d_M_freeCells_5 (n := 7) rfl (by decide) rfl ?_
  refine g_iconst hX 0 d_M_freeCells_7 (n := 8) rfl k_iconst_0 ?_
  refine g_istore hX [_, _, _, _, _, _, _] d_M_freeCells_8 (n := 10) rfl (by decide) rfl ?_
  exact (m_M_freeCells_10 hX gN σ x1 0 0 0 0)
def f_M_freeCells (x1 : Int32) (σ : Mem) : Option (Int32 × Mem) := f_M_freeCells_0 σ x1
theorem c_M_freeCells (l : Launch) (Γ : GA) (x1 : Int32) (σ : Mem) : gM gqi l y_M_freeCells b_M_freeCells 7 (some .int) r_M_freeCells [.ref (Γ.2.1 19), .int x1] Γ σ (f_M_freeCells x1 σ) :=
  gM.of [some (.ref (Γ.2.1 19)), some (.int x1), none, none, none, none, none] (by decide) (Nat.le_of_ble_eq_true rfl) rfl rfl (fun κ hX _ => m_M_freeCells_0 hX σ x1)
/-! M_openOnes -/
theorem d_M_openOnes_0 : decode b_M_openOnes 0 = .ok (.iconst 0, 1) := by decide +kernel
theorem d_M_openOnes_1 : decode b_M_openOnes 1 = .ok (.istore_n 1, 1) := by decide +kernel
theorem d_M_openOnes_2 : decode b_M_openOnes 2 = .ok (.iconst 0, 1) := by decide +kernel
theorem d_M_openOnes_3 : decode b_M_openOnes 3 = .ok (.istore_n 2, 1) := by decide +kernel
theorem d_M_openOnes_4 : decode b_M_openOnes 4 = .ok (.iload_n 2, 1) := by decide +kernel
theorem d_M_openOnes_5 : decode b_M_openOnes 5 = .ok (.bipush 8, 2) := by decide +kernel
theorem d_M_openOnes_7 : decode b_M_openOnes 7 = .ok (.if_icmp .ge 26, 3) := by decide +kernel
theorem d_M_openOnes_10 : decode b_M_openOnes 10 = .ok (.iload_n 1, 1) := by decide +kernel
theorem d_M_openOnes_11 : decode b_M_openOnes 11 = .ok (.aload_n 0, 1) := by decide +kernel
theorem d_M_openOnes_12 : decode b_M_openOnes 12 = .ok (.getfield 13, 3) := by decide +kernel
theorem d_M_openOnes_15 : decode b_M_openOnes 15 = .ok (.iload_n 2, 1) := by decide +kernel
theorem d_M_openOnes_16 : decode b_M_openOnes 16 = .ok (.baload, 1) := by decide +kernel
theorem d_M_openOnes_17 : decode b_M_openOnes 17 = .ok (.ifCond .eq 7, 3) := by decide +kernel
theorem d_M_openOnes_20 : decode b_M_openOnes 20 = .ok (.iconst 1, 1) := by decide +kernel
theorem d_M_openOnes_21 : decode b_M_openOnes 21 = .ok (.goto 4, 3) := by decide +kernel
theorem d_M_openOnes_24 : decode b_M_openOnes 24 = .ok (.iconst 0, 1) := by decide +kernel
theorem d_M_openOnes_25 : decode b_M_openOnes 25 = .ok (.iadd, 1) := by decide +kernel
theorem d_M_openOnes_26 : decode b_M_openOnes 26 = .ok (.istore_n 1, 1) := by decide +kernel
theorem d_M_openOnes_27 : decode b_M_openOnes 27 = .ok (.iinc 2 1, 3) := by decide +kernel
theorem d_M_openOnes_30 : decode b_M_openOnes 30 = .ok (.goto (-26), 3) := by decide +kernel
theorem d_M_openOnes_33 : decode b_M_openOnes 33 = .ok (.iload_n 1, 1) := by decide +kernel
theorem d_M_openOnes_34 : decode b_M_openOnes 34 = .ok (.ireturn, 1) := by decide +kernel
abbrev r_M_openOnes : Room := ⟨0, 0, 0, 0⟩
def f_M_openOnes_25 (K4 : Mem → Int32 → Int32 → Option (Int32 × Mem)) (σ : Mem) (x2 : Int32) (s0 : Int32) (s1 : Int32) : Option (Int32 × Mem) :=
  gbi (s1 + s0) fun y1 =>
  K4 σ y1 (x2 + 1)
set_option maxRecDepth 100000 in
theorem m_M_openOnes_25 {κ : GC} {Γ : GA} (hX : Gx κ Γ 3 b_M_openOnes "PaneScreenModel" r_M_openOnes (some .int)) (K4 : Mem → Int32 → Int32 → Option (Int32 × Mem)) (hK4 : ∀ (σ : Mem) (x1 : Int32) (x2 : Int32), GG κ Γ 3 (gQ gqi κ Γ r_M_openOnes) 0 0 σ [some (.ref (Γ.2.1 19)), some (.int x1), some (.int x2)] 4 [] (K4 σ x1 x2)) (σ : Mem) (x2 : Int32) (s0 : Int32) (s1 : Int32) : GG κ Γ 3 (gQ gqi κ Γ r_M_openOnes) 0 0 σ [some (.ref (Γ.2.1 19)), none, some (.int x2)] 25 [.int s0, .int s1] (f_M_openOnes_25 K4 σ x2 s0 s1) := by
  unfold f_M_openOnes_25
  refine g_iadd hX d_M_openOnes_25 (n := 26) rfl ?_
  refine g_top (fun y1 => ?_)
  refine g_istore_n hX 1 [_, _, _] d_M_openOnes_26 (n := 27) rfl rfl (by decide) rfl ?_
  refine g_iinc hX 1 _ [_, _, _] d_M_openOnes_27 (n := 30) rfl rfl k_iconst_1 rfl (by decide) rfl ?_
  refine g_goto hX 4 d_M_openOnes_30 rfl ?_
  exact (hK4 σ y1 (x2 + 1))
def f_M_openOnes_4B (K4 : Mem → Int32 → Int32 → Option (Int32 × Mem)) (σ : Mem) (x1 : Int32) (x2 : Int32) : Option (Int32 × Mem) :=
  if 8 ≤ x2 then
    some (x1, σ)
  else
    if gin x2 8 = true then
      if (σ 21 x2.toNatClampNeg) = 0 then
        f_M_openOnes_25 K4 σ x2 0 x1
      else
        f_M_openOnes_25 K4 σ x2 1 x1
    else none
set_option maxRecDepth 100000 in
theorem m_M_openOnes_4B {κ : GC} {Γ : GA} (hX : Gx κ Γ 3 b_M_openOnes "PaneScreenModel" r_M_openOnes (some .int)) (K4 : Mem → Int32 → Int32 → Option (Int32 × Mem)) (hK4 : ∀ (σ : Mem) (x1 : Int32) (x2 : Int32), GG κ Γ 3 (gQ gqi κ Γ r_M_openOnes) 0 0 σ [some (.ref (Γ.2.1 19)), some (.int x1), some (.int x2)] 4 [] (K4 σ x1 x2)) (σ : Mem) (x1 : Int32) (x2 : Int32) : GG κ Γ 3 (gQ gqi κ Γ r_M_openOnes) 0 0 σ [some (.ref (Γ.2.1 19)), some (.int x1), some (.int x2)] 4 [] (f_M_openOnes_4B K4 σ x1 x2) := by
  unfold f_M_openOnes_4B
  refine g_iload_n hX 2 d_M_openOnes_4 (n := 5) rfl rfl rfl ?_
  refine g_bipush hX 8 d_M_openOnes_5 (n := 7) rfl k_bipush_8 ?_
  refine g_icmp_ge hX 33 d_M_openOnes_7 (n := 10) rfl rfl ?_ ?_
  · refine g_iload_n hX 1 d_M_openOnes_33 (n := 34) rfl rfl rfl ?_
    exact g_iret hX d_M_openOnes_34 (by decide) (by decide)
  · refine g_iload_n hX 1 d_M_openOnes_10 (n := 11) rfl rfl rfl ?_
    refine g_aload_n hX 0 d_M_openOnes_11 (n := 12) rfl rfl rfl ?_
    refine g_geta hX 21 gf_M_13 d_M_openOnes_12 (n := 15) rfl sh_19 rfl ?_
    refine g_iload_n hX 2 d_M_openOnes_15 (n := 16) rfl rfl rfl ?_
    refine g_zald hX d_M_openOnes_16 (n := 17) rfl sh_21 ?_
    refine g_if_eq hX 24 d_M_openOnes_17 (n := 20) rfl rfl ?_ ?_
    · refine g_iconst hX 0 d_M_openOnes_24 (n := 25) rfl k_iconst_0 ?_
      exact (g_sub (lw := [some (.ref (Γ.2.1 19)), none, some (.int x2)]) (And.intro rfl (And.intro rfl (True.intro))) (m_M_openOnes_25 hX K4 hK4 σ x2 0 x1))
    · refine g_iconst hX 1 d_M_openOnes_20 (n := 21) rfl k_iconst_1 ?_
      refine g_goto hX 25 d_M_openOnes_21 rfl ?_
      exact (g_sub (lw := [some (.ref (Γ.2.1 19)), none, some (.int x2)]) (And.intro rfl (And.intro rfl (True.intro))) (m_M_openOnes_25 hX K4 hK4 σ x2 1 x1))
def f_M_openOnes_4 (n : Nat) : Mem → Int32 → Int32 → Option (Int32 × Mem) := gfix (fun _ _ _ => none) (fun K4 => f_M_openOnes_4B K4) n
theorem m_M_openOnes_4 {κ : GC} {Γ : GA} (hX : Gx κ Γ 3 b_M_openOnes "PaneScreenModel" r_M_openOnes (some .int)) (n : Nat) : ∀ (σ : Mem) (x1 : Int32) (x2 : Int32), GG κ Γ 3 (gQ gqi κ Γ r_M_openOnes) 0 0 σ [some (.ref (Γ.2.1 19)), some (.int x1), some (.int x2)] 4 [] (f_M_openOnes_4 n σ x1 x2) := by
  induction n with
  | zero => intros; exact g_none
  | succ n ih => intro σ x1 x2; exact m_M_openOnes_4B hX (f_M_openOnes_4 n) ih σ x1 x2
def f_M_openOnes_0 (σ : Mem) : Option (Int32 × Mem) :=
  f_M_openOnes_4 gN σ 0 0
set_option maxRecDepth 100000 in
theorem m_M_openOnes_0 {κ : GC} {Γ : GA} (hX : Gx κ Γ 3 b_M_openOnes "PaneScreenModel" r_M_openOnes (some .int)) (σ : Mem) : GG κ Γ 3 (gQ gqi κ Γ r_M_openOnes) 0 0 σ [some (.ref (Γ.2.1 19)), none, none] 0 [] (f_M_openOnes_0 σ) := by
  unfold f_M_openOnes_0
  refine g_iconst hX 0 d_M_openOnes_0 (n := 1) rfl k_iconst_0 ?_
  refine g_istore_n hX 1 [_, _, _] d_M_openOnes_1 (n := 2) rfl rfl (by decide) rfl ?_
  refine g_iconst hX 0 d_M_openOnes_2 (n := 3) rfl k_iconst_0 ?_
  refine g_istore_n hX 2 [_, _, _] d_M_openOnes_3 (n := 4) rfl rfl (by decide) rfl ?_
  exact (m_M_openOnes_4 hX gN σ 0 0)
def f_M_openOnes (σ : Mem) : Option (Int32 × Mem) := f_M_openOnes_0 σ
theorem c_M_openOnes (l : Launch) (Γ : GA) (σ : Mem) : gM gqi l y_M_openOnes b_M_openOnes 3 (some .int) r_M_openOnes [.ref (Γ.2.1 19)] Γ σ (f_M_openOnes σ) :=
  gM.of [some (.ref (Γ.2.1 19)), none, none] (by decide) (Nat.le_of_ble_eq_true rfl) rfl rfl (fun κ hX _ => m_M_openOnes_0 hX σ)
/-! M_figure -/
theorem d_M_figure_0 : decode b_M_figure 0 = .ok (.aload_n 0, 1) := by decide +kernel
theorem d_M_figure_1 : decode b_M_figure 1 = .ok (.iload_n 1, 1) := by decide +kernel
theorem d_M_figure_2 : decode b_M_figure 2 = .ok (.ifCond .lt 9, 3) := by decide +kernel
theorem d_M_figure_5 : decode b_M_figure 5 = .ok (.iload_n 1, 1) := by decide +kernel
theorem d_M_figure_6 : decode b_M_figure 6 = .ok (.bipush 8, 2) := by decide +kernel
theorem d_M_figure_8 : decode b_M_figure 8 = .ok (.if_icmp .le 7, 3) := by decide +kernel
theorem d_M_figure_11 : decode b_M_figure 11 = .ok (.iconst 1, 1) := by decide +kernel
theorem d_M_figure_12 : decode b_M_figure 12 = .ok (.goto 4, 3) := by decide +kernel
theorem d_M_figure_15 : decode b_M_figure 15 = .ok (.iconst 0, 1) := by decide +kernel
theorem d_M_figure_16 : decode b_M_figure 16 = .ok (.putfield 75, 3) := by decide +kernel
theorem d_M_figure_19 : decode b_M_figure 19 = .ok (.iload_n 1, 1) := by decide +kernel
theorem d_M_figure_20 : decode b_M_figure 20 = .ok (.tableswitch 99 0 8 #[52, 57, 62, 67, 73, 79, 84, 89, 94], 52) := by decide +kernel
theorem d_M_figure_72 : decode b_M_figure 72 = .ok (.aload_n 0, 1) := by decide +kernel
theorem d_M_figure_73 : decode b_M_figure 73 = .ok (.getfield 47, 3) := by decide +kernel
theorem d_M_figure_76 : decode b_M_figure 76 = .ok (.ireturn, 1) := by decide +kernel
theorem d_M_figure_77 : decode b_M_figure 77 = .ok (.aload_n 0, 1) := by decide +kernel
theorem d_M_figure_78 : decode b_M_figure 78 = .ok (.invokevirtual 192, 3) := by decide +kernel
theorem d_M_figure_81 : decode b_M_figure 81 = .ok (.ireturn, 1) := by decide +kernel
theorem d_M_figure_82 : decode b_M_figure 82 = .ok (.aload_n 0, 1) := by decide +kernel
theorem d_M_figure_83 : decode b_M_figure 83 = .ok (.invokevirtual 137, 3) := by decide +kernel
theorem d_M_figure_86 : decode b_M_figure 86 = .ok (.ireturn, 1) := by decide +kernel
theorem d_M_figure_87 : decode b_M_figure 87 = .ok (.aload_n 0, 1) := by decide +kernel
theorem d_M_figure_88 : decode b_M_figure 88 = .ok (.iconst 0, 1) := by decide +kernel
theorem d_M_figure_89 : decode b_M_figure 89 = .ok (.invokevirtual 195, 3) := by decide +kernel
theorem d_M_figure_92 : decode b_M_figure 92 = .ok (.ireturn, 1) := by decide +kernel
theorem d_M_figure_93 : decode b_M_figure 93 = .ok (.aload_n 0, 1) := by decide +kernel
theorem d_M_figure_94 : decode b_M_figure 94 = .ok (.iconst 1, 1) := by decide +kernel
theorem d_M_figure_95 : decode b_M_figure 95 = .ok (.invokevirtual 195, 3) := by decide +kernel
theorem d_M_figure_98 : decode b_M_figure 98 = .ok (.ireturn, 1) := by decide +kernel
theorem d_M_figure_99 : decode b_M_figure 99 = .ok (.aload_n 0, 1) := by decide +kernel
theorem d_M_figure_100 : decode b_M_figure 100 = .ok (.getfield 78, 3) := by decide +kernel
theorem d_M_figure_103 : decode b_M_figure 103 = .ok (.ireturn, 1) := by decide +kernel
theorem d_M_figure_104 : decode b_M_figure 104 = .ok (.aload_n 0, 1) := by decide +kernel
theorem d_M_figure_105 : decode b_M_figure 105 = .ok (.getfield 130, 3) := by decide +kernel
theorem d_M_figure_108 : decode b_M_figure 108 = .ok (.ireturn, 1) := by decide +kernel
theorem d_M_figure_109 : decode b_M_figure 109 = .ok (.aload_n 0, 1) := by decide +kernel
theorem d_M_figure_110 : decode b_M_figure 110 = .ok (.getfield 174, 3) := by decide +kernel
theorem d_M_figure_113 : decode b_M_figure 113 = .ok (.ireturn, 1) := by decide +kernel
theorem d_M_figure_114 : decode b_M_figure 114 = .ok (.aload_n 0, 1) := by decide +kernel
theorem d_M_figure_115 : decode b_M_figure 115 = .ok (.getfield 168, 3) := by decide +kernel
theorem d_M_figure_118 : decode b_M_figure 118 = .ok (.ireturn, 1) := by decide +kernel
theorem d_M_figure_119 : decode b_M_figure 119 = .ok (.iconst 0, 1) := by decide +kernel
theorem d_M_figure_120 : decode b_M_figure 120 = .ok (.ireturn, 1) := by decide +kernel
abbrev r_M_figure : Room := ⟨2, 0, 0, 49⟩
def f_M_figure_16 (σ : Mem) (x1 : Int32) (s0 : Int32) : Option (Int32 × Mem) :=
  gbm (m2 σ 19 0 s0) fun u1 =>
  gsw x1 0 [
    (72, (
      some ((u1 19 15), u1)
    )),
    (77, (
      gb (f_M_openOnes u1) fun r3 u2 =>
      some (r3, u2)
    )),
    (82, (
      gb (f_M_foremost u1) fun r5 u4 =>
      some (r5, u4)
    )),
    (87, (
      gb (f_M_freeCells 0 u1) fun r7 u6 =>
      some (r7, u6)
    )),
    (93, (
      gb (f_M_freeCells 1 u1) fun r9 u8 =>
      some (r9, u8)
    )),
    (99, (
      some ((u1 19 16), u1)
    )),
    (104, (
      some ((u1 19 26), u1)
    )),
    (109, (
      some ((u1 19 35), u1)
    )),
    (114, (
      some ((u1 19 36), u1)
    ))
  ] (
    some (0, u1)
  )
set_option maxRecDepth 100000 in
theorem m_M_figure_16 {κ : GC} {Γ : GA} (hX : Gx κ Γ 2 b_M_figure "PaneScreenModel" r_M_figure (some .int)) (σ : Mem) (x1 : Int32) (s0 : Int32) : GG κ Γ 2 (gQ gqi κ Γ r_M_figure) 0 0 σ [some (.ref (Γ.2.1 19)), some (.int x1)] 16 [.int s0, .ref (Γ.2.1 19)] (f_M_figure_16 σ x1 s0) := by
  unfold f_M_figure_16
  refine g_puti hX gp_M_75 d_M_figure_16 (n := 19) rfl sh_19 rfl ?_
  refine g_mem (fun u1 => ?_)
  refine g_iload_n hX 1 d_M_figure_19 (n := 20) rfl rfl rfl ?_
  refine g_table hX [(72, _), (77, _), (82, _), (87, _), (93, _), (99, _), (104, _), (109, _), (114, _)] 119 d_M_figure_20 rfl rfl rfl ?_ ⟨?_, ?_, ?_, ?_, ?_, ?_, ?_, ?_, ?_, True.intro⟩
  · refine g_iconst hX 0 d_M_figure_119 (n := 120) rfl k_iconst_0 ?_
    exact g_iret hX d_M_figure_120 (by decide) (by decide)
  · refine g_aload_n hX 0 d_M_figure_72 (n := 73) rfl rfl rfl ?_
    refine g_geti hX gf_M_47 d_M_figure_73 (n := 76) rfl sh_19 rfl ?_
    exact g_iret hX d_M_figure_76 (by decide) (by decide)
  · refine g_aload_n hX 0 d_M_figure_77 (n := 78) rfl rfl rfl ?_
    refine g_cVi hX [] rfl 0 0 (c_M_openOnes _ Γ u1) gw_M_192 rfl sh_19 rfl d_M_figure_78 (n := 81) rfl ⟨by decide, by decide⟩ ⟨by decide, by decide⟩ (Nat.le_of_ble_eq_true rfl) rfl rfl (fun r3 u2 => ?_)
    exact g_iret hX d_M_figure_81 (by decide) (by decide)
  · refine g_aload_n hX 0 d_M_figure_82 (n := 83) rfl rfl rfl ?_
    refine g_cVi hX [] rfl 0 0 (c_M_foremost _ Γ u1) gw_M_137 rfl sh_19 rfl d_M_figure_83 (n := 86) rfl ⟨by decide, by decide⟩ ⟨by decide, by decide⟩ (Nat.le_of_ble_eq_true rfl) rfl rfl (fun r5 u4 => ?_)
    exact g_iret hX d_M_figure_86 (by decide) (by decide)
  · refine g_aload_n hX 0 d_M_figure_87 (n := 88) rfl rfl rfl ?_
    refine g_iconst hX 0 d_M_figure_88 (n := 89) rfl k_iconst_0 ?_
    refine g_cVi hX [_] rfl 0 0 (c_M_freeCells _ Γ 0 u1) gw_M_195 rfl sh_19 rfl d_M_figure_89 (n := 92) rfl ⟨by decide, by decide⟩ ⟨by decide, by decide⟩ (Nat.le_of_ble_eq_true rfl) rfl rfl (fun r7 u6 => ?_)
    exact g_iret hX d_M_figure_92 (by decide) (by decide)
  · refine g_aload_n hX 0 d_M_figure_93 (n := 94) rfl rfl rfl ?_
    refine g_iconst hX 1 d_M_figure_94 (n := 95) rfl k_iconst_1 ?_
    refine g_cVi hX [_] rfl 0 0 (c_M_freeCells _ Γ 1 u1) gw_M_195 rfl sh_19 rfl d_M_figure_95 (n := 98) rfl ⟨by decide, by decide⟩ ⟨by decide, by decide⟩ (Nat.le_of_ble_eq_true rfl) rfl rfl (fun r9 u8 => ?_)
    exact g_iret hX d_M_figure_98 (by decide) (by decide)
  · refine g_aload_n hX 0 d_M_figure_99 (n := 100) rfl rfl rfl ?_
    refine g_geti hX gf_M_78 d_M_figure_100 (n := 103) rfl sh_19 rfl ?_
    exact g_iret hX d_M_figure_103 (by decide) (by decide)
  · refine g_aload_n hX 0 d_M_figure_104 (n := 105) rfl rfl rfl ?_
    refine g_geti hX gf_M_130 d_M_figure_105 (n := 108) rfl sh_19 rfl ?_
    exact g_iret hX d_M_figure_108 (by decide) (by decide)
  · refine g_aload_n hX 0 d_M_figure_109 (n := 110) rfl rfl rfl ?_
    refine g_geti hX gf_M_174 d_M_figure_110 (n := 113) rfl sh_19 rfl ?_
    exact g_iret hX d_M_figure_113 (by decide) (by decide)
  · refine g_aload_n hX 0 d_M_figure_114 (n := 115) rfl rfl rfl ?_
    refine g_geti hX gf_M_168 d_M_figure_115 (n := 118) rfl sh_19 rfl ?_
    exact g_iret hX d_M_figure_118 (by decide) (by decide)
def f_M_figure_11 (σ : Mem) (x1 : Int32) : Option (Int32 × Mem) :=
  f_M_figure_16 σ x1 1
set_option maxRecDepth 100000 in
theorem m_M_figure_11 {κ : GC} {Γ : GA} (hX : Gx κ Γ 2 b_M_figure "PaneScreenModel" r_M_figure (some .int)) (σ : Mem) (x1 : Int32) : GG κ Γ 2 (gQ gqi κ Γ r_M_figure) 0 0 σ [some (.ref (Γ.2.1 19)), some (.int x1)] 11 [.ref (Γ.2.1 19)] (f_M_figure_11 σ x1) := by
  unfold f_M_figure_11
  refine g_iconst hX 1 d_M_figure_11 (n := 12) rfl k_iconst_1 ?_
  refine g_goto hX 16 d_M_figure_12 rfl ?_
  exact (m_M_figure_16 hX σ x1 1)
def f_M_figure_0 (σ : Mem) (x1 : Int32) : Option (Int32 × Mem) :=
  if x1 < 0 then
    f_M_figure_11 σ x1
  else
    if x1 ≤ 8 then
      f_M_figure_16 σ x1 0
    else
      f_M_figure_11 σ x1
set_option maxRecDepth 100000 in
theorem m_M_figure_0 {κ : GC} {Γ : GA} (hX : Gx κ Γ 2 b_M_figure "PaneScreenModel" r_M_figure (some .int)) (σ : Mem) (x1 : Int32) : GG κ Γ 2 (gQ gqi κ Γ r_M_figure) 0 0 σ [some (.ref (Γ.2.1 19)), some (.int x1)] 0 [] (f_M_figure_0 σ x1) := by
  unfold f_M_figure_0
  refine g_aload_n hX 0 d_M_figure_0 (n := 1) rfl rfl rfl ?_
  refine g_iload_n hX 1 d_M_figure_1 (n := 2) rfl rfl rfl ?_
  refine g_if_lt hX 11 d_M_figure_2 (n := 5) rfl rfl ?_ ?_
  · exact (m_M_figure_11 hX σ x1)
  · refine g_iload_n hX 1 d_M_figure_5 (n := 6) rfl rfl rfl ?_
    refine g_bipush hX 8 d_M_figure_6 (n := 8) rfl k_bipush_8 ?_
    refine g_icmp_le hX 15 d_M_figure_8 (n := 11) rfl rfl ?_ ?_
    · refine g_iconst hX 0 d_M_figure_15 (n := 16) rfl k_iconst_0 ?_
      exact (m_M_figure_16 hX σ x1 0)
    · exact (m_M_figure_11 hX σ x1)
def f_M_figure (x1 : Int32) (σ : Mem) : Option (Int32 × Mem) := f_M_figure_0 σ x1
theorem c_M_figure (l : Launch) (Γ : GA) (x1 : Int32) (σ : Mem) : gM gqi l y_M_figure b_M_figure 2 (some .int) r_M_figure [.ref (Γ.2.1 19), .int x1] Γ σ (f_M_figure x1 σ) :=
  gM.of [some (.ref (Γ.2.1 19)), some (.int x1)] (by decide) (Nat.le_of_ble_eq_true rfl) rfl rfl (fun κ hX _ => m_M_figure_0 hX σ x1)
