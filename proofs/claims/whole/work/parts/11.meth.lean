/-! S_open -/
theorem d_S_open_0 : decode b_S_open 0 = .ok (.iload_n 1, 1) := by decide +kernel
theorem d_S_open_1 : decode b_S_open 1 = .ok (.iload_n 2, 1) := by decide +kernel
theorem d_S_open_2 : decode b_S_open 2 = .ok (.invokestatic 55, 3) := by decide +kernel
theorem d_S_open_5 : decode b_S_open 5 = .ok (.iload_n 3, 1) := by decide +kernel
theorem d_S_open_6 : decode b_S_open 6 = .ok (.iload 4, 2) := by decide +kernel
theorem d_S_open_8 : decode b_S_open 8 = .ok (.invokestatic 59, 3) := by decide +kernel
theorem d_S_open_11 : decode b_S_open 11 = .ok (.aload_n 0, 1) := by decide +kernel
theorem d_S_open_12 : decode b_S_open 12 = .ok (.invokevirtual 62, 3) := by decide +kernel
theorem d_S_open_15 : decode b_S_open 15 = .ok (.istore 5, 2) := by decide +kernel
theorem d_S_open_17 : decode b_S_open 17 = .ok (.aload_n 0, 1) := by decide +kernel
theorem d_S_open_18 : decode b_S_open 18 = .ok (.getfield 30, 3) := by decide +kernel
theorem d_S_open_21 : decode b_S_open 21 = .ok (.iload_n 3, 1) := by decide +kernel
theorem d_S_open_22 : decode b_S_open 22 = .ok (.iload 4, 2) := by decide +kernel
theorem d_S_open_24 : decode b_S_open 24 = .ok (.imul, 1) := by decide +kernel
theorem d_S_open_25 : decode b_S_open 25 = .ok (.invokevirtual 66, 3) := by decide +kernel
theorem d_S_open_28 : decode b_S_open 28 = .ok (.istore 6, 2) := by decide +kernel
theorem d_S_open_30 : decode b_S_open 30 = .ok (.iload 5, 2) := by decide +kernel
theorem d_S_open_32 : decode b_S_open 32 = .ok (.iconst (-1), 1) := by decide +kernel
theorem d_S_open_33 : decode b_S_open 33 = .ok (.if_icmp .eq 9, 3) := by decide +kernel
theorem d_S_open_36 : decode b_S_open 36 = .ok (.iload 6, 2) := by decide +kernel
theorem d_S_open_38 : decode b_S_open 38 = .ok (.iconst (-1), 1) := by decide +kernel
theorem d_S_open_39 : decode b_S_open 39 = .ok (.if_icmp .ne 11, 3) := by decide +kernel
theorem d_S_open_42 : decode b_S_open 42 = .ok (.new 70, 3) := by decide +kernel
theorem d_S_open_45 : decode b_S_open 45 = .ok (.dup, 1) := by decide +kernel
theorem d_S_open_46 : decode b_S_open 46 = .ok (.invokespecial 72, 3) := by decide +kernel
theorem d_S_open_49 : decode b_S_open 49 = .ok (.athrow, 1) := by decide +kernel
theorem d_S_open_50 : decode b_S_open 50 = .ok (.aload_n 0, 1) := by decide +kernel
theorem d_S_open_51 : decode b_S_open 51 = .ok (.getfield 30, 3) := by decide +kernel
theorem d_S_open_54 : decode b_S_open 54 = .ok (.iload 6, 2) := by decide +kernel
theorem d_S_open_56 : decode b_S_open 56 = .ok (.iload_n 3, 1) := by decide +kernel
theorem d_S_open_57 : decode b_S_open 57 = .ok (.iload 4, 2) := by decide +kernel
theorem d_S_open_59 : decode b_S_open 59 = .ok (.imul, 1) := by decide +kernel
theorem d_S_open_60 : decode b_S_open 60 = .ok (.invokevirtual 73, 3) := by decide +kernel
theorem d_S_open_63 : decode b_S_open 63 = .ok (.aload_n 0, 1) := by decide +kernel
theorem d_S_open_64 : decode b_S_open 64 = .ok (.getfield 15, 3) := by decide +kernel
theorem d_S_open_67 : decode b_S_open 67 = .ok (.iload 5, 2) := by decide +kernel
theorem d_S_open_69 : decode b_S_open 69 = .ok (.aaload, 1) := by decide +kernel
theorem d_S_open_70 : decode b_S_open 70 = .ok (.iload 6, 2) := by decide +kernel
theorem d_S_open_72 : decode b_S_open 72 = .ok (.iload_n 3, 1) := by decide +kernel
theorem d_S_open_73 : decode b_S_open 73 = .ok (.iload 4, 2) := by decide +kernel
theorem d_S_open_75 : decode b_S_open 75 = .ok (.invokevirtual 76, 3) := by decide +kernel
theorem d_S_open_78 : decode b_S_open 78 = .ok (.aload_n 0, 1) := by decide +kernel
theorem d_S_open_79 : decode b_S_open 79 = .ok (.getfield 15, 3) := by decide +kernel
theorem d_S_open_82 : decode b_S_open 82 = .ok (.iload 5, 2) := by decide +kernel
theorem d_S_open_84 : decode b_S_open 84 = .ok (.aaload, 1) := by decide +kernel
theorem d_S_open_85 : decode b_S_open 85 = .ok (.iload_n 1, 1) := by decide +kernel
theorem d_S_open_86 : decode b_S_open 86 = .ok (.iload_n 2, 1) := by decide +kernel
theorem d_S_open_87 : decode b_S_open 87 = .ok (.invokevirtual 80, 3) := by decide +kernel
theorem d_S_open_90 : decode b_S_open 90 = .ok (.aload_n 0, 1) := by decide +kernel
theorem d_S_open_91 : decode b_S_open 91 = .ok (.getfield 23, 3) := by decide +kernel
theorem d_S_open_94 : decode b_S_open 94 = .ok (.iload 5, 2) := by decide +kernel
theorem d_S_open_96 : decode b_S_open 96 = .ok (.invokevirtual 83, 3) := by decide +kernel
theorem d_S_open_99 : decode b_S_open 99 = .ok (.aload_n 0, 1) := by decide +kernel
theorem d_S_open_100 : decode b_S_open 100 = .ok (.aload_n 0, 1) := by decide +kernel
theorem d_S_open_101 : decode b_S_open 101 = .ok (.getfield 15, 3) := by decide +kernel
theorem d_S_open_104 : decode b_S_open 104 = .ok (.iload 5, 2) := by decide +kernel
theorem d_S_open_106 : decode b_S_open 106 = .ok (.aaload, 1) := by decide +kernel
theorem d_S_open_107 : decode b_S_open 107 = .ok (.invokevirtual 87, 3) := by decide +kernel
theorem d_S_open_110 : decode b_S_open 110 = .ok (.aload_n 0, 1) := by decide +kernel
theorem d_S_open_111 : decode b_S_open 111 = .ok (.iload 5, 2) := by decide +kernel
theorem d_S_open_113 : decode b_S_open 113 = .ok (.putfield 48, 3) := by decide +kernel
theorem d_S_open_116 : decode b_S_open 116 = .ok (.iload 5, 2) := by decide +kernel
theorem d_S_open_118 : decode b_S_open 118 = .ok (.ireturn, 1) := by decide +kernel
abbrev r_S_open : Room := ⟨7, 3, 18, 128⟩
def f_S_open_42 (σ : Mem) : Option ((Int32 ⊕ String) × Mem) :=
  some (.inr "java/lang/IllegalStateException", σ)
set_option maxRecDepth 100000 in
theorem m_S_open_42 {κ : GC} {Γ : GA} (hX : Gx κ Γ 7 b_S_open "PaneScreen" r_S_open (some .int)) (hE : ∀ x ∈ κ.2.2.2.2.2.2.2.2.2.exceptionTable.toList, False) (hT : κ.2.1.stackTraces = false) (σ : Mem) : GG κ Γ 7 (gQX gxi κ Γ r_S_open) 2 12 σ [none, none, none, none, none, none, none] 42 [] (f_S_open_42 σ) := by
  unfold f_S_open_42
  exact g_throw hX hE hT gt_S_70 d_S_open_42 d_S_open_45 d_S_open_46 d_S_open_49 (by decide) (by decide) (by decide) (by decide)
def f_S_open_0 (σ : Mem) (x1 : Int32) (x2 : Int32) (x3 : Int32) (x4 : Int32) : Option ((Int32 ⊕ String) × Mem) :=
  gbx (f_S_requireNear x1 x2 σ) (fun _ u1 =>
    gbx (f_S_requireSize x3 x4 u1) (fun _ u2 =>
      gb (f_S_leastClosed u2) fun r4 u3 =>
      gb (f_T_firstFree (x3 * x4) u3) fun r6 u5 =>
      if r4 = (-1) then
        f_S_open_42 u5
      else
        if r6 = (-1) then
          f_S_open_42 u5
        else
          gbv (f_T_take r6 (x3 * x4) u5) fun u7 =>
          if gin r4 8 = true then
            gbn (gPB + r4.toNatClampNeg) fun p8 =>
            gbv (f_P_begin p8 r6 x3 x4 u7) fun u9 =>
            if gin r4 8 = true then
              gbn (gPB + r4.toNatClampNeg) fun p10 =>
              gbv (f_P_place p10 x1 x2 u9) fun u11 =>
              gbv (f_O_addInFront r4 u11) fun u12 =>
              if gin r4 8 = true then
                gbn (gPB + r4.toNatClampNeg) fun p13 =>
                gbv (f_S_damageFrame p13 u12) fun u14 =>
                gbm (m2 u14 0 6 r4) fun u15 =>
                some (.inl r4, u15)
              else none
            else none
          else none
      ) (fun E u => some (.inr E, u))
    ) (fun E u => some (.inr E, u))
set_option maxRecDepth 100000 in
theorem m_S_open_0 {κ : GC} {Γ : GA} (hX : Gx κ Γ 7 b_S_open "PaneScreen" r_S_open (some .int)) (hE : ∀ x ∈ κ.2.2.2.2.2.2.2.2.2.exceptionTable.toList, False) (hT : κ.2.1.stackTraces = false) (σ : Mem) (x1 : Int32) (x2 : Int32) (x3 : Int32) (x4 : Int32) : GG κ Γ 7 (gQX gxi κ Γ r_S_open) 0 0 σ [some (.ref (Γ.2.1 0)), some (.int x1), some (.int x2), some (.int x3), some (.int x4), none, none] 0 [] (f_S_open_0 σ x1 x2 x3 x4) := by
  unfold f_S_open_0
  refine g_iload_n hX 1 d_S_open_0 (n := 1) rfl rfl rfl ?_
  refine g_iload_n hX 2 d_S_open_1 (n := 2) rfl rfl rfl ?_
  refine g_xSv hX hE [_, _] rfl 1 6 (c_S_requireNear _ hT Γ x1 x2 σ) gw_S_55 rfl d_S_open_2 (n := 5) rfl ⟨by decide, by decide⟩ ⟨by decide, by decide⟩ (Nat.le_of_ble_eq_true rfl) rfl rfl (fun _ u1 => ?_)
  refine g_iload_n hX 3 d_S_open_5 (n := 6) rfl rfl rfl ?_
  refine g_iload hX d_S_open_6 (n := 8) rfl rfl ?_
  refine g_xSv hX hE [_, _] rfl 2 12 (c_S_requireSize _ hT Γ x3 x4 u1) gw_S_59 rfl d_S_open_8 (n := 11) rfl ⟨by decide, by decide⟩ ⟨by decide, by decide⟩ (Nat.le_of_ble_eq_true rfl) rfl rfl (fun _ u2 => ?_)
  refine g_aload_n hX 0 d_S_open_11 (n := 12) rfl rfl rfl ?_
  refine g_cVi hX [] rfl 2 12 (c_S_leastClosed _ Γ u2) gw_S_62 rfl sh_0 rfl d_S_open_12 (n := 15) rfl ⟨by decide, by decide⟩ ⟨by decide, by decide⟩ (Nat.le_of_ble_eq_true rfl) rfl rfl (fun r4 u3 => ?_)
  refine g_istore hX [_, _, _, _, _, _, _] d_S_open_15 (n := 17) rfl (by decide) rfl ?_
  refine g_aload_n hX 0 d_S_open_17 (n := 18) rfl rfl rfl ?_
  refine g_geta hX 5 gf_S_30 d_S_open_18 (n := 21) rfl sh_0 rfl ?_
  refine g_iload_n hX 3 d_S_open_21 (n := 22) rfl rfl rfl ?_
  refine g_iload hX d_S_open_22 (n := 24) rfl rfl ?_
  refine g_imul hX d_S_open_24 (n := 25) rfl ?_
  refine g_cVi hX [_] rfl 2 12 (c_T_firstFree _ Γ (x3 * x4) u3) gw_S_66 rfl sh_5 rfl d_S_open_25 (n := 28) rfl ⟨by decide, by decide⟩ ⟨by decide, by decide⟩ (Nat.le_of_ble_eq_true rfl) rfl rfl (fun r6 u5 => ?_)
  refine g_istore hX [_, _, _, _, _, _, _] d_S_open_28 (n := 30) rfl (by decide) rfl ?_
  refine g_iload hX d_S_open_30 (n := 32) rfl rfl ?_
  refine g_iconst hX (-1) d_S_open_32 (n := 33) rfl k_iconst_m1 ?_
  refine g_icmp_eq hX 42 d_S_open_33 (n := 36) rfl rfl ?_ ?_
  · exact (g_sub (lw := [none, none, none, none, none, none, none]) (True.intro) (m_S_open_42 hX hE hT u5))
  · refine g_iload hX d_S_open_36 (n := 38) rfl rfl ?_
    refine g_iconst hX (-1) d_S_open_38 (n := 39) rfl k_iconst_m1 ?_
    refine g_icmp_ne hX 50 d_S_open_39 (n := 42) rfl rfl ?_ ?_
    · refine g_aload_n hX 0 d_S_open_50 (n := 51) rfl rfl rfl ?_
      refine g_geta hX 5 gf_S_30 d_S_open_51 (n := 54) rfl sh_0 rfl ?_
      refine g_iload hX d_S_open_54 (n := 56) rfl rfl ?_
      refine g_iload_n hX 3 d_S_open_56 (n := 57) rfl rfl rfl ?_
      refine g_iload hX d_S_open_57 (n := 59) rfl rfl ?_
      refine g_imul hX d_S_open_59 (n := 60) rfl ?_
      refine g_cVv hX [_, _] rfl 2 12 (c_T_take _ Γ r6 (x3 * x4) u5) gw_S_73 rfl sh_5 rfl d_S_open_60 (n := 63) rfl ⟨by decide, by decide⟩ ⟨by decide, by decide⟩ (Nat.le_of_ble_eq_true rfl) rfl rfl (fun u7 => ?_)
      refine g_aload_n hX 0 d_S_open_63 (n := 64) rfl rfl rfl ?_
      refine g_geta hX 2 gf_S_15 d_S_open_64 (n := 67) rfl sh_0 rfl ?_
      refine g_iload hX d_S_open_67 (n := 69) rfl rfl ?_
      refine g_aaldB hX d_S_open_69 (n := 70) rfl sh_2 (fun p8 hp8 => ?_)
      refine g_iload hX d_S_open_70 (n := 72) rfl rfl ?_
      refine g_iload_n hX 3 d_S_open_72 (n := 73) rfl rfl rfl ?_
      refine g_iload hX d_S_open_73 (n := 75) rfl rfl ?_
      refine g_cVv hX [_, _, _] rfl 2 12 (c_P_begin _ Γ p8 r6 x3 x4 hp8 u7) gw_S_76 rfl hp8 rfl d_S_open_75 (n := 78) rfl ⟨by decide, by decide⟩ ⟨by decide, by decide⟩ (Nat.le_of_ble_eq_true rfl) rfl rfl (fun u9 => ?_)
      refine g_aload_n hX 0 d_S_open_78 (n := 79) rfl rfl rfl ?_
      refine g_geta hX 2 gf_S_15 d_S_open_79 (n := 82) rfl sh_0 rfl ?_
      refine g_iload hX d_S_open_82 (n := 84) rfl rfl ?_
      refine g_aaldB hX d_S_open_84 (n := 85) rfl sh_2 (fun p10 hp10 => ?_)
      refine g_iload_n hX 1 d_S_open_85 (n := 86) rfl rfl rfl ?_
      refine g_iload_n hX 2 d_S_open_86 (n := 87) rfl rfl rfl ?_
      refine g_cVv hX [_, _] rfl 2 12 (c_P_place _ Γ p10 x1 x2 hp10 u9) gw_S_80 rfl hp10 rfl d_S_open_87 (n := 90) rfl ⟨by decide, by decide⟩ ⟨by decide, by decide⟩ (Nat.le_of_ble_eq_true rfl) rfl rfl (fun u11 => ?_)
      refine g_aload_n hX 0 d_S_open_90 (n := 91) rfl rfl rfl ?_
      refine g_geta hX 3 gf_S_23 d_S_open_91 (n := 94) rfl sh_0 rfl ?_
      refine g_iload hX d_S_open_94 (n := 96) rfl rfl ?_
      refine g_cVv hX [_] rfl 2 12 (c_O_addInFront _ Γ r4 u11) gw_S_83 rfl sh_3 rfl d_S_open_96 (n := 99) rfl ⟨by decide, by decide⟩ ⟨by decide, by decide⟩ (Nat.le_of_ble_eq_true rfl) rfl rfl (fun u12 => ?_)
      refine g_aload_n hX 0 d_S_open_99 (n := 100) rfl rfl rfl ?_
      refine g_aload_n hX 0 d_S_open_100 (n := 101) rfl rfl rfl ?_
      refine g_geta hX 2 gf_S_15 d_S_open_101 (n := 104) rfl sh_0 rfl ?_
      refine g_iload hX d_S_open_104 (n := 106) rfl rfl ?_
      refine g_aaldB hX d_S_open_106 (n := 107) rfl sh_2 (fun p13 hp13 => ?_)
      refine g_cVv hX [_] rfl 2 12 (c_S_damageFrame _ Γ p13 hp13 u12) gw_S_87 rfl sh_0 rfl d_S_open_107 (n := 110) rfl ⟨by decide, by decide⟩ ⟨by decide, by decide⟩ (Nat.le_of_ble_eq_true rfl) rfl rfl (fun u14 => ?_)
      refine g_aload_n hX 0 d_S_open_110 (n := 111) rfl rfl rfl ?_
      refine g_iload hX d_S_open_111 (n := 113) rfl rfl ?_
      refine g_puti hX gp_S_48 d_S_open_113 (n := 116) rfl sh_0 rfl ?_
      refine g_mem (fun u15 => ?_)
      refine g_iload hX d_S_open_116 (n := 118) rfl rfl ?_
      exact g_ixret hX d_S_open_118 (by decide) (by decide)
    · exact (g_sub (lw := [none, none, none, none, none, none, none]) (True.intro) (m_S_open_42 hX hE hT u5))
def f_S_open (x1 : Int32) (x2 : Int32) (x3 : Int32) (x4 : Int32) (σ : Mem) : Option ((Int32 ⊕ String) × Mem) := f_S_open_0 σ x1 x2 x3 x4
theorem c_S_open (l : Launch) (hT : l.stackTraces = false) (Γ : GA) (x1 : Int32) (x2 : Int32) (x3 : Int32) (x4 : Int32) (σ : Mem) : gX gxi l y_S_open b_S_open 7 (some .int) r_S_open [.ref (Γ.2.1 0), .int x1, .int x2, .int x3, .int x4] Γ σ (f_S_open x1 x2 x3 x4 σ) :=
  gX.of [some (.ref (Γ.2.1 0)), some (.int x1), some (.int x2), some (.int x3), some (.int x4), none, none] (by decide) (Nat.le_of_ble_eq_true rfl) rfl rfl (fun κ hX hκ hE => m_S_open_0 hX hE (by rw [hκ]; exact hT) σ x1 x2 x3 x4)
/-! S_openPane -/
theorem d_S_openPane_0 : decode b_S_openPane 0 = .ok (.iload_n 1, 1) := by decide +kernel
theorem d_S_openPane_1 : decode b_S_openPane 1 = .ok (.ifCond .lt 21, 3) := by decide +kernel
theorem d_S_openPane_4 : decode b_S_openPane 4 = .ok (.iload_n 1, 1) := by decide +kernel
theorem d_S_openPane_5 : decode b_S_openPane 5 = .ok (.bipush 8, 2) := by decide +kernel
theorem d_S_openPane_7 : decode b_S_openPane 7 = .ok (.if_icmp .ge 15, 3) := by decide +kernel
theorem d_S_openPane_10 : decode b_S_openPane 10 = .ok (.aload_n 0, 1) := by decide +kernel
theorem d_S_openPane_11 : decode b_S_openPane 11 = .ok (.getfield 15, 3) := by decide +kernel
theorem d_S_openPane_14 : decode b_S_openPane 14 = .ok (.iload_n 1, 1) := by decide +kernel
theorem d_S_openPane_15 : decode b_S_openPane 15 = .ok (.aaload, 1) := by decide +kernel
theorem d_S_openPane_16 : decode b_S_openPane 16 = .ok (.getfield 231, 3) := by decide +kernel
theorem d_S_openPane_19 : decode b_S_openPane 19 = .ok (.ifCond .ne 11, 3) := by decide +kernel
theorem d_S_openPane_22 : decode b_S_openPane 22 = .ok (.new 199, 3) := by decide +kernel
theorem d_S_openPane_25 : decode b_S_openPane 25 = .ok (.dup, 1) := by decide +kernel
theorem d_S_openPane_26 : decode b_S_openPane 26 = .ok (.invokespecial 201, 3) := by decide +kernel
theorem d_S_openPane_29 : decode b_S_openPane 29 = .ok (.athrow, 1) := by decide +kernel
theorem d_S_openPane_30 : decode b_S_openPane 30 = .ok (.aload_n 0, 1) := by decide +kernel
theorem d_S_openPane_31 : decode b_S_openPane 31 = .ok (.getfield 15, 3) := by decide +kernel
theorem d_S_openPane_34 : decode b_S_openPane 34 = .ok (.iload_n 1, 1) := by decide +kernel
theorem d_S_openPane_35 : decode b_S_openPane 35 = .ok (.aaload, 1) := by decide +kernel
theorem d_S_openPane_36 : decode b_S_openPane 36 = .ok (.areturn, 1) := by decide +kernel
abbrev r_S_openPane : Room := ⟨6, 1, 6, 81⟩
def f_S_openPane_22 (σ : Mem) : Option ((Nat ⊕ String) × Mem) :=
  some (.inr "java/util/NoSuchElementException", σ)
set_option maxRecDepth 100000 in
theorem m_S_openPane_22 {κ : GC} {Γ : GA} (hX : Gx κ Γ 2 b_S_openPane "PaneScreen" r_S_openPane (some (.object "PaneScreen$Pane"))) (hE : ∀ x ∈ κ.2.2.2.2.2.2.2.2.2.exceptionTable.toList, False) (hT : κ.2.1.stackTraces = false) (σ : Mem) : GG κ Γ 2 (gQX gxr κ Γ r_S_openPane) 0 0 σ [none, none] 22 [] (f_S_openPane_22 σ) := by
  unfold f_S_openPane_22
  exact g_throw hX hE hT gt_S_199 d_S_openPane_22 d_S_openPane_25 d_S_openPane_26 d_S_openPane_29 (by decide) (by decide) (by decide) (by decide)
def f_S_openPane_0 (σ : Mem) (x1 : Int32) : Option ((Nat ⊕ String) × Mem) :=
  if x1 < 0 then
    f_S_openPane_22 σ
  else
    if 8 ≤ x1 then
      f_S_openPane_22 σ
    else
      if gin x1 8 = true then
        gbn (gPB + x1.toNatClampNeg) fun p1 =>
        if (σ p1 0) = 0 then
          f_S_openPane_22 σ
        else
          if gin x1 8 = true then
            gbn (gPB + x1.toNatClampNeg) fun p2 =>
            some (.inl p2, σ)
          else none
      else none
set_option maxRecDepth 100000 in
theorem m_S_openPane_0 {κ : GC} {Γ : GA} (hX : Gx κ Γ 2 b_S_openPane "PaneScreen" r_S_openPane (some (.object "PaneScreen$Pane"))) (hE : ∀ x ∈ κ.2.2.2.2.2.2.2.2.2.exceptionTable.toList, False) (hT : κ.2.1.stackTraces = false) (σ : Mem) (x1 : Int32) : GG κ Γ 2 (gQX gxr κ Γ r_S_openPane) 0 0 σ [some (.ref (Γ.2.1 0)), some (.int x1)] 0 [] (f_S_openPane_0 σ x1) := by
  unfold f_S_openPane_0
  refine g_iload_n hX 1 d_S_openPane_0 (n := 1) rfl rfl rfl ?_
  refine g_if_lt hX 22 d_S_openPane_1 (n := 4) rfl rfl ?_ ?_
  · exact (g_sub (lw := [none, none]) (True.intro) (m_S_openPane_22 hX hE hT σ))
  · refine g_iload_n hX 1 d_S_openPane_4 (n := 5) rfl rfl rfl ?_
    refine g_bipush hX 8 d_S_openPane_5 (n := 7) rfl k_bipush_8 ?_
    refine g_icmp_ge hX 22 d_S_openPane_7 (n := 10) rfl rfl ?_ ?_
    · exact (g_sub (lw := [none, none]) (True.intro) (m_S_openPane_22 hX hE hT σ))
    · refine g_aload_n hX 0 d_S_openPane_10 (n := 11) rfl rfl rfl ?_
      refine g_geta hX 2 gf_S_15 d_S_openPane_11 (n := 14) rfl sh_0 rfl ?_
      refine g_iload_n hX 1 d_S_openPane_14 (n := 15) rfl rfl rfl ?_
      refine g_aaldB hX d_S_openPane_15 (n := 16) rfl sh_2 (fun p1 hp1 => ?_)
      refine g_geti hX gf_S_231 d_S_openPane_16 (n := 19) rfl hp1 rfl ?_
      refine g_if_ne hX 30 d_S_openPane_19 (n := 22) rfl rfl ?_ ?_
      · refine g_aload_n hX 0 d_S_openPane_30 (n := 31) rfl rfl rfl ?_
        refine g_geta hX 2 gf_S_15 d_S_openPane_31 (n := 34) rfl sh_0 rfl ?_
        refine g_iload_n hX 1 d_S_openPane_34 (n := 35) rfl rfl rfl ?_
        refine g_aaldB hX d_S_openPane_35 (n := 36) rfl sh_2 (fun p2 hp2 => ?_)
        exact g_axret hX d_S_openPane_36 (by decide) (by decide)
      · exact (g_sub (lw := [none, none]) (True.intro) (m_S_openPane_22 hX hE hT σ))
def f_S_openPane (x1 : Int32) (σ : Mem) : Option ((Nat ⊕ String) × Mem) := f_S_openPane_0 σ x1
theorem c_S_openPane (l : Launch) (hT : l.stackTraces = false) (Γ : GA) (x1 : Int32) (σ : Mem) : gX gxr l y_S_openPane b_S_openPane 2 (some (.object "PaneScreen$Pane")) r_S_openPane [.ref (Γ.2.1 0), .int x1] Γ σ (f_S_openPane x1 σ) :=
  gX.of [some (.ref (Γ.2.1 0)), some (.int x1)] (by decide) (Nat.le_of_ble_eq_true rfl) rfl rfl (fun κ hX hκ hE => m_S_openPane_0 hX hE (by rw [hκ]; exact hT) σ x1)
/-! T_release -/
theorem d_T_release_0 : decode b_T_release 0 = .ok (.iload_n 1, 1) := by decide +kernel
theorem d_T_release_1 : decode b_T_release 1 = .ok (.istore_n 3, 1) := by decide +kernel
theorem d_T_release_2 : decode b_T_release 2 = .ok (.iload_n 3, 1) := by decide +kernel
theorem d_T_release_3 : decode b_T_release 3 = .ok (.iload_n 1, 1) := by decide +kernel
theorem d_T_release_4 : decode b_T_release 4 = .ok (.iload_n 2, 1) := by decide +kernel
theorem d_T_release_5 : decode b_T_release 5 = .ok (.iadd, 1) := by decide +kernel
theorem d_T_release_6 : decode b_T_release 6 = .ok (.if_icmp .ge 16, 3) := by decide +kernel
theorem d_T_release_9 : decode b_T_release 9 = .ok (.aload_n 0, 1) := by decide +kernel
theorem d_T_release_10 : decode b_T_release 10 = .ok (.getfield 18, 3) := by decide +kernel
theorem d_T_release_13 : decode b_T_release 13 = .ok (.iload_n 3, 1) := by decide +kernel
theorem d_T_release_14 : decode b_T_release 14 = .ok (.iconst 0, 1) := by decide +kernel
theorem d_T_release_15 : decode b_T_release 15 = .ok (.bastore, 1) := by decide +kernel
theorem d_T_release_16 : decode b_T_release 16 = .ok (.iinc 3 1, 3) := by decide +kernel
theorem d_T_release_19 : decode b_T_release 19 = .ok (.goto (-17), 3) := by decide +kernel
theorem d_T_release_22 : decode b_T_release 22 = .ok (.return_, 1) := by decide +kernel
abbrev r_T_release : Room := ⟨0, 0, 0, 0⟩
def f_T_release_2B (K2 : Mem → Int32 → Int32 → Int32 → Option Mem) (σ : Mem) (x1 : Int32) (x2 : Int32) (x3 : Int32) : Option Mem :=
  if (x1 + x2) ≤ x3 then
    some σ
  else
    if gin x3 400 = true then
      gbm (m2 σ 8 x3.toNatClampNeg 0) fun u1 =>
      K2 u1 x1 x2 (x3 + 1)
    else none
set_option maxRecDepth 100000 in
theorem m_T_release_2B {κ : GC} {Γ : GA} (hX : Gx κ Γ 4 b_T_release "PaneScreen$Store" r_T_release none) (K2 : Mem → Int32 → Int32 → Int32 → Option Mem) (hK2 : ∀ (σ : Mem) (x1 : Int32) (x2 : Int32) (x3 : Int32), GG κ Γ 4 (gQ gqv κ Γ r_T_release) 0 0 σ [some (.ref (Γ.2.1 5)), some (.int x1), some (.int x2), some (.int x3)] 2 [] (K2 σ x1 x2 x3)) (σ : Mem) (x1 : Int32) (x2 : Int32) (x3 : Int32) : GG κ Γ 4 (gQ gqv κ Γ r_T_release) 0 0 σ [some (.ref (Γ.2.1 5)), some (.int x1), some (.int x2), some (.int x3)] 2 [] (f_T_release_2B K2 σ x1 x2 x3) := by
  unfold f_T_release_2B
  refine g_iload_n hX 3 d_T_release_2 (n := 3) rfl rfl rfl ?_
  refine g_iload_n hX 1 d_T_release_3 (n := 4) rfl rfl rfl ?_
  refine g_iload_n hX 2 d_T_release_4 (n := 5) rfl rfl rfl ?_
  refine g_iadd hX d_T_release_5 (n := 6) rfl ?_
  refine g_icmp_ge hX 22 d_T_release_6 (n := 9) rfl rfl ?_ ?_
  · exact g_vret hX d_T_release_22 (by decide) (by decide)
  · refine g_aload_n hX 0 d_T_release_9 (n := 10) rfl rfl rfl ?_
    refine g_geta hX 8 gf_T_18 d_T_release_10 (n := 13) rfl sh_5 rfl ?_
    refine g_iload_n hX 3 d_T_release_13 (n := 14) rfl rfl rfl ?_
    refine g_iconst hX 0 d_T_release_14 (n := 15) rfl k_iconst_0 ?_
    refine g_zast hX d_T_release_15 (n := 16) rfl sh_8 rfl ?_
    refine g_mem (fun u1 => ?_)
    refine g_iinc hX 1 _ [_, _, _, _] d_T_release_16 (n := 19) rfl rfl k_iconst_1 rfl (by decide) rfl ?_
    refine g_goto hX 2 d_T_release_19 rfl ?_
    exact (hK2 u1 x1 x2 (x3 + 1))
def f_T_release_2 (n : Nat) : Mem → Int32 → Int32 → Int32 → Option Mem := gfix (fun _ _ _ _ => none) (fun K2 => f_T_release_2B K2) n
theorem m_T_release_2 {κ : GC} {Γ : GA} (hX : Gx κ Γ 4 b_T_release "PaneScreen$Store" r_T_release none) (n : Nat) : ∀ (σ : Mem) (x1 : Int32) (x2 : Int32) (x3 : Int32), GG κ Γ 4 (gQ gqv κ Γ r_T_release) 0 0 σ [some (.ref (Γ.2.1 5)), some (.int x1), some (.int x2), some (.int x3)] 2 [] (f_T_release_2 n σ x1 x2 x3) := by
  induction n with
  | zero => intros; exact g_none
  | succ n ih => intro σ x1 x2 x3; exact m_T_release_2B hX (f_T_release_2 n) ih σ x1 x2 x3
def f_T_release_0 (σ : Mem) (x1 : Int32) (x2 : Int32) : Option Mem :=
  f_T_release_2 gN σ x1 x2 x1
set_option maxRecDepth 100000 in
theorem m_T_release_0 {κ : GC} {Γ : GA} (hX : Gx κ Γ 4 b_T_release "PaneScreen$Store" r_T_release none) (σ : Mem) (x1 : Int32) (x2 : Int32) : GG κ Γ 4 (gQ gqv κ Γ r_T_release) 0 0 σ [some (.ref (Γ.2.1 5)), some (.int x1), some (.int x2), none] 0 [] (f_T_release_0 σ x1 x2) := by
  unfold f_T_release_0
  refine g_iload_n hX 1 d_T_release_0 (n := 1) rfl rfl rfl ?_
  refine g_istore_n hX 3 [_, _, _, _] d_T_release_1 (n := 2) rfl rfl (by decide) rfl ?_
  exact (m_T_release_2 hX gN σ x1 x2 x1)
def f_T_release (x1 : Int32) (x2 : Int32) (σ : Mem) : Option Mem := f_T_release_0 σ x1 x2
theorem c_T_release (l : Launch) (Γ : GA) (x1 : Int32) (x2 : Int32) (σ : Mem) : gM gqv l y_T_release b_T_release 4 none r_T_release [.ref (Γ.2.1 5), .int x1, .int x2] Γ σ (f_T_release x1 x2 σ) :=
  gM.of [some (.ref (Γ.2.1 5)), some (.int x1), some (.int x2), none] (by decide) (Nat.le_of_ble_eq_true rfl) rfl rfl (fun κ hX _ => m_T_release_0 hX σ x1 x2)
/-! P_end -/
theorem d_P_end_0 : decode b_P_end 0 = .ok (.aload_n 0, 1) := by decide +kernel
theorem d_P_end_1 : decode b_P_end 1 = .ok (.iconst 0, 1) := by decide +kernel
theorem d_P_end_2 : decode b_P_end 2 = .ok (.putfield 7, 3) := by decide +kernel
theorem d_P_end_5 : decode b_P_end 5 = .ok (.return_, 1) := by decide +kernel
abbrev r_P_end : Room := ⟨0, 0, 0, 0⟩
def f_P_end_0 (σ : Mem) (q0 : Nat) : Option Mem :=
  gbm (m2 σ q0 0 0) fun u1 =>
  some u1
set_option maxRecDepth 100000 in
theorem m_P_end_0 {κ : GC} {Γ : GA} (hX : Gx κ Γ 1 b_P_end "PaneScreen$Pane" r_P_end none) (σ : Mem) (q0 : Nat) (hq0 : gPn q0) : GG κ Γ 1 (gQ gqv κ Γ r_P_end) 0 0 σ [some (.ref (Γ.2.1 q0))] 0 [] (f_P_end_0 σ q0) := by
  unfold f_P_end_0
  refine g_aload_n hX 0 d_P_end_0 (n := 1) rfl rfl rfl ?_
  refine g_iconst hX 0 d_P_end_1 (n := 2) rfl k_iconst_0 ?_
  refine g_putz hX gp_P_7 d_P_end_2 (n := 5) rfl hq0 rfl rfl rfl ?_
  refine g_mem (fun u1 => ?_)
  exact g_vret hX d_P_end_5 (by decide) (by decide)
def f_P_end (q0 : Nat) (σ : Mem) : Option Mem := f_P_end_0 σ q0
theorem c_P_end (l : Launch) (Γ : GA) (q0 : Nat) (hq0 : gPn q0) (σ : Mem) : gM gqv l y_P_end b_P_end 1 none r_P_end [.ref (Γ.2.1 q0)] Γ σ (f_P_end q0 σ) :=
  gM.of [some (.ref (Γ.2.1 q0))] (by decide) (Nat.le_of_ble_eq_true rfl) rfl rfl (fun κ hX _ => m_P_end_0 hX σ q0 hq0)
/-! O_remove -/
theorem d_O_remove_0 : decode b_O_remove 0 = .ok (.iconst 0, 1) := by decide +kernel
theorem d_O_remove_1 : decode b_O_remove 1 = .ok (.istore_n 2, 1) := by decide +kernel
theorem d_O_remove_2 : decode b_O_remove 2 = .ok (.iconst 0, 1) := by decide +kernel
theorem d_O_remove_3 : decode b_O_remove 3 = .ok (.istore_n 3, 1) := by decide +kernel
theorem d_O_remove_4 : decode b_O_remove 4 = .ok (.iload_n 3, 1) := by decide +kernel
theorem d_O_remove_5 : decode b_O_remove 5 = .ok (.aload_n 0, 1) := by decide +kernel
theorem d_O_remove_6 : decode b_O_remove 6 = .ok (.getfield 15, 3) := by decide +kernel
theorem d_O_remove_9 : decode b_O_remove 9 = .ok (.if_icmp .ge 34, 3) := by decide +kernel
theorem d_O_remove_12 : decode b_O_remove 12 = .ok (.aload_n 0, 1) := by decide +kernel
theorem d_O_remove_13 : decode b_O_remove 13 = .ok (.getfield 9, 3) := by decide +kernel
theorem d_O_remove_16 : decode b_O_remove 16 = .ok (.iload_n 3, 1) := by decide +kernel
theorem d_O_remove_17 : decode b_O_remove 17 = .ok (.iaload, 1) := by decide +kernel
theorem d_O_remove_18 : decode b_O_remove 18 = .ok (.iload_n 1, 1) := by decide +kernel
theorem d_O_remove_19 : decode b_O_remove 19 = .ok (.if_icmp .eq 18, 3) := by decide +kernel
theorem d_O_remove_22 : decode b_O_remove 22 = .ok (.aload_n 0, 1) := by decide +kernel
theorem d_O_remove_23 : decode b_O_remove 23 = .ok (.getfield 9, 3) := by decide +kernel
theorem d_O_remove_26 : decode b_O_remove 26 = .ok (.iload_n 2, 1) := by decide +kernel
theorem d_O_remove_27 : decode b_O_remove 27 = .ok (.aload_n 0, 1) := by decide +kernel
theorem d_O_remove_28 : decode b_O_remove 28 = .ok (.getfield 9, 3) := by decide +kernel
theorem d_O_remove_31 : decode b_O_remove 31 = .ok (.iload_n 3, 1) := by decide +kernel
theorem d_O_remove_32 : decode b_O_remove 32 = .ok (.iaload, 1) := by decide +kernel
theorem d_O_remove_33 : decode b_O_remove 33 = .ok (.iastore, 1) := by decide +kernel
theorem d_O_remove_34 : decode b_O_remove 34 = .ok (.iinc 2 1, 3) := by decide +kernel
theorem d_O_remove_37 : decode b_O_remove 37 = .ok (.iinc 3 1, 3) := by decide +kernel
theorem d_O_remove_40 : decode b_O_remove 40 = .ok (.goto (-36), 3) := by decide +kernel
theorem d_O_remove_43 : decode b_O_remove 43 = .ok (.aload_n 0, 1) := by decide +kernel
theorem d_O_remove_44 : decode b_O_remove 44 = .ok (.iload_n 2, 1) := by decide +kernel
theorem d_O_remove_45 : decode b_O_remove 45 = .ok (.putfield 15, 3) := by decide +kernel
theorem d_O_remove_48 : decode b_O_remove 48 = .ok (.return_, 1) := by decide +kernel
abbrev r_O_remove : Room := ⟨0, 0, 0, 0⟩
def f_O_remove_37 (K4 : Mem → Int32 → Int32 → Int32 → Option Mem) (σ : Mem) (x1 : Int32) (x2 : Int32) (x3 : Int32) : Option Mem :=
  K4 σ x1 x2 (x3 + 1)
set_option maxRecDepth 100000 in
theorem m_O_remove_37 {κ : GC} {Γ : GA} (hX : Gx κ Γ 4 b_O_remove "PaneScreen$Order" r_O_remove none) (K4 : Mem → Int32 → Int32 → Int32 → Option Mem) (hK4 : ∀ (σ : Mem) (x1 : Int32) (x2 : Int32) (x3 : Int32), GG κ Γ 4 (gQ gqv κ Γ r_O_remove) 0 0 σ [some (.ref (Γ.2.1 3)), some (.int x1), some (.int x2), some (.int x3)] 4 [] (K4 σ x1 x2 x3)) (σ : Mem) (x1 : Int32) (x2 : Int32) (x3 : Int32) : GG κ Γ 4 (gQ gqv κ Γ r_O_remove) 0 0 σ [some (.ref (Γ.2.1 3)), some (.int x1), some (.int x2), some (.int x3)] 37 [] (f_O_remove_37 K4 σ x1 x2 x3) := by
  unfold f_O_remove_37
  refine g_iinc hX 1 _ [_, _, _, _] d_O_remove_37 (n := 40) rfl rfl k_iconst_1 rfl (by decide) rfl ?_
  refine g_goto hX 4 d_O_remove_40 rfl ?_
  exact (hK4 σ x1 x2 (x3 + 1))
def f_O_remove_4B (K4 : Mem → Int32 → Int32 → Int32 → Option Mem) (σ : Mem) (x1 : Int32) (x2 : Int32) (x3 : Int32) : Option Mem :=
  if (σ 3 1) ≤ x3 then
    gbm (m2 σ 3 1 x2) fun u1 =>
    some u1
  else
    if gin x3 8 = true then
      if (σ 4 x3.toNatClampNeg) = x1 then
        f_O_remove_37 K4 σ x1 x2 x3
      else
        if gin x3 8 = true then
          if gin x2 8 = true then
            gbm (m2 σ 4 x2.toNatClampNeg (σ 4 x3.toNatClampNeg)) fun u2 =>
            f_O_remove_37 K4 u2 x1 (x2 + 1) x3
          else none
        else none
    else none
set_option maxRecDepth 100000 in
theorem m_O_remove_4B {κ : GC} {Γ : GA} (hX : Gx κ Γ 4 b_O_remove "PaneScreen$Order" r_O_remove none) (K4 : Mem → Int32 → Int32 → Int32 → Option Mem) (hK4 : ∀ (σ : Mem) (x1 : Int32) (x2 : Int32) (x3 : Int32), GG κ Γ 4 (gQ gqv κ Γ r_O_remove) 0 0 σ [some (.ref (Γ.2.1 3)), some (.int x1), some (.int x2), some (.int x3)] 4 [] (K4 σ x1 x2 x3)) (σ : Mem) (x1 : Int32) (x2 : Int32) (x3 : Int32) : GG κ Γ 4 (gQ gqv κ Γ r_O_remove) 0 0 σ [some (.ref (Γ.2.1 3)), some (.int x1), some (.int x2), some (.int x3)] 4 [] (f_O_remove_4B K4 σ x1 x2 x3) := by
  unfold f_O_remove_4B
  refine g_iload_n hX 3 d_O_remove_4 (n := 5) rfl rfl rfl ?_
  refine g_aload_n hX 0 d_O_remove_5 (n := 6) rfl rfl rfl ?_
  refine g_geti hX gf_O_15 d_O_remove_6 (n := 9) rfl sh_3 rfl ?_
  refine g_icmp_ge hX 43 d_O_remove_9 (n := 12) rfl rfl ?_ ?_
  · refine g_aload_n hX 0 d_O_remove_43 (n := 44) rfl rfl rfl ?_
    refine g_iload_n hX 2 d_O_remove_44 (n := 45) rfl rfl rfl ?_
    refine g_puti hX gp_O_15 d_O_remove_45 (n := 48) rfl sh_3 rfl ?_
    refine g_mem (fun u1 => ?_)
    exact g_vret hX d_O_remove_48 (by decide) (by decide)
  · refine g_aload_n hX 0 d_O_remove_12 (n := 13) rfl rfl rfl ?_
    refine g_geta hX 4 gf_O_9 d_O_remove_13 (n := 16) rfl sh_3 rfl ?_
    refine g_iload_n hX 3 d_O_remove_16 (n := 17) rfl rfl rfl ?_
    refine g_iald hX d_O_remove_17 (n := 18) rfl sh_4 ?_
    refine g_iload_n hX 1 d_O_remove_18 (n := 19) rfl rfl rfl ?_
    refine g_icmp_eq hX 37 d_O_remove_19 (n := 22) rfl rfl ?_ ?_
    · exact (m_O_remove_37 hX K4 hK4 σ x1 x2 x3)
    · refine g_aload_n hX 0 d_O_remove_22 (n := 23) rfl rfl rfl ?_
      refine g_geta hX 4 gf_O_9 d_O_remove_23 (n := 26) rfl sh_3 rfl ?_
      refine g_iload_n hX 2 d_O_remove_26 (n := 27) rfl rfl rfl ?_
      refine g_aload_n hX 0 d_O_remove_27 (n := 28) rfl rfl rfl ?_
      refine g_geta hX 4 gf_O_9 d_O_remove_28 (n := 31) rfl sh_3 rfl ?_
      refine g_iload_n hX 3 d_O_remove_31 (n := 32) rfl rfl rfl ?_
      refine g_iald hX d_O_remove_32 (n := 33) rfl sh_4 ?_
      refine g_iast hX d_O_remove_33 (n := 34) rfl sh_4 ?_
      refine g_mem (fun u2 => ?_)
      refine g_iinc hX 1 _ [_, _, _, _] d_O_remove_34 (n := 37) rfl rfl k_iconst_1 rfl (by decide) rfl ?_
      exact (m_O_remove_37 hX K4 hK4 u2 x1 (x2 + 1) x3)
def f_O_remove_4 (n : Nat) : Mem → Int32 → Int32 → Int32 → Option Mem := gfix (fun _ _ _ _ => none) (fun K4 => f_O_remove_4B K4) n
theorem m_O_remove_4 {κ : GC} {Γ : GA} (hX : Gx κ Γ 4 b_O_remove "PaneScreen$Order" r_O_remove none) (n : Nat) : ∀ (σ : Mem) (x1 : Int32) (x2 : Int32) (x3 : Int32), GG κ Γ 4 (gQ gqv κ Γ r_O_remove) 0 0 σ [some (.ref (Γ.2.1 3)), some (.int x1), some (.int x2), some (.int x3)] 4 [] (f_O_remove_4 n σ x1 x2 x3) := by
  induction n with
  | zero => intros; exact g_none
  | succ n ih => intro σ x1 x2 x3; exact m_O_remove_4B hX (f_O_remove_4 n) ih σ x1 x2 x3
def f_O_remove_0 (σ : Mem) (x1 : Int32) : Option Mem :=
  f_O_remove_4 gN σ x1 0 0
set_option maxRecDepth 100000 in
theorem m_O_remove_0 {κ : GC} {Γ : GA} (hX : Gx κ Γ 4 b_O_remove "PaneScreen$Order" r_O_remove none) (σ : Mem) (x1 : Int32) : GG κ Γ 4 (gQ gqv κ Γ r_O_remove) 0 0 σ [some (.ref (Γ.2.1 3)), some (.int x1), none, none] 0 [] (f_O_remove_0 σ x1) := by
  unfold f_O_remove_0
  refine g_iconst hX 0 d_O_remove_0 (n := 1) rfl k_iconst_0 ?_
  refine g_istore_n hX 2 [_, _, _, _] d_O_remove_1 (n := 2) rfl rfl (by decide) rfl ?_
  refine g_iconst hX 0 d_O_remove_2 (n := 3) rfl k_iconst_0 ?_
  refine g_istore_n hX 3 [_, _, _, _] d_O_remove_3 (n := 4) rfl rfl (by decide) rfl ?_
  exact (m_O_remove_4 hX gN σ x1 0 0)
def f_O_remove (x1 : Int32) (σ : Mem) : Option Mem := f_O_remove_0 σ x1
theorem c_O_remove (l : Launch) (Γ : GA) (x1 : Int32) (σ : Mem) : gM gqv l y_O_remove b_O_remove 4 none r_O_remove [.ref (Γ.2.1 3), .int x1] Γ σ (f_O_remove x1 σ) :=
  gM.of [some (.ref (Γ.2.1 3)), some (.int x1), none, none] (by decide) (Nat.le_of_ble_eq_true rfl) rfl rfl (fun κ hX _ => m_O_remove_0 hX σ x1)
/-! E_copy -/
theorem d_E_copy_0 : decode b_E_copy 0 = .ok (.aload_n 0, 1) := by decide +kernel
theorem d_E_copy_1 : decode b_E_copy 1 = .ok (.getfield 9, 3) := by decide +kernel
theorem d_E_copy_4 : decode b_E_copy 4 = .ok (.iload_n 2, 1) := by decide +kernel
theorem d_E_copy_5 : decode b_E_copy 5 = .ok (.aload_n 0, 1) := by decide +kernel
theorem d_E_copy_6 : decode b_E_copy 6 = .ok (.getfield 9, 3) := by decide +kernel
theorem d_E_copy_9 : decode b_E_copy 9 = .ok (.iload_n 1, 1) := by decide +kernel
theorem d_E_copy_10 : decode b_E_copy 10 = .ok (.iaload, 1) := by decide +kernel
theorem d_E_copy_11 : decode b_E_copy 11 = .ok (.iastore, 1) := by decide +kernel
theorem d_E_copy_12 : decode b_E_copy 12 = .ok (.aload_n 0, 1) := by decide +kernel
theorem d_E_copy_13 : decode b_E_copy 13 = .ok (.getfield 15, 3) := by decide +kernel
theorem d_E_copy_16 : decode b_E_copy 16 = .ok (.iload_n 2, 1) := by decide +kernel
theorem d_E_copy_17 : decode b_E_copy 17 = .ok (.aload_n 0, 1) := by decide +kernel
theorem d_E_copy_18 : decode b_E_copy 18 = .ok (.getfield 15, 3) := by decide +kernel
theorem d_E_copy_21 : decode b_E_copy 21 = .ok (.iload_n 1, 1) := by decide +kernel
theorem d_E_copy_22 : decode b_E_copy 22 = .ok (.iaload, 1) := by decide +kernel
theorem d_E_copy_23 : decode b_E_copy 23 = .ok (.iastore, 1) := by decide +kernel
theorem d_E_copy_24 : decode b_E_copy 24 = .ok (.aload_n 0, 1) := by decide +kernel
theorem d_E_copy_25 : decode b_E_copy 25 = .ok (.getfield 18, 3) := by decide +kernel
theorem d_E_copy_28 : decode b_E_copy 28 = .ok (.iload_n 2, 1) := by decide +kernel
theorem d_E_copy_29 : decode b_E_copy 29 = .ok (.aload_n 0, 1) := by decide +kernel
theorem d_E_copy_30 : decode b_E_copy 30 = .ok (.getfield 18, 3) := by decide +kernel
theorem d_E_copy_33 : decode b_E_copy 33 = .ok (.iload_n 1, 1) := by decide +kernel
theorem d_E_copy_34 : decode b_E_copy 34 = .ok (.iaload, 1) := by decide +kernel
theorem d_E_copy_35 : decode b_E_copy 35 = .ok (.iastore, 1) := by decide +kernel
theorem d_E_copy_36 : decode b_E_copy 36 = .ok (.aload_n 0, 1) := by decide +kernel
theorem d_E_copy_37 : decode b_E_copy 37 = .ok (.getfield 21, 3) := by decide +kernel
theorem d_E_copy_40 : decode b_E_copy 40 = .ok (.iload_n 2, 1) := by decide +kernel
theorem d_E_copy_41 : decode b_E_copy 41 = .ok (.aload_n 0, 1) := by decide +kernel
theorem d_E_copy_42 : decode b_E_copy 42 = .ok (.getfield 21, 3) := by decide +kernel
theorem d_E_copy_45 : decode b_E_copy 45 = .ok (.iload_n 1, 1) := by decide +kernel
theorem d_E_copy_46 : decode b_E_copy 46 = .ok (.iaload, 1) := by decide +kernel
theorem d_E_copy_47 : decode b_E_copy 47 = .ok (.iastore, 1) := by decide +kernel
theorem d_E_copy_48 : decode b_E_copy 48 = .ok (.return_, 1) := by decide +kernel
abbrev r_E_copy : Room := ⟨0, 0, 0, 0⟩
def f_E_copy_0 (σ : Mem) (x1 : Int32) (x2 : Int32) : Option Mem :=
  if gin x1 12 = true then
    if gin x2 12 = true then
      gbm (m2 σ 15 x2.toNatClampNeg (σ 15 x1.toNatClampNeg)) fun u1 =>
      if gin x1 12 = true then
        if gin x2 12 = true then
          gbm (m2 u1 16 x2.toNatClampNeg (u1 16 x1.toNatClampNeg)) fun u2 =>
          if gin x1 12 = true then
            if gin x2 12 = true then
              gbm (m2 u2 17 x2.toNatClampNeg (u2 17 x1.toNatClampNeg)) fun u3 =>
              if gin x1 12 = true then
                if gin x2 12 = true then
                  gbm (m2 u3 18 x2.toNatClampNeg (u3 18 x1.toNatClampNeg)) fun u4 =>
                  some u4
                else none
              else none
            else none
          else none
        else none
      else none
    else none
  else none
set_option maxRecDepth 100000 in
theorem m_E_copy_0 {κ : GC} {Γ : GA} (hX : Gx κ Γ 3 b_E_copy "PaneScreen$EventLine" r_E_copy none) (σ : Mem) (x1 : Int32) (x2 : Int32) : GG κ Γ 3 (gQ gqv κ Γ r_E_copy) 0 0 σ [some (.ref (Γ.2.1 14)), some (.int x1), some (.int x2)] 0 [] (f_E_copy_0 σ x1 x2) := by
  unfold f_E_copy_0
  refine g_aload_n hX 0 d_E_copy_0 (n := 1) rfl rfl rfl ?_
  refine g_geta hX 15 gf_E_9 d_E_copy_1 (n := 4) rfl sh_14 rfl ?_
  refine g_iload_n hX 2 d_E_copy_4 (n := 5) rfl rfl rfl ?_
  refine g_aload_n hX 0 d_E_copy_5 (n := 6) rfl rfl rfl ?_
  refine g_geta hX 15 gf_E_9 d_E_copy_6 (n := 9) rfl sh_14 rfl ?_
  refine g_iload_n hX 1 d_E_copy_9 (n := 10) rfl rfl rfl ?_
  refine g_iald hX d_E_copy_10 (n := 11) rfl sh_15 ?_
  refine g_iast hX d_E_copy_11 (n := 12) rfl sh_15 ?_
  refine g_mem (fun u1 => ?_)
  refine g_aload_n hX 0 d_E_copy_12 (n := 13) rfl rfl rfl ?_
  refine g_geta hX 16 gf_E_15 d_E_copy_13 (n := 16) rfl sh_14 rfl ?_
  refine g_iload_n hX 2 d_E_copy_16 (n := 17) rfl rfl rfl ?_
  refine g_aload_n hX 0 d_E_copy_17 (n := 18) rfl rfl rfl ?_
  refine g_geta hX 16 gf_E_15 d_E_copy_18 (n := 21) rfl sh_14 rfl ?_
  refine g_iload_n hX 1 d_E_copy_21 (n := 22) rfl rfl rfl ?_
  refine g_iald hX d_E_copy_22 (n := 23) rfl sh_16 ?_
  refine g_iast hX d_E_copy_23 (n := 24) rfl sh_16 ?_
  refine g_mem (fun u2 => ?_)
  refine g_aload_n hX 0 d_E_copy_24 (n := 25) rfl rfl rfl ?_
  refine g_geta hX 17 gf_E_18 d_E_copy_25 (n := 28) rfl sh_14 rfl ?_
  refine g_iload_n hX 2 d_E_copy_28 (n := 29) rfl rfl rfl ?_
  refine g_aload_n hX 0 d_E_copy_29 (n := 30) rfl rfl rfl ?_
  refine g_geta hX 17 gf_E_18 d_E_copy_30 (n := 33) rfl sh_14 rfl ?_
  refine g_iload_n hX 1 d_E_copy_33 (n := 34) rfl rfl rfl ?_
  refine g_iald hX d_E_copy_34 (n := 35) rfl sh_17 ?_
  refine g_iast hX d_E_copy_35 (n := 36) rfl sh_17 ?_
  refine g_mem (fun u3 => ?_)
  refine g_aload_n hX 0 d_E_copy_36 (n := 37) rfl rfl rfl ?_
  refine g_geta hX 18 gf_E_21 d_E_copy_37 (n := 40) rfl sh_14 rfl ?_
  refine g_iload_n hX 2 d_E_copy_40 (n := 41) rfl rfl rfl ?_
  refine g_aload_n hX 0 d_E_copy_41 (n := 42) rfl rfl rfl ?_
  refine g_geta hX 18 gf_E_21 d_E_copy_42 (n := 45) rfl sh_14 rfl ?_
  refine g_iload_n hX 1 d_E_copy_45 (n := 46) rfl rfl rfl ?_
  refine g_iald hX d_E_copy_46 (n := 47) rfl sh_18 ?_
  refine g_iast hX d_E_copy_47 (n := 48) rfl sh_18 ?_
  refine g_mem (fun u4 => ?_)
  exact g_vret hX d_E_copy_48 (by decide) (by decide)
def f_E_copy (x1 : Int32) (x2 : Int32) (σ : Mem) : Option Mem := f_E_copy_0 σ x1 x2
theorem c_E_copy (l : Launch) (Γ : GA) (x1 : Int32) (x2 : Int32) (σ : Mem) : gM gqv l y_E_copy b_E_copy 3 none r_E_copy [.ref (Γ.2.1 14), .int x1, .int x2] Γ σ (f_E_copy x1 x2 σ) :=
  gM.of [some (.ref (Γ.2.1 14)), some (.int x1), some (.int x2)] (by decide) (Nat.le_of_ble_eq_true rfl) rfl rfl (fun κ hX _ => m_E_copy_0 hX σ x1 x2)
/-! E_removeAllOf -/
theorem d_E_removeAllOf_0 : decode b_E_removeAllOf 0 = .ok (.iconst 0, 1) := by decide +kernel
theorem d_E_removeAllOf_1 : decode b_E_removeAllOf 1 = .ok (.istore_n 2, 1) := by decide +kernel
theorem d_E_removeAllOf_2 : decode b_E_removeAllOf 2 = .ok (.iconst 0, 1) := by decide +kernel
theorem d_E_removeAllOf_3 : decode b_E_removeAllOf 3 = .ok (.istore_n 3, 1) := by decide +kernel
theorem d_E_removeAllOf_4 : decode b_E_removeAllOf 4 = .ok (.iload_n 3, 1) := by decide +kernel
theorem d_E_removeAllOf_5 : decode b_E_removeAllOf 5 = .ok (.aload_n 0, 1) := by decide +kernel
theorem d_E_removeAllOf_6 : decode b_E_removeAllOf 6 = .ok (.getfield 28, 3) := by decide +kernel
theorem d_E_removeAllOf_9 : decode b_E_removeAllOf 9 = .ok (.if_icmp .ge 28, 3) := by decide +kernel
theorem d_E_removeAllOf_12 : decode b_E_removeAllOf 12 = .ok (.aload_n 0, 1) := by decide +kernel
theorem d_E_removeAllOf_13 : decode b_E_removeAllOf 13 = .ok (.getfield 15, 3) := by decide +kernel
theorem d_E_removeAllOf_16 : decode b_E_removeAllOf 16 = .ok (.iload_n 3, 1) := by decide +kernel
theorem d_E_removeAllOf_17 : decode b_E_removeAllOf 17 = .ok (.iaload, 1) := by decide +kernel
theorem d_E_removeAllOf_18 : decode b_E_removeAllOf 18 = .ok (.iload_n 1, 1) := by decide +kernel
theorem d_E_removeAllOf_19 : decode b_E_removeAllOf 19 = .ok (.if_icmp .eq 12, 3) := by decide +kernel
theorem d_E_removeAllOf_22 : decode b_E_removeAllOf 22 = .ok (.aload_n 0, 1) := by decide +kernel
theorem d_E_removeAllOf_23 : decode b_E_removeAllOf 23 = .ok (.iload_n 3, 1) := by decide +kernel
theorem d_E_removeAllOf_24 : decode b_E_removeAllOf 24 = .ok (.iload_n 2, 1) := by decide +kernel
theorem d_E_removeAllOf_25 : decode b_E_removeAllOf 25 = .ok (.invokevirtual 43, 3) := by decide +kernel
theorem d_E_removeAllOf_28 : decode b_E_removeAllOf 28 = .ok (.iinc 2 1, 3) := by decide +kernel
theorem d_E_removeAllOf_31 : decode b_E_removeAllOf 31 = .ok (.iinc 3 1, 3) := by decide +kernel
theorem d_E_removeAllOf_34 : decode b_E_removeAllOf 34 = .ok (.goto (-30), 3) := by decide +kernel
theorem d_E_removeAllOf_37 : decode b_E_removeAllOf 37 = .ok (.aload_n 0, 1) := by decide +kernel
theorem d_E_removeAllOf_38 : decode b_E_removeAllOf 38 = .ok (.iload_n 2, 1) := by decide +kernel
theorem d_E_removeAllOf_39 : decode b_E_removeAllOf 39 = .ok (.putfield 28, 3) := by decide +kernel
theorem d_E_removeAllOf_42 : decode b_E_removeAllOf 42 = .ok (.return_, 1) := by decide +kernel
abbrev r_E_removeAllOf : Room := ⟨1, 0, 0, 22⟩
def f_E_removeAllOf_31 (K4 : Mem → Int32 → Int32 → Int32 → Option Mem) (σ : Mem) (x1 : Int32) (x2 : Int32) (x3 : Int32) : Option Mem :=
  K4 σ x1 x2 (x3 + 1)
set_option maxRecDepth 100000 in
theorem m_E_removeAllOf_31 {κ : GC} {Γ : GA} (hX : Gx κ Γ 4 b_E_removeAllOf "PaneScreen$EventLine" r_E_removeAllOf none) (K4 : Mem → Int32 → Int32 → Int32 → Option Mem) (hK4 : ∀ (σ : Mem) (x1 : Int32) (x2 : Int32) (x3 : Int32), GG κ Γ 4 (gQ gqv κ Γ r_E_removeAllOf) 0 0 σ [some (.ref (Γ.2.1 14)), some (.int x1), some (.int x2), some (.int x3)] 4 [] (K4 σ x1 x2 x3)) (σ : Mem) (x1 : Int32) (x2 : Int32) (x3 : Int32) : GG κ Γ 4 (gQ gqv κ Γ r_E_removeAllOf) 0 0 σ [some (.ref (Γ.2.1 14)), some (.int x1), some (.int x2), some (.int x3)] 31 [] (f_E_removeAllOf_31 K4 σ x1 x2 x3) := by
  unfold f_E_removeAllOf_31
  refine g_iinc hX 1 _ [_, _, _, _] d_E_removeAllOf_31 (n := 34) rfl rfl k_iconst_1 rfl (by decide) rfl ?_
  refine g_goto hX 4 d_E_removeAllOf_34 rfl ?_
  exact (hK4 σ x1 x2 (x3 + 1))
def f_E_removeAllOf_4B (K4 : Mem → Int32 → Int32 → Int32 → Option Mem) (σ : Mem) (x1 : Int32) (x2 : Int32) (x3 : Int32) : Option Mem :=
  if (σ 14 4) ≤ x3 then
    gbm (m2 σ 14 4 x2) fun u1 =>
    some u1
  else
    if gin x3 12 = true then
      if (σ 16 x3.toNatClampNeg) = x1 then
        f_E_removeAllOf_31 K4 σ x1 x2 x3
      else
        gbv (f_E_copy x3 x2 σ) fun u2 =>
        f_E_removeAllOf_31 K4 u2 x1 (x2 + 1) x3
    else none
set_option maxRecDepth 100000 in
theorem m_E_removeAllOf_4B {κ : GC} {Γ : GA} (hX : Gx κ Γ 4 b_E_removeAllOf "PaneScreen$EventLine" r_E_removeAllOf none) (K4 : Mem → Int32 → Int32 → Int32 → Option Mem) (hK4 : ∀ (σ : Mem) (x1 : Int32) (x2 : Int32) (x3 : Int32), GG κ Γ 4 (gQ gqv κ Γ r_E_removeAllOf) 0 0 σ [some (.ref (Γ.2.1 14)), some (.int x1), some (.int x2), some (.int x3)] 4 [] (K4 σ x1 x2 x3)) (σ : Mem) (x1 : Int32) (x2 : Int32) (x3 : Int32) : GG κ Γ 4 (gQ gqv κ Γ r_E_removeAllOf) 0 0 σ [some (.ref (Γ.2.1 14)), some (.int x1), some (.int x2), some (.int x3)] 4 [] (f_E_removeAllOf_4B K4 σ x1 x2 x3) := by
  unfold f_E_removeAllOf_4B
  refine g_iload_n hX 3 d_E_removeAllOf_4 (n := 5) rfl rfl rfl ?_
  refine g_aload_n hX 0 d_E_removeAllOf_5 (n := 6) rfl rfl rfl ?_
  refine g_geti hX gf_E_28 d_E_removeAllOf_6 (n := 9) rfl sh_14 rfl ?_
  refine g_icmp_ge hX 37 d_E_removeAllOf_9 (n := 12) rfl rfl ?_ ?_
  · refine g_aload_n hX 0 d_E_removeAllOf_37 (n := 38) rfl rfl rfl ?_
    refine g_iload_n hX 2 d_E_removeAllOf_38 (n := 39) rfl rfl rfl ?_
    refine g_puti hX gp_E_28 d_E_removeAllOf_39 (n := 42) rfl sh_14 rfl ?_
    refine g_mem (fun u1 => ?_)
    exact g_vret hX d_E_removeAllOf_42 (by decide) (by decide)
  · refine g_aload_n hX 0 d_E_removeAllOf_12 (n := 13) rfl rfl rfl ?_
    refine g_geta hX 16 gf_E_15 d_E_removeAllOf_13 (n := 16) rfl sh_14 rfl ?_
    refine g_iload_n hX 3 d_E_removeAllOf_16 (n := 17) rfl rfl rfl ?_
    refine g_iald hX d_E_removeAllOf_17 (n := 18) rfl sh_16 ?_
    refine g_iload_n hX 1 d_E_removeAllOf_18 (n := 19) rfl rfl rfl ?_
    refine g_icmp_eq hX 31 d_E_removeAllOf_19 (n := 22) rfl rfl ?_ ?_
    · exact (m_E_removeAllOf_31 hX K4 hK4 σ x1 x2 x3)
    · refine g_aload_n hX 0 d_E_removeAllOf_22 (n := 23) rfl rfl rfl ?_
      refine g_iload_n hX 3 d_E_removeAllOf_23 (n := 24) rfl rfl rfl ?_
      refine g_iload_n hX 2 d_E_removeAllOf_24 (n := 25) rfl rfl rfl ?_
      refine g_cVv hX [_, _] rfl 0 0 (c_E_copy _ Γ x3 x2 σ) gw_E_43 rfl sh_14 rfl d_E_removeAllOf_25 (n := 28) rfl ⟨by decide, by decide⟩ ⟨by decide, by decide⟩ (Nat.le_of_ble_eq_true rfl) rfl rfl (fun u2 => ?_)
      refine g_iinc hX 1 _ [_, _, _, _] d_E_removeAllOf_28 (n := 31) rfl rfl k_iconst_1 rfl (by decide) rfl ?_
      exact (m_E_removeAllOf_31 hX K4 hK4 u2 x1 (x2 + 1) x3)
def f_E_removeAllOf_4 (n : Nat) : Mem → Int32 → Int32 → Int32 → Option Mem := gfix (fun _ _ _ _ => none) (fun K4 => f_E_removeAllOf_4B K4) n
theorem m_E_removeAllOf_4 {κ : GC} {Γ : GA} (hX : Gx κ Γ 4 b_E_removeAllOf "PaneScreen$EventLine" r_E_removeAllOf none) (n : Nat) : ∀ (σ : Mem) (x1 : Int32) (x2 : Int32) (x3 : Int32), GG κ Γ 4 (gQ gqv κ Γ r_E_removeAllOf) 0 0 σ [some (.ref (Γ.2.1 14)), some (.int x1), some (.int x2), some (.int x3)] 4 [] (f_E_removeAllOf_4 n σ x1 x2 x3) := by
  induction n with
  | zero => intros; exact g_none
  | succ n ih => intro σ x1 x2 x3; exact m_E_removeAllOf_4B hX (f_E_removeAllOf_4 n) ih σ x1 x2 x3
def f_E_removeAllOf_0 (σ : Mem) (x1 : Int32) : Option Mem :=
  f_E_removeAllOf_4 gN σ x1 0 0
set_option maxRecDepth 100000 in
theorem m_E_removeAllOf_0 {κ : GC} {Γ : GA} (hX : Gx κ Γ 4 b_E_removeAllOf "PaneScreen$EventLine" r_E_removeAllOf none) (σ : Mem) (x1 : Int32) : GG κ Γ 4 (gQ gqv κ Γ r_E_removeAllOf) 0 0 σ [some (.ref (Γ.2.1 14)), some (.int x1), none, none] 0 [] (f_E_removeAllOf_0 σ x1) := by
  unfold f_E_removeAllOf_0
  refine g_iconst hX 0 d_E_removeAllOf_0 (n := 1) rfl k_iconst_0 ?_
  refine g_istore_n hX 2 [_, _, _, _] d_E_removeAllOf_1 (n := 2) rfl rfl (by decide) rfl ?_
  refine g_iconst hX 0 d_E_removeAllOf_2 (n := 3) rfl k_iconst_0 ?_
  refine g_istore_n hX 3 [_, _, _, _] d_E_removeAllOf_3 (n := 4) rfl rfl (by decide) rfl ?_
  exact (m_E_removeAllOf_4 hX gN σ x1 0 0)
def f_E_removeAllOf (x1 : Int32) (σ : Mem) : Option Mem := f_E_removeAllOf_0 σ x1
theorem c_E_removeAllOf (l : Launch) (Γ : GA) (x1 : Int32) (σ : Mem) : gM gqv l y_E_removeAllOf b_E_removeAllOf 4 none r_E_removeAllOf [.ref (Γ.2.1 14), .int x1] Γ σ (f_E_removeAllOf x1 σ) :=
  gM.of [some (.ref (Γ.2.1 14)), some (.int x1), none, none] (by decide) (Nat.le_of_ble_eq_true rfl) rfl rfl (fun κ hX _ => m_E_removeAllOf_0 hX σ x1)
/-! O_first -/
theorem d_O_first_0 : decode b_O_first 0 = .ok (.aload_n 0, 1) := by decide +kernel
theorem d_O_first_1 : decode b_O_first 1 = .ok (.getfield 15, 3) := by decide +kernel
theorem d_O_first_4 : decode b_O_first 4 = .ok (.ifCond .ne 7, 3) := by decide +kernel
theorem d_O_first_7 : decode b_O_first 7 = .ok (.iconst (-1), 1) := by decide +kernel
theorem d_O_first_8 : decode b_O_first 8 = .ok (.goto 9, 3) := by decide +kernel
theorem d_O_first_11 : decode b_O_first 11 = .ok (.aload_n 0, 1) := by decide +kernel
theorem d_O_first_12 : decode b_O_first 12 = .ok (.getfield 9, 3) := by decide +kernel
theorem d_O_first_15 : decode b_O_first 15 = .ok (.iconst 0, 1) := by decide +kernel
theorem d_O_first_16 : decode b_O_first 16 = .ok (.iaload, 1) := by decide +kernel
theorem d_O_first_17 : decode b_O_first 17 = .ok (.ireturn, 1) := by decide +kernel
abbrev r_O_first : Room := ⟨0, 0, 0, 0⟩
def f_O_first_17 (σ : Mem) (s0 : Int32) : Option (Int32 × Mem) :=
  some (s0, σ)
set_option maxRecDepth 100000 in
theorem m_O_first_17 {κ : GC} {Γ : GA} (hX : Gx κ Γ 1 b_O_first "PaneScreen$Order" r_O_first (some .int)) (σ : Mem) (s0 : Int32) : GG κ Γ 1 (gQ gqi κ Γ r_O_first) 0 0 σ [none] 17 [.int s0] (f_O_first_17 σ s0) := by
  unfold f_O_first_17
  exact g_iret hX d_O_first_17 (by decide) (by decide)
def f_O_first_0 (σ : Mem) : Option (Int32 × Mem) :=
  if (σ 3 1) = 0 then
    f_O_first_17 σ (-1)
  else
    if gin 0 8 = true then
      f_O_first_17 σ (σ 4 (0 : Int32).toNatClampNeg)
    else none
set_option maxRecDepth 100000 in
theorem m_O_first_0 {κ : GC} {Γ : GA} (hX : Gx κ Γ 1 b_O_first "PaneScreen$Order" r_O_first (some .int)) (σ : Mem) : GG κ Γ 1 (gQ gqi κ Γ r_O_first) 0 0 σ [some (.ref (Γ.2.1 3))] 0 [] (f_O_first_0 σ) := by
  unfold f_O_first_0
  refine g_aload_n hX 0 d_O_first_0 (n := 1) rfl rfl rfl ?_
  refine g_geti hX gf_O_15 d_O_first_1 (n := 4) rfl sh_3 rfl ?_
  refine g_if_ne hX 11 d_O_first_4 (n := 7) rfl rfl ?_ ?_
  · refine g_aload_n hX 0 d_O_first_11 (n := 12) rfl rfl rfl ?_
    refine g_geta hX 4 gf_O_9 d_O_first_12 (n := 15) rfl sh_3 rfl ?_
    refine g_iconst hX 0 d_O_first_15 (n := 16) rfl k_iconst_0 ?_
    refine g_iald hX d_O_first_16 (n := 17) rfl sh_4 ?_
    exact (g_sub (lw := [none]) (True.intro) (m_O_first_17 hX σ (σ 4 (0 : Int32).toNatClampNeg)))
  · refine g_iconst hX (-1) d_O_first_7 (n := 8) rfl k_iconst_m1 ?_
    refine g_goto hX 17 d_O_first_8 rfl ?_
    exact (g_sub (lw := [none]) (True.intro) (m_O_first_17 hX σ (-1)))
def f_O_first (σ : Mem) : Option (Int32 × Mem) := f_O_first_0 σ
theorem c_O_first (l : Launch) (Γ : GA) (σ : Mem) : gM gqi l y_O_first b_O_first 1 (some .int) r_O_first [.ref (Γ.2.1 3)] Γ σ (f_O_first σ) :=
  gM.of [some (.ref (Γ.2.1 3))] (by decide) (Nat.le_of_ble_eq_true rfl) rfl rfl (fun κ hX _ => m_O_first_0 hX σ)
/-! S_close -/
theorem d_S_close_0 : decode b_S_close 0 = .ok (.aload_n 0, 1) := by decide +kernel
theorem d_S_close_1 : decode b_S_close 1 = .ok (.iload_n 1, 1) := by decide +kernel
theorem d_S_close_2 : decode b_S_close 2 = .ok (.invokevirtual 91, 3) := by decide +kernel
theorem d_S_close_5 : decode b_S_close 5 = .ok (.astore_n 2, 1) := by decide +kernel
theorem d_S_close_6 : decode b_S_close 6 = .ok (.aload_n 0, 1) := by decide +kernel
theorem d_S_close_7 : decode b_S_close 7 = .ok (.aload_n 2, 1) := by decide +kernel
theorem d_S_close_8 : decode b_S_close 8 = .ok (.invokevirtual 87, 3) := by decide +kernel
theorem d_S_close_11 : decode b_S_close 11 = .ok (.aload_n 0, 1) := by decide +kernel
theorem d_S_close_12 : decode b_S_close 12 = .ok (.getfield 30, 3) := by decide +kernel
theorem d_S_close_15 : decode b_S_close 15 = .ok (.aload_n 2, 1) := by decide +kernel
theorem d_S_close_16 : decode b_S_close 16 = .ok (.getfield 95, 3) := by decide +kernel
theorem d_S_close_19 : decode b_S_close 19 = .ok (.aload_n 2, 1) := by decide +kernel
theorem d_S_close_20 : decode b_S_close 20 = .ok (.getfield 98, 3) := by decide +kernel
theorem d_S_close_23 : decode b_S_close 23 = .ok (.aload_n 2, 1) := by decide +kernel
theorem d_S_close_24 : decode b_S_close 24 = .ok (.getfield 101, 3) := by decide +kernel
theorem d_S_close_27 : decode b_S_close 27 = .ok (.imul, 1) := by decide +kernel
theorem d_S_close_28 : decode b_S_close 28 = .ok (.invokevirtual 104, 3) := by decide +kernel
theorem d_S_close_31 : decode b_S_close 31 = .ok (.aload_n 2, 1) := by decide +kernel
theorem d_S_close_32 : decode b_S_close 32 = .ok (.invokevirtual 107, 3) := by decide +kernel
theorem d_S_close_35 : decode b_S_close 35 = .ok (.aload_n 0, 1) := by decide +kernel
theorem d_S_close_36 : decode b_S_close 36 = .ok (.getfield 23, 3) := by decide +kernel
theorem d_S_close_39 : decode b_S_close 39 = .ok (.iload_n 1, 1) := by decide +kernel
theorem d_S_close_40 : decode b_S_close 40 = .ok (.invokevirtual 110, 3) := by decide +kernel
theorem d_S_close_43 : decode b_S_close 43 = .ok (.aload_n 0, 1) := by decide +kernel
theorem d_S_close_44 : decode b_S_close 44 = .ok (.getfield 44, 3) := by decide +kernel
theorem d_S_close_47 : decode b_S_close 47 = .ok (.iload_n 1, 1) := by decide +kernel
theorem d_S_close_48 : decode b_S_close 48 = .ok (.invokevirtual 113, 3) := by decide +kernel
theorem d_S_close_51 : decode b_S_close 51 = .ok (.aload_n 0, 1) := by decide +kernel
theorem d_S_close_52 : decode b_S_close 52 = .ok (.getfield 48, 3) := by decide +kernel
theorem d_S_close_55 : decode b_S_close 55 = .ok (.iload_n 1, 1) := by decide +kernel
theorem d_S_close_56 : decode b_S_close 56 = .ok (.if_icmp .ne 14, 3) := by decide +kernel
theorem d_S_close_59 : decode b_S_close 59 = .ok (.aload_n 0, 1) := by decide +kernel
theorem d_S_close_60 : decode b_S_close 60 = .ok (.aload_n 0, 1) := by decide +kernel
theorem d_S_close_61 : decode b_S_close 61 = .ok (.getfield 23, 3) := by decide +kernel
theorem d_S_close_64 : decode b_S_close 64 = .ok (.invokevirtual 116, 3) := by decide +kernel
theorem d_S_close_67 : decode b_S_close 67 = .ok (.putfield 48, 3) := by decide +kernel
theorem d_S_close_70 : decode b_S_close 70 = .ok (.return_, 1) := by decide +kernel
abbrev r_S_close : Room := ⟨7, 1, 6, 128⟩
def f_S_close_70 (σ : Mem) : Option ((Unit ⊕ String) × Mem) :=
  some (.inl (), σ)
set_option maxRecDepth 100000 in
theorem m_S_close_70 {κ : GC} {Γ : GA} (hX : Gx κ Γ 3 b_S_close "PaneScreen" r_S_close none) (hE : ∀ x ∈ κ.2.2.2.2.2.2.2.2.2.exceptionTable.toList, False) (hT : κ.2.1.stackTraces = false) (σ : Mem) : GG κ Γ 3 (gQX gxv κ Γ r_S_close) 1 6 σ [none, none, none] 70 [] (f_S_close_70 σ) := by
  unfold f_S_close_70
  exact g_vxret hX d_S_close_70 (by decide) (by decide)
def f_S_close_0 (σ : Mem) (x1 : Int32) : Option ((Unit ⊕ String) × Mem) :=
  gbx (f_S_openPane x1 σ) (fun p2 u1 =>
    if gpn p2 = true then
      gbv (f_S_damageFrame p2 u1) fun u3 =>
      gbv (f_T_release (u3 p2 5) ((u3 p2 3) * (u3 p2 4)) u3) fun u4 =>
      gbv (f_P_end p2 u4) fun u5 =>
      gbv (f_O_remove x1 u5) fun u6 =>
      gbv (f_E_removeAllOf x1 u6) fun u7 =>
      if (u7 0 6) = x1 then
        gb (f_O_first u7) fun r9 u8 =>
        gbm (m2 u8 0 6 r9) fun u10 =>
        f_S_close_70 u10
      else
        f_S_close_70 u7
    else none) (fun E u => some (.inr E, u))
set_option maxRecDepth 100000 in
theorem m_S_close_0 {κ : GC} {Γ : GA} (hX : Gx κ Γ 3 b_S_close "PaneScreen" r_S_close none) (hE : ∀ x ∈ κ.2.2.2.2.2.2.2.2.2.exceptionTable.toList, False) (hT : κ.2.1.stackTraces = false) (σ : Mem) (x1 : Int32) : GG κ Γ 3 (gQX gxv κ Γ r_S_close) 0 0 σ [some (.ref (Γ.2.1 0)), some (.int x1), none] 0 [] (f_S_close_0 σ x1) := by
  unfold f_S_close_0
  refine g_aload_n hX 0 d_S_close_0 (n := 1) rfl rfl rfl ?_
  refine g_iload_n hX 1 d_S_close_1 (n := 2) rfl rfl rfl ?_
  refine g_xVr hX hE [_] rfl 1 6 (c_S_openPane _ hT Γ x1 σ) gw_S_91 rfl sh_0 rfl d_S_close_2 (n := 5) rfl ⟨by decide, by decide⟩ ⟨by decide, by decide⟩ (Nat.le_of_ble_eq_true rfl) rfl rfl (fun p2 u1 => ?_)
  refine g_pane (fun hp2 => ?_)
  refine g_astore_n hX 2 [_, _, _] d_S_close_5 (n := 6) rfl rfl (by decide) rfl ?_
  refine g_aload_n hX 0 d_S_close_6 (n := 7) rfl rfl rfl ?_
  refine g_aload_n hX 2 d_S_close_7 (n := 8) rfl rfl rfl ?_
  refine g_cVv hX [_] rfl 1 6 (c_S_damageFrame _ Γ p2 hp2 u1) gw_S_87 rfl sh_0 rfl d_S_close_8 (n := 11) rfl ⟨by decide, by decide⟩ ⟨by decide, by decide⟩ (Nat.le_of_ble_eq_true rfl) rfl rfl (fun u3 => ?_)
  refine g_aload_n hX 0 d_S_close_11 (n := 12) rfl rfl rfl ?_
  refine g_geta hX 5 gf_S_30 d_S_close_12 (n := 15) rfl sh_0 rfl ?_
  refine g_aload_n hX 2 d_S_close_15 (n := 16) rfl rfl rfl ?_
  refine g_geti hX gf_S_95 d_S_close_16 (n := 19) rfl hp2 rfl ?_
  refine g_aload_n hX 2 d_S_close_19 (n := 20) rfl rfl rfl ?_
  refine g_geti hX gf_S_98 d_S_close_20 (n := 23) rfl hp2 rfl ?_
  refine g_aload_n hX 2 d_S_close_23 (n := 24) rfl rfl rfl ?_
  refine g_geti hX gf_S_101 d_S_close_24 (n := 27) rfl hp2 rfl ?_
  refine g_imul hX d_S_close_27 (n := 28) rfl ?_
  refine g_cVv hX [_, _] rfl 1 6 (c_T_release _ Γ (u3 p2 5) ((u3 p2 3) * (u3 p2 4)) u3) gw_S_104 rfl sh_5 rfl d_S_close_28 (n := 31) rfl ⟨by decide, by decide⟩ ⟨by decide, by decide⟩ (Nat.le_of_ble_eq_true rfl) rfl rfl (fun u4 => ?_)
  refine g_aload_n hX 2 d_S_close_31 (n := 32) rfl rfl rfl ?_
  refine g_cVv hX [] rfl 1 6 (c_P_end _ Γ p2 hp2 u4) gw_S_107 rfl hp2 rfl d_S_close_32 (n := 35) rfl ⟨by decide, by decide⟩ ⟨by decide, by decide⟩ (Nat.le_of_ble_eq_true rfl) rfl rfl (fun u5 => ?_)
  refine g_aload_n hX 0 d_S_close_35 (n := 36) rfl rfl rfl ?_
  refine g_geta hX 3 gf_S_23 d_S_close_36 (n := 39) rfl sh_0 rfl ?_
  refine g_iload_n hX 1 d_S_close_39 (n := 40) rfl rfl rfl ?_
  refine g_cVv hX [_] rfl 1 6 (c_O_remove _ Γ x1 u5) gw_S_110 rfl sh_3 rfl d_S_close_40 (n := 43) rfl ⟨by decide, by decide⟩ ⟨by decide, by decide⟩ (Nat.le_of_ble_eq_true rfl) rfl rfl (fun u6 => ?_)
  refine g_aload_n hX 0 d_S_close_43 (n := 44) rfl rfl rfl ?_
  refine g_geta hX 14 gf_S_44 d_S_close_44 (n := 47) rfl sh_0 rfl ?_
  refine g_iload_n hX 1 d_S_close_47 (n := 48) rfl rfl rfl ?_
  refine g_cVv hX [_] rfl 1 6 (c_E_removeAllOf _ Γ x1 u6) gw_S_113 rfl sh_14 rfl d_S_close_48 (n := 51) rfl ⟨by decide, by decide⟩ ⟨by decide, by decide⟩ (Nat.le_of_ble_eq_true rfl) rfl rfl (fun u7 => ?_)
  refine g_aload_n hX 0 d_S_close_51 (n := 52) rfl rfl rfl ?_
  refine g_geti hX gf_S_48 d_S_close_52 (n := 55) rfl sh_0 rfl ?_
  refine g_iload_n hX 1 d_S_close_55 (n := 56) rfl rfl rfl ?_
  refine g_icmp_ne hX 70 d_S_close_56 (n := 59) rfl rfl ?_ ?_
  · exact (g_sub (lw := [none, none, none]) (True.intro) (m_S_close_70 hX hE hT u7))
  · refine g_aload_n hX 0 d_S_close_59 (n := 60) rfl rfl rfl ?_
    refine g_aload_n hX 0 d_S_close_60 (n := 61) rfl rfl rfl ?_
    refine g_geta hX 3 gf_S_23 d_S_close_61 (n := 64) rfl sh_0 rfl ?_
    refine g_cVi hX [] rfl 1 6 (c_O_first _ Γ u7) gw_S_116 rfl sh_3 rfl d_S_close_64 (n := 67) rfl ⟨by decide, by decide⟩ ⟨by decide, by decide⟩ (Nat.le_of_ble_eq_true rfl) rfl rfl (fun r9 u8 => ?_)
    refine g_puti hX gp_S_48 d_S_close_67 (n := 70) rfl sh_0 rfl ?_
    refine g_mem (fun u10 => ?_)
    exact (g_sub (lw := [none, none, none]) (True.intro) (m_S_close_70 hX hE hT u10))
def f_S_close (x1 : Int32) (σ : Mem) : Option ((Unit ⊕ String) × Mem) := f_S_close_0 σ x1
theorem c_S_close (l : Launch) (hT : l.stackTraces = false) (Γ : GA) (x1 : Int32) (σ : Mem) : gX gxv l y_S_close b_S_close 3 none r_S_close [.ref (Γ.2.1 0), .int x1] Γ σ (f_S_close x1 σ) :=
  gX.of [some (.ref (Γ.2.1 0)), some (.int x1), none] (by decide) (Nat.le_of_ble_eq_true rfl) rfl rfl (fun κ hX hκ hE => m_S_close_0 hX hE (by rw [hκ]; exact hT) σ x1)
/-! S_move -/
theorem d_S_move_0 : decode b_S_move 0 = .ok (.aload_n 0, 1) := by decide +kernel
theorem d_S_move_1 : decode b_S_move 1 = .ok (.iload_n 1, 1) := by decide +kernel
theorem d_S_move_2 : decode b_S_move 2 = .ok (.invokevirtual 91, 3) := by decide +kernel
theorem d_S_move_5 : decode b_S_move 5 = .ok (.astore 4, 2) := by decide +kernel
theorem d_S_move_7 : decode b_S_move 7 = .ok (.iload_n 2, 1) := by decide +kernel
theorem d_S_move_8 : decode b_S_move 8 = .ok (.iload_n 3, 1) := by decide +kernel
theorem d_S_move_9 : decode b_S_move 9 = .ok (.invokestatic 55, 3) := by decide +kernel
theorem d_S_move_12 : decode b_S_move 12 = .ok (.aload_n 0, 1) := by decide +kernel
theorem d_S_move_13 : decode b_S_move 13 = .ok (.aload 4, 2) := by decide +kernel
theorem d_S_move_15 : decode b_S_move 15 = .ok (.invokevirtual 87, 3) := by decide +kernel
theorem d_S_move_18 : decode b_S_move 18 = .ok (.aload 4, 2) := by decide +kernel
theorem d_S_move_20 : decode b_S_move 20 = .ok (.iload_n 2, 1) := by decide +kernel
theorem d_S_move_21 : decode b_S_move 21 = .ok (.iload_n 3, 1) := by decide +kernel
theorem d_S_move_22 : decode b_S_move 22 = .ok (.invokevirtual 80, 3) := by decide +kernel
theorem d_S_move_25 : decode b_S_move 25 = .ok (.aload_n 0, 1) := by decide +kernel
theorem d_S_move_26 : decode b_S_move 26 = .ok (.aload 4, 2) := by decide +kernel
theorem d_S_move_28 : decode b_S_move 28 = .ok (.invokevirtual 87, 3) := by decide +kernel
theorem d_S_move_31 : decode b_S_move 31 = .ok (.return_, 1) := by decide +kernel
abbrev r_S_move : Room := ⟨7, 2, 12, 128⟩
def f_S_move_0 (σ : Mem) (x1 : Int32) (x2 : Int32) (x3 : Int32) : Option ((Unit ⊕ String) × Mem) :=
  gbx (f_S_openPane x1 σ) (fun p2 u1 =>
    if gpn p2 = true then
      gbx (f_S_requireNear x2 x3 u1) (fun _ u3 =>
        gbv (f_S_damageFrame p2 u3) fun u4 =>
        gbv (f_P_place p2 x2 x3 u4) fun u5 =>
        gbv (f_S_damageFrame p2 u5) fun u6 =>
        some (.inl (), u6)
        ) (fun E u => some (.inr E, u))
    else none) (fun E u => some (.inr E, u))
set_option maxRecDepth 100000 in
theorem m_S_move_0 {κ : GC} {Γ : GA} (hX : Gx κ Γ 5 b_S_move "PaneScreen" r_S_move none) (hE : ∀ x ∈ κ.2.2.2.2.2.2.2.2.2.exceptionTable.toList, False) (hT : κ.2.1.stackTraces = false) (σ : Mem) (x1 : Int32) (x2 : Int32) (x3 : Int32) : GG κ Γ 5 (gQX gxv κ Γ r_S_move) 0 0 σ [some (.ref (Γ.2.1 0)), some (.int x1), some (.int x2), some (.int x3), none] 0 [] (f_S_move_0 σ x1 x2 x3) := by
  unfold f_S_move_0
  refine g_aload_n hX 0 d_S_move_0 (n := 1) rfl rfl rfl ?_
  refine g_iload_n hX 1 d_S_move_1 (n := 2) rfl rfl rfl ?_
  refine g_xVr hX hE [_] rfl 1 6 (c_S_openPane _ hT Γ x1 σ) gw_S_91 rfl sh_0 rfl d_S_move_2 (n := 5) rfl ⟨by decide, by decide⟩ ⟨by decide, by decide⟩ (Nat.le_of_ble_eq_true rfl) rfl rfl (fun p2 u1 => ?_)
  refine g_pane (fun hp2 => ?_)
  refine g_astore hX [_, _, _, _, _] d_S_move_5 (n := 7) rfl (by decide) rfl ?_
  refine g_iload_n hX 2 d_S_move_7 (n := 8) rfl rfl rfl ?_
  refine g_iload_n hX 3 d_S_move_8 (n := 9) rfl rfl rfl ?_
  refine g_xSv hX hE [_, _] rfl 2 12 (c_S_requireNear _ hT Γ x2 x3 u1) gw_S_55 rfl d_S_move_9 (n := 12) rfl ⟨by decide, by decide⟩ ⟨by decide, by decide⟩ (Nat.le_of_ble_eq_true rfl) rfl rfl (fun _ u3 => ?_)
  refine g_aload_n hX 0 d_S_move_12 (n := 13) rfl rfl rfl ?_
  refine g_aload hX d_S_move_13 (n := 15) rfl rfl ?_
  refine g_cVv hX [_] rfl 2 12 (c_S_damageFrame _ Γ p2 hp2 u3) gw_S_87 rfl sh_0 rfl d_S_move_15 (n := 18) rfl ⟨by decide, by decide⟩ ⟨by decide, by decide⟩ (Nat.le_of_ble_eq_true rfl) rfl rfl (fun u4 => ?_)
  refine g_aload hX d_S_move_18 (n := 20) rfl rfl ?_
  refine g_iload_n hX 2 d_S_move_20 (n := 21) rfl rfl rfl ?_
  refine g_iload_n hX 3 d_S_move_21 (n := 22) rfl rfl rfl ?_
  refine g_cVv hX [_, _] rfl 2 12 (c_P_place _ Γ p2 x2 x3 hp2 u4) gw_S_80 rfl hp2 rfl d_S_move_22 (n := 25) rfl ⟨by decide, by decide⟩ ⟨by decide, by decide⟩ (Nat.le_of_ble_eq_true rfl) rfl rfl (fun u5 => ?_)
  refine g_aload_n hX 0 d_S_move_25 (n := 26) rfl rfl rfl ?_
  refine g_aload hX d_S_move_26 (n := 28) rfl rfl ?_
  refine g_cVv hX [_] rfl 2 12 (c_S_damageFrame _ Γ p2 hp2 u5) gw_S_87 rfl sh_0 rfl d_S_move_28 (n := 31) rfl ⟨by decide, by decide⟩ ⟨by decide, by decide⟩ (Nat.le_of_ble_eq_true rfl) rfl rfl (fun u6 => ?_)
  exact g_vxret hX d_S_move_31 (by decide) (by decide)
def f_S_move (x1 : Int32) (x2 : Int32) (x3 : Int32) (σ : Mem) : Option ((Unit ⊕ String) × Mem) := f_S_move_0 σ x1 x2 x3
theorem c_S_move (l : Launch) (hT : l.stackTraces = false) (Γ : GA) (x1 : Int32) (x2 : Int32) (x3 : Int32) (σ : Mem) : gX gxv l y_S_move b_S_move 5 none r_S_move [.ref (Γ.2.1 0), .int x1, .int x2, .int x3] Γ σ (f_S_move x1 x2 x3 σ) :=
  gX.of [some (.ref (Γ.2.1 0)), some (.int x1), some (.int x2), some (.int x3), none] (by decide) (Nat.le_of_ble_eq_true rfl) rfl rfl (fun κ hX hκ hE => m_S_move_0 hX hE (by rw [hκ]; exact hT) σ x1 x2 x3)
/-! O_last -/
theorem d_O_last_0 : decode b_O_last 0 = .ok (.aload_n 0, 1) := by decide +kernel
theorem d_O_last_1 : decode b_O_last 1 = .ok (.getfield 15, 3) := by decide +kernel
theorem d_O_last_4 : decode b_O_last 4 = .ok (.ifCond .ne 7, 3) := by decide +kernel
theorem d_O_last_7 : decode b_O_last 7 = .ok (.iconst (-1), 1) := by decide +kernel
theorem d_O_last_8 : decode b_O_last 8 = .ok (.goto 14, 3) := by decide +kernel
theorem d_O_last_11 : decode b_O_last 11 = .ok (.aload_n 0, 1) := by decide +kernel
theorem d_O_last_12 : decode b_O_last 12 = .ok (.getfield 9, 3) := by decide +kernel
theorem d_O_last_15 : decode b_O_last 15 = .ok (.aload_n 0, 1) := by decide +kernel
theorem d_O_last_16 : decode b_O_last 16 = .ok (.getfield 15, 3) := by decide +kernel
theorem d_O_last_19 : decode b_O_last 19 = .ok (.iconst 1, 1) := by decide +kernel
theorem d_O_last_20 : decode b_O_last 20 = .ok (.isub, 1) := by decide +kernel
theorem d_O_last_21 : decode b_O_last 21 = .ok (.iaload, 1) := by decide +kernel
theorem d_O_last_22 : decode b_O_last 22 = .ok (.ireturn, 1) := by decide +kernel
abbrev r_O_last : Room := ⟨0, 0, 0, 0⟩
def f_O_last_22 (σ : Mem) (s0 : Int32) : Option (Int32 × Mem) :=
  some (s0, σ)
set_option maxRecDepth 100000 in
theorem m_O_last_22 {κ : GC} {Γ : GA} (hX : Gx κ Γ 1 b_O_last "PaneScreen$Order" r_O_last (some .int)) (σ : Mem) (s0 : Int32) : GG κ Γ 1 (gQ gqi κ Γ r_O_last) 0 0 σ [none] 22 [.int s0] (f_O_last_22 σ s0) := by
  unfold f_O_last_22
  exact g_iret hX d_O_last_22 (by decide) (by decide)
def f_O_last_0 (σ : Mem) : Option (Int32 × Mem) :=
  if (σ 3 1) = 0 then
    f_O_last_22 σ (-1)
  else
    if gin ((σ 3 1) - 1) 8 = true then
      f_O_last_22 σ (σ 4 ((σ 3 1) - 1).toNatClampNeg)
    else none
set_option maxRecDepth 100000 in
theorem m_O_last_0 {κ : GC} {Γ : GA} (hX : Gx κ Γ 1 b_O_last "PaneScreen$Order" r_O_last (some .int)) (σ : Mem) : GG κ Γ 1 (gQ gqi κ Γ r_O_last) 0 0 σ [some (.ref (Γ.2.1 3))] 0 [] (f_O_last_0 σ) := by
  unfold f_O_last_0
  refine g_aload_n hX 0 d_O_last_0 (n := 1) rfl rfl rfl ?_
  refine g_geti hX gf_O_15 d_O_last_1 (n := 4) rfl sh_3 rfl ?_
  refine g_if_ne hX 11 d_O_last_4 (n := 7) rfl rfl ?_ ?_
  · refine g_aload_n hX 0 d_O_last_11 (n := 12) rfl rfl rfl ?_
    refine g_geta hX 4 gf_O_9 d_O_last_12 (n := 15) rfl sh_3 rfl ?_
    refine g_aload_n hX 0 d_O_last_15 (n := 16) rfl rfl rfl ?_
    refine g_geti hX gf_O_15 d_O_last_16 (n := 19) rfl sh_3 rfl ?_
    refine g_iconst hX 1 d_O_last_19 (n := 20) rfl k_iconst_1 ?_
    refine g_isub hX d_O_last_20 (n := 21) rfl ?_
    refine g_iald hX d_O_last_21 (n := 22) rfl sh_4 ?_
    exact (g_sub (lw := [none]) (True.intro) (m_O_last_22 hX σ (σ 4 ((σ 3 1) - 1).toNatClampNeg)))
  · refine g_iconst hX (-1) d_O_last_7 (n := 8) rfl k_iconst_m1 ?_
    refine g_goto hX 22 d_O_last_8 rfl ?_
    exact (g_sub (lw := [none]) (True.intro) (m_O_last_22 hX σ (-1)))
def f_O_last (σ : Mem) : Option (Int32 × Mem) := f_O_last_0 σ
theorem c_O_last (l : Launch) (Γ : GA) (σ : Mem) : gM gqi l y_O_last b_O_last 1 (some .int) r_O_last [.ref (Γ.2.1 3)] Γ σ (f_O_last σ) :=
  gM.of [some (.ref (Γ.2.1 3))] (by decide) (Nat.le_of_ble_eq_true rfl) rfl rfl (fun κ hX _ => m_O_last_0 hX σ)
/-! O_addBehind -/
theorem d_O_addBehind_0 : decode b_O_addBehind 0 = .ok (.aload_n 0, 1) := by decide +kernel
theorem d_O_addBehind_1 : decode b_O_addBehind 1 = .ok (.getfield 15, 3) := by decide +kernel
theorem d_O_addBehind_4 : decode b_O_addBehind 4 = .ok (.bipush 8, 2) := by decide +kernel
theorem d_O_addBehind_6 : decode b_O_addBehind 6 = .ok (.if_icmp .lt 4, 3) := by decide +kernel
theorem d_O_addBehind_9 : decode b_O_addBehind 9 = .ok (.return_, 1) := by decide +kernel
theorem d_O_addBehind_10 : decode b_O_addBehind 10 = .ok (.aload_n 0, 1) := by decide +kernel
theorem d_O_addBehind_11 : decode b_O_addBehind 11 = .ok (.getfield 9, 3) := by decide +kernel
theorem d_O_addBehind_14 : decode b_O_addBehind 14 = .ok (.aload_n 0, 1) := by decide +kernel
theorem d_O_addBehind_15 : decode b_O_addBehind 15 = .ok (.getfield 15, 3) := by decide +kernel
theorem d_O_addBehind_18 : decode b_O_addBehind 18 = .ok (.iload_n 1, 1) := by decide +kernel
theorem d_O_addBehind_19 : decode b_O_addBehind 19 = .ok (.iastore, 1) := by decide +kernel
theorem d_O_addBehind_20 : decode b_O_addBehind 20 = .ok (.aload_n 0, 1) := by decide +kernel
theorem d_O_addBehind_21 : decode b_O_addBehind 21 = .ok (.dup, 1) := by decide +kernel
theorem d_O_addBehind_22 : decode b_O_addBehind 22 = .ok (.getfield 15, 3) := by decide +kernel
theorem d_O_addBehind_25 : decode b_O_addBehind 25 = .ok (.iconst 1, 1) := by decide +kernel
theorem d_O_addBehind_26 : decode b_O_addBehind 26 = .ok (.iadd, 1) := by decide +kernel
theorem d_O_addBehind_27 : decode b_O_addBehind 27 = .ok (.putfield 15, 3) := by decide +kernel
theorem d_O_addBehind_30 : decode b_O_addBehind 30 = .ok (.return_, 1) := by decide +kernel
abbrev r_O_addBehind : Room := ⟨0, 0, 0, 0⟩
def f_O_addBehind_0 (σ : Mem) (x1 : Int32) : Option Mem :=
  if (σ 3 1) < 8 then
    if gin (σ 3 1) 8 = true then
      gbm (m2 σ 4 (σ 3 1).toNatClampNeg x1) fun u1 =>
      gbm (m2 u1 3 1 ((u1 3 1) + 1)) fun u2 =>
      some u2
    else none
  else
    some σ
set_option maxRecDepth 100000 in
theorem m_O_addBehind_0 {κ : GC} {Γ : GA} (hX : Gx κ Γ 2 b_O_addBehind "PaneScreen$Order" r_O_addBehind none) (σ : Mem) (x1 : Int32) : GG κ Γ 2 (gQ gqv κ Γ r_O_addBehind) 0 0 σ [some (.ref (Γ.2.1 3)), some (.int x1)] 0 [] (f_O_addBehind_0 σ x1) := by
  unfold f_O_addBehind_0
  refine g_aload_n hX 0 d_O_addBehind_0 (n := 1) rfl rfl rfl ?_
  refine g_geti hX gf_O_15 d_O_addBehind_1 (n := 4) rfl sh_3 rfl ?_
  refine g_bipush hX 8 d_O_addBehind_4 (n := 6) rfl k_bipush_8 ?_
  refine g_icmp_lt hX 10 d_O_addBehind_6 (n := 9) rfl rfl ?_ ?_
  · refine g_aload_n hX 0 d_O_addBehind_10 (n := 11) rfl rfl rfl ?_
    refine g_geta hX 4 gf_O_9 d_O_addBehind_11 (n := 14) rfl sh_3 rfl ?_
    refine g_aload_n hX 0 d_O_addBehind_14 (n := 15) rfl rfl rfl ?_
    refine g_geti hX gf_O_15 d_O_addBehind_15 (n := 18) rfl sh_3 rfl ?_
    refine g_iload_n hX 1 d_O_addBehind_18 (n := 19) rfl rfl rfl ?_
    refine g_iast hX d_O_addBehind_19 (n := 20) rfl sh_4 ?_
    refine g_mem (fun u1 => ?_)
    refine g_aload_n hX 0 d_O_addBehind_20 (n := 21) rfl rfl rfl ?_
    refine g_dup hX d_O_addBehind_21 (n := 22) rfl rfl ?_
    refine g_geti hX gf_O_15 d_O_addBehind_22 (n := 25) rfl sh_3 rfl ?_
    refine g_iconst hX 1 d_O_addBehind_25 (n := 26) rfl k_iconst_1 ?_
    refine g_iadd hX d_O_addBehind_26 (n := 27) rfl ?_
    refine g_puti hX gp_O_15 d_O_addBehind_27 (n := 30) rfl sh_3 rfl ?_
    refine g_mem (fun u2 => ?_)
    exact g_vret hX d_O_addBehind_30 (by decide) (by decide)
  · exact g_vret hX d_O_addBehind_9 (by decide) (by decide)
def f_O_addBehind (x1 : Int32) (σ : Mem) : Option Mem := f_O_addBehind_0 σ x1
theorem c_O_addBehind (l : Launch) (Γ : GA) (x1 : Int32) (σ : Mem) : gM gqv l y_O_addBehind b_O_addBehind 2 none r_O_addBehind [.ref (Γ.2.1 3), .int x1] Γ σ (f_O_addBehind x1 σ) :=
  gM.of [some (.ref (Γ.2.1 3)), some (.int x1)] (by decide) (Nat.le_of_ble_eq_true rfl) rfl rfl (fun κ hX _ => m_O_addBehind_0 hX σ x1)
/-! S_reorder -/
theorem d_S_reorder_0 : decode b_S_reorder 0 = .ok (.iload_n 1, 1) := by decide +kernel
theorem d_S_reorder_1 : decode b_S_reorder 1 = .ok (.iload_n 3, 1) := by decide +kernel
theorem d_S_reorder_2 : decode b_S_reorder 2 = .ok (.ifCond .eq 13, 3) := by decide +kernel
theorem d_S_reorder_5 : decode b_S_reorder 5 = .ok (.aload_n 0, 1) := by decide +kernel
theorem d_S_reorder_6 : decode b_S_reorder 6 = .ok (.getfield 23, 3) := by decide +kernel
theorem d_S_reorder_9 : decode b_S_reorder 9 = .ok (.invokevirtual 116, 3) := by decide +kernel
theorem d_S_reorder_12 : decode b_S_reorder 12 = .ok (.goto 10, 3) := by decide +kernel
theorem d_S_reorder_15 : decode b_S_reorder 15 = .ok (.aload_n 0, 1) := by decide +kernel
theorem d_S_reorder_16 : decode b_S_reorder 16 = .ok (.getfield 23, 3) := by decide +kernel
theorem d_S_reorder_19 : decode b_S_reorder 19 = .ok (.invokevirtual 244, 3) := by decide +kernel
theorem d_S_reorder_22 : decode b_S_reorder 22 = .ok (.if_icmp .eq 7, 3) := by decide +kernel
theorem d_S_reorder_25 : decode b_S_reorder 25 = .ok (.iconst 1, 1) := by decide +kernel
theorem d_S_reorder_26 : decode b_S_reorder 26 = .ok (.goto 4, 3) := by decide +kernel
theorem d_S_reorder_29 : decode b_S_reorder 29 = .ok (.iconst 0, 1) := by decide +kernel
theorem d_S_reorder_30 : decode b_S_reorder 30 = .ok (.istore 4, 2) := by decide +kernel
theorem d_S_reorder_32 : decode b_S_reorder 32 = .ok (.iload 4, 2) := by decide +kernel
theorem d_S_reorder_34 : decode b_S_reorder 34 = .ok (.ifCond .eq 39, 3) := by decide +kernel
theorem d_S_reorder_37 : decode b_S_reorder 37 = .ok (.aload_n 0, 1) := by decide +kernel
theorem d_S_reorder_38 : decode b_S_reorder 38 = .ok (.getfield 23, 3) := by decide +kernel
theorem d_S_reorder_41 : decode b_S_reorder 41 = .ok (.iload_n 1, 1) := by decide +kernel
theorem d_S_reorder_42 : decode b_S_reorder 42 = .ok (.invokevirtual 110, 3) := by decide +kernel
theorem d_S_reorder_45 : decode b_S_reorder 45 = .ok (.iload_n 3, 1) := by decide +kernel
theorem d_S_reorder_46 : decode b_S_reorder 46 = .ok (.ifCond .eq 14, 3) := by decide +kernel
theorem d_S_reorder_49 : decode b_S_reorder 49 = .ok (.aload_n 0, 1) := by decide +kernel
theorem d_S_reorder_50 : decode b_S_reorder 50 = .ok (.getfield 23, 3) := by decide +kernel
theorem d_S_reorder_53 : decode b_S_reorder 53 = .ok (.iload_n 1, 1) := by decide +kernel
theorem d_S_reorder_54 : decode b_S_reorder 54 = .ok (.invokevirtual 83, 3) := by decide +kernel
theorem d_S_reorder_57 : decode b_S_reorder 57 = .ok (.goto 11, 3) := by decide +kernel
theorem d_S_reorder_60 : decode b_S_reorder 60 = .ok (.aload_n 0, 1) := by decide +kernel
theorem d_S_reorder_61 : decode b_S_reorder 61 = .ok (.getfield 23, 3) := by decide +kernel
theorem d_S_reorder_64 : decode b_S_reorder 64 = .ok (.iload_n 1, 1) := by decide +kernel
theorem d_S_reorder_65 : decode b_S_reorder 65 = .ok (.invokevirtual 247, 3) := by decide +kernel
theorem d_S_reorder_68 : decode b_S_reorder 68 = .ok (.aload_n 0, 1) := by decide +kernel
theorem d_S_reorder_69 : decode b_S_reorder 69 = .ok (.aload_n 2, 1) := by decide +kernel
theorem d_S_reorder_70 : decode b_S_reorder 70 = .ok (.invokevirtual 87, 3) := by decide +kernel
theorem d_S_reorder_73 : decode b_S_reorder 73 = .ok (.iload 4, 2) := by decide +kernel
theorem d_S_reorder_75 : decode b_S_reorder 75 = .ok (.ireturn, 1) := by decide +kernel
abbrev r_S_reorder : Room := ⟨5, 0, 0, 128⟩
def f_S_reorder_73 (σ : Mem) (x4 : Int32) : Option (Int32 × Mem) :=
  if x4 &&& 1 = x4 then some (x4, σ) else none
set_option maxRecDepth 100000 in
theorem m_S_reorder_73 {κ : GC} {Γ : GA} (hX : Gx κ Γ 5 b_S_reorder "PaneScreen" r_S_reorder (some .boolean)) (σ : Mem) (x4 : Int32) : GG κ Γ 5 (gQ gqi κ Γ r_S_reorder) 0 0 σ [none, none, none, none, some (.int x4)] 73 [] (f_S_reorder_73 σ x4) := by
  unfold f_S_reorder_73
  refine g_iload hX d_S_reorder_73 (n := 75) rfl rfl ?_
  exact g_iretZ hX d_S_reorder_75 (by decide) (by decide)
def f_S_reorder_68 (σ : Mem) (q2 : Nat) (x4 : Int32) : Option (Int32 × Mem) :=
  gbv (f_S_damageFrame q2 σ) fun u1 =>
  f_S_reorder_73 u1 x4
set_option maxRecDepth 100000 in
theorem m_S_reorder_68 {κ : GC} {Γ : GA} (hX : Gx κ Γ 5 b_S_reorder "PaneScreen" r_S_reorder (some .boolean)) (σ : Mem) (q2 : Nat) (x4 : Int32) (hq2 : gPn q2) : GG κ Γ 5 (gQ gqi κ Γ r_S_reorder) 0 0 σ [some (.ref (Γ.2.1 0)), none, some (.ref (Γ.2.1 q2)), none, some (.int x4)] 68 [] (f_S_reorder_68 σ q2 x4) := by
  unfold f_S_reorder_68
  refine g_aload_n hX 0 d_S_reorder_68 (n := 69) rfl rfl rfl ?_
  refine g_aload_n hX 2 d_S_reorder_69 (n := 70) rfl rfl rfl ?_
  refine g_cVv hX [_] rfl 0 0 (c_S_damageFrame _ Γ q2 hq2 σ) gw_S_87 rfl sh_0 rfl d_S_reorder_70 (n := 73) rfl ⟨by decide, by decide⟩ ⟨by decide, by decide⟩ (Nat.le_of_ble_eq_true rfl) rfl rfl (fun u1 => ?_)
  exact (g_sub (lw := [none, none, none, none, some (.int x4)]) (And.intro rfl (True.intro)) (m_S_reorder_73 hX u1 x4))
def f_S_reorder_30 (σ : Mem) (x1 : Int32) (q2 : Nat) (x3 : Int32) (s0 : Int32) : Option (Int32 × Mem) :=
  if s0 = 0 then
    f_S_reorder_73 σ s0
  else
    gbv (f_O_remove x1 σ) fun u1 =>
    if x3 = 0 then
      gbv (f_O_addBehind x1 u1) fun u2 =>
      f_S_reorder_68 u2 q2 s0
    else
      gbv (f_O_addInFront x1 u1) fun u3 =>
      f_S_reorder_68 u3 q2 s0
set_option maxRecDepth 100000 in
theorem m_S_reorder_30 {κ : GC} {Γ : GA} (hX : Gx κ Γ 5 b_S_reorder "PaneScreen" r_S_reorder (some .boolean)) (σ : Mem) (x1 : Int32) (q2 : Nat) (x3 : Int32) (s0 : Int32) (hq2 : gPn q2) : GG κ Γ 5 (gQ gqi κ Γ r_S_reorder) 0 0 σ [some (.ref (Γ.2.1 0)), some (.int x1), some (.ref (Γ.2.1 q2)), some (.int x3), none] 30 [.int s0] (f_S_reorder_30 σ x1 q2 x3 s0) := by
  unfold f_S_reorder_30
  refine g_istore hX [_, _, _, _, _] d_S_reorder_30 (n := 32) rfl (by decide) rfl ?_
  refine g_iload hX d_S_reorder_32 (n := 34) rfl rfl ?_
  refine g_if_eq hX 73 d_S_reorder_34 (n := 37) rfl rfl ?_ ?_
  · exact (g_sub (lw := [none, none, none, none, some (.int s0)]) (And.intro rfl (True.intro)) (m_S_reorder_73 hX σ s0))
  · refine g_aload_n hX 0 d_S_reorder_37 (n := 38) rfl rfl rfl ?_
    refine g_geta hX 3 gf_S_23 d_S_reorder_38 (n := 41) rfl sh_0 rfl ?_
    refine g_iload_n hX 1 d_S_reorder_41 (n := 42) rfl rfl rfl ?_
    refine g_cVv hX [_] rfl 0 0 (c_O_remove _ Γ x1 σ) gw_S_110 rfl sh_3 rfl d_S_reorder_42 (n := 45) rfl ⟨by decide, by decide⟩ ⟨by decide, by decide⟩ (Nat.le_of_ble_eq_true rfl) rfl rfl (fun u1 => ?_)
    refine g_iload_n hX 3 d_S_reorder_45 (n := 46) rfl rfl rfl ?_
    refine g_if_eq hX 60 d_S_reorder_46 (n := 49) rfl rfl ?_ ?_
    · refine g_aload_n hX 0 d_S_reorder_60 (n := 61) rfl rfl rfl ?_
      refine g_geta hX 3 gf_S_23 d_S_reorder_61 (n := 64) rfl sh_0 rfl ?_
      refine g_iload_n hX 1 d_S_reorder_64 (n := 65) rfl rfl rfl ?_
      refine g_cVv hX [_] rfl 0 0 (c_O_addBehind _ Γ x1 u1) gw_S_247 rfl sh_3 rfl d_S_reorder_65 (n := 68) rfl ⟨by decide, by decide⟩ ⟨by decide, by decide⟩ (Nat.le_of_ble_eq_true rfl) rfl rfl (fun u2 => ?_)
      exact (g_sub (lw := [some (.ref (Γ.2.1 0)), none, some (.ref (Γ.2.1 q2)), none, some (.int s0)]) (And.intro rfl (And.intro rfl (And.intro rfl (True.intro)))) (m_S_reorder_68 hX u2 q2 s0 hq2))
    · refine g_aload_n hX 0 d_S_reorder_49 (n := 50) rfl rfl rfl ?_
      refine g_geta hX 3 gf_S_23 d_S_reorder_50 (n := 53) rfl sh_0 rfl ?_
      refine g_iload_n hX 1 d_S_reorder_53 (n := 54) rfl rfl rfl ?_
      refine g_cVv hX [_] rfl 0 0 (c_O_addInFront _ Γ x1 u1) gw_S_83 rfl sh_3 rfl d_S_reorder_54 (n := 57) rfl ⟨by decide, by decide⟩ ⟨by decide, by decide⟩ (Nat.le_of_ble_eq_true rfl) rfl rfl (fun u3 => ?_)
      refine g_goto hX 68 d_S_reorder_57 rfl ?_
      exact (g_sub (lw := [some (.ref (Γ.2.1 0)), none, some (.ref (Γ.2.1 q2)), none, some (.int s0)]) (And.intro rfl (And.intro rfl (And.intro rfl (True.intro)))) (m_S_reorder_68 hX u3 q2 s0 hq2))
def f_S_reorder_22 (σ : Mem) (x1 : Int32) (q2 : Nat) (x3 : Int32) (s0 : Int32) (s1 : Int32) : Option (Int32 × Mem) :=
  if s1 = s0 then
    f_S_reorder_30 σ x1 q2 x3 0
  else
    f_S_reorder_30 σ x1 q2 x3 1
set_option maxRecDepth 100000 in
theorem m_S_reorder_22 {κ : GC} {Γ : GA} (hX : Gx κ Γ 5 b_S_reorder "PaneScreen" r_S_reorder (some .boolean)) (σ : Mem) (x1 : Int32) (q2 : Nat) (x3 : Int32) (s0 : Int32) (s1 : Int32) (hq2 : gPn q2) : GG κ Γ 5 (gQ gqi κ Γ r_S_reorder) 0 0 σ [some (.ref (Γ.2.1 0)), some (.int x1), some (.ref (Γ.2.1 q2)), some (.int x3), none] 22 [.int s0, .int s1] (f_S_reorder_22 σ x1 q2 x3 s0 s1) := by
  unfold f_S_reorder_22
  refine g_icmp_eq hX 29 d_S_reorder_22 (n := 25) rfl rfl ?_ ?_
  · refine g_iconst hX 0 d_S_reorder_29 (n := 30) rfl k_iconst_0 ?_
    exact (m_S_reorder_30 hX σ x1 q2 x3 0 hq2)
  · refine g_iconst hX 1 d_S_reorder_25 (n := 26) rfl k_iconst_1 ?_
    refine g_goto hX 30 d_S_reorder_26 rfl ?_
    exact (m_S_reorder_30 hX σ x1 q2 x3 1 hq2)
def f_S_reorder_0 (σ : Mem) (x1 : Int32) (q2 : Nat) (x3 : Int32) : Option (Int32 × Mem) :=
  if x3 = 0 then
    gb (f_O_last σ) fun r2 u1 =>
    f_S_reorder_22 u1 x1 q2 x3 r2 x1
  else
    gb (f_O_first σ) fun r4 u3 =>
    f_S_reorder_22 u3 x1 q2 x3 r4 x1
set_option maxRecDepth 100000 in
theorem m_S_reorder_0 {κ : GC} {Γ : GA} (hX : Gx κ Γ 5 b_S_reorder "PaneScreen" r_S_reorder (some .boolean)) (σ : Mem) (x1 : Int32) (q2 : Nat) (x3 : Int32) (hq2 : gPn q2) : GG κ Γ 5 (gQ gqi κ Γ r_S_reorder) 0 0 σ [some (.ref (Γ.2.1 0)), some (.int x1), some (.ref (Γ.2.1 q2)), some (.int x3), none] 0 [] (f_S_reorder_0 σ x1 q2 x3) := by
  unfold f_S_reorder_0
  refine g_iload_n hX 1 d_S_reorder_0 (n := 1) rfl rfl rfl ?_
  refine g_iload_n hX 3 d_S_reorder_1 (n := 2) rfl rfl rfl ?_
  refine g_if_eq hX 15 d_S_reorder_2 (n := 5) rfl rfl ?_ ?_
  · refine g_aload_n hX 0 d_S_reorder_15 (n := 16) rfl rfl rfl ?_
    refine g_geta hX 3 gf_S_23 d_S_reorder_16 (n := 19) rfl sh_0 rfl ?_
    refine g_cVi hX [] rfl 0 0 (c_O_last _ Γ σ) gw_S_244 rfl sh_3 rfl d_S_reorder_19 (n := 22) rfl ⟨by decide, by decide⟩ ⟨by decide, by decide⟩ (Nat.le_of_ble_eq_true rfl) rfl rfl (fun r2 u1 => ?_)
    exact (m_S_reorder_22 hX u1 x1 q2 x3 r2 x1 hq2)
  · refine g_aload_n hX 0 d_S_reorder_5 (n := 6) rfl rfl rfl ?_
    refine g_geta hX 3 gf_S_23 d_S_reorder_6 (n := 9) rfl sh_0 rfl ?_
    refine g_cVi hX [] rfl 0 0 (c_O_first _ Γ σ) gw_S_116 rfl sh_3 rfl d_S_reorder_9 (n := 12) rfl ⟨by decide, by decide⟩ ⟨by decide, by decide⟩ (Nat.le_of_ble_eq_true rfl) rfl rfl (fun r4 u3 => ?_)
    refine g_goto hX 22 d_S_reorder_12 rfl ?_
    exact (m_S_reorder_22 hX u3 x1 q2 x3 r4 x1 hq2)
def f_S_reorder (x1 : Int32) (q2 : Nat) (x3 : Int32) (σ : Mem) : Option (Int32 × Mem) := f_S_reorder_0 σ x1 q2 x3
theorem c_S_reorder (l : Launch) (Γ : GA) (x1 : Int32) (q2 : Nat) (x3 : Int32) (hq2 : gPn q2) (σ : Mem) : gM gqi l y_S_reorder b_S_reorder 5 (some .boolean) r_S_reorder [.ref (Γ.2.1 0), .int x1, .ref (Γ.2.1 q2), .int x3] Γ σ (f_S_reorder x1 q2 x3 σ) :=
  gM.of [some (.ref (Γ.2.1 0)), some (.int x1), some (.ref (Γ.2.1 q2)), some (.int x3), none] (by decide) (Nat.le_of_ble_eq_true rfl) rfl rfl (fun κ hX _ => m_S_reorder_0 hX σ x1 q2 x3 hq2)
/-! S_raise -/
theorem d_S_raise_0 : decode b_S_raise 0 = .ok (.aload_n 0, 1) := by decide +kernel
theorem d_S_raise_1 : decode b_S_raise 1 = .ok (.iload_n 1, 1) := by decide +kernel
theorem d_S_raise_2 : decode b_S_raise 2 = .ok (.invokevirtual 91, 3) := by decide +kernel
theorem d_S_raise_5 : decode b_S_raise 5 = .ok (.astore_n 3, 1) := by decide +kernel
theorem d_S_raise_6 : decode b_S_raise 6 = .ok (.aload_n 0, 1) := by decide +kernel
theorem d_S_raise_7 : decode b_S_raise 7 = .ok (.iload_n 1, 1) := by decide +kernel
theorem d_S_raise_8 : decode b_S_raise 8 = .ok (.aload_n 3, 1) := by decide +kernel
theorem d_S_raise_9 : decode b_S_raise 9 = .ok (.iload_n 2, 1) := by decide +kernel
theorem d_S_raise_10 : decode b_S_raise 10 = .ok (.invokevirtual 119, 3) := by decide +kernel
theorem d_S_raise_13 : decode b_S_raise 13 = .ok (.ireturn, 1) := by decide +kernel
abbrev r_S_raise : Room := ⟨7, 1, 6, 152⟩
def f_S_raise_0 (σ : Mem) (x1 : Int32) (x2 : Int32) : Option ((Int32 ⊕ String) × Mem) :=
  gbx (f_S_openPane x1 σ) (fun p2 u1 =>
    if gpn p2 = true then
      gb (f_S_reorder x1 p2 x2 u1) fun r4 u3 =>
      if r4 &&& 1 = r4 then some (.inl r4, u3) else none
    else none) (fun E u => some (.inr E, u))
set_option maxRecDepth 100000 in
theorem m_S_raise_0 {κ : GC} {Γ : GA} (hX : Gx κ Γ 4 b_S_raise "PaneScreen" r_S_raise (some .boolean)) (hE : ∀ x ∈ κ.2.2.2.2.2.2.2.2.2.exceptionTable.toList, False) (hT : κ.2.1.stackTraces = false) (σ : Mem) (x1 : Int32) (x2 : Int32) : GG κ Γ 4 (gQX gxi κ Γ r_S_raise) 0 0 σ [some (.ref (Γ.2.1 0)), some (.int x1), some (.int x2), none] 0 [] (f_S_raise_0 σ x1 x2) := by
  unfold f_S_raise_0
  refine g_aload_n hX 0 d_S_raise_0 (n := 1) rfl rfl rfl ?_
  refine g_iload_n hX 1 d_S_raise_1 (n := 2) rfl rfl rfl ?_
  refine g_xVr hX hE [_] rfl 1 6 (c_S_openPane _ hT Γ x1 σ) gw_S_91 rfl sh_0 rfl d_S_raise_2 (n := 5) rfl ⟨by decide, by decide⟩ ⟨by decide, by decide⟩ (Nat.le_of_ble_eq_true rfl) rfl rfl (fun p2 u1 => ?_)
  refine g_pane (fun hp2 => ?_)
  refine g_astore_n hX 3 [_, _, _, _] d_S_raise_5 (n := 6) rfl rfl (by decide) rfl ?_
  refine g_aload_n hX 0 d_S_raise_6 (n := 7) rfl rfl rfl ?_
  refine g_iload_n hX 1 d_S_raise_7 (n := 8) rfl rfl rfl ?_
  refine g_aload_n hX 3 d_S_raise_8 (n := 9) rfl rfl rfl ?_
  refine g_iload_n hX 2 d_S_raise_9 (n := 10) rfl rfl rfl ?_
  refine g_cVi hX [_, _, _] rfl 1 6 (c_S_reorder _ Γ x1 p2 x2 hp2 u1) gw_S_119 rfl sh_0 rfl d_S_raise_10 (n := 13) rfl ⟨by decide, by decide⟩ ⟨by decide, by decide⟩ (Nat.le_of_ble_eq_true rfl) rfl rfl (fun r4 u3 => ?_)
  exact g_ixretZ hX d_S_raise_13 (by decide) (by decide)
def f_S_raise (x1 : Int32) (x2 : Int32) (σ : Mem) : Option ((Int32 ⊕ String) × Mem) := f_S_raise_0 σ x1 x2
theorem c_S_raise (l : Launch) (hT : l.stackTraces = false) (Γ : GA) (x1 : Int32) (x2 : Int32) (σ : Mem) : gX gxi l y_S_raise b_S_raise 4 (some .boolean) r_S_raise [.ref (Γ.2.1 0), .int x1, .int x2] Γ σ (f_S_raise x1 x2 σ) :=
  gX.of [some (.ref (Γ.2.1 0)), some (.int x1), some (.int x2), none] (by decide) (Nat.le_of_ble_eq_true rfl) rfl rfl (fun κ hX hκ hE => m_S_raise_0 hX hE (by rw [hκ]; exact hT) σ x1 x2)
