/-! S_giveFocus -/
theorem d_S_giveFocus_0 : decode b_S_giveFocus 0 = .ok (.iload_n 1, 1) := by decide +kernel
theorem d_S_giveFocus_1 : decode b_S_giveFocus 1 = .ok (.aload_n 0, 1) := by decide +kernel
theorem d_S_giveFocus_2 : decode b_S_giveFocus 2 = .ok (.getfield 48, 3) := by decide +kernel
theorem d_S_giveFocus_5 : decode b_S_giveFocus 5 = .ok (.if_icmp .ne 4, 3) := by decide +kernel
theorem d_S_giveFocus_8 : decode b_S_giveFocus 8 = .ok (.return_, 1) := by decide +kernel
theorem d_S_giveFocus_9 : decode b_S_giveFocus 9 = .ok (.aload_n 0, 1) := by decide +kernel
theorem d_S_giveFocus_10 : decode b_S_giveFocus 10 = .ok (.getfield 48, 3) := by decide +kernel
theorem d_S_giveFocus_13 : decode b_S_giveFocus 13 = .ok (.iconst (-1), 1) := by decide +kernel
theorem d_S_giveFocus_14 : decode b_S_giveFocus 14 = .ok (.if_icmp .eq 17, 3) := by decide +kernel
theorem d_S_giveFocus_17 : decode b_S_giveFocus 17 = .ok (.aload_n 0, 1) := by decide +kernel
theorem d_S_giveFocus_18 : decode b_S_giveFocus 18 = .ok (.getfield 44, 3) := by decide +kernel
theorem d_S_giveFocus_21 : decode b_S_giveFocus 21 = .ok (.iconst 4, 1) := by decide +kernel
theorem d_S_giveFocus_22 : decode b_S_giveFocus 22 = .ok (.aload_n 0, 1) := by decide +kernel
theorem d_S_giveFocus_23 : decode b_S_giveFocus 23 = .ok (.getfield 48, 3) := by decide +kernel
theorem d_S_giveFocus_26 : decode b_S_giveFocus 26 = .ok (.iconst 0, 1) := by decide +kernel
theorem d_S_giveFocus_27 : decode b_S_giveFocus 27 = .ok (.iconst 0, 1) := by decide +kernel
theorem d_S_giveFocus_28 : decode b_S_giveFocus 28 = .ok (.invokevirtual 192, 3) := by decide +kernel
theorem d_S_giveFocus_31 : decode b_S_giveFocus 31 = .ok (.aload_n 0, 1) := by decide +kernel
theorem d_S_giveFocus_32 : decode b_S_giveFocus 32 = .ok (.iload_n 1, 1) := by decide +kernel
theorem d_S_giveFocus_33 : decode b_S_giveFocus 33 = .ok (.putfield 48, 3) := by decide +kernel
theorem d_S_giveFocus_36 : decode b_S_giveFocus 36 = .ok (.aload_n 0, 1) := by decide +kernel
theorem d_S_giveFocus_37 : decode b_S_giveFocus 37 = .ok (.getfield 48, 3) := by decide +kernel
theorem d_S_giveFocus_40 : decode b_S_giveFocus 40 = .ok (.iconst (-1), 1) := by decide +kernel
theorem d_S_giveFocus_41 : decode b_S_giveFocus 41 = .ok (.if_icmp .eq 17, 3) := by decide +kernel
theorem d_S_giveFocus_44 : decode b_S_giveFocus 44 = .ok (.aload_n 0, 1) := by decide +kernel
theorem d_S_giveFocus_45 : decode b_S_giveFocus 45 = .ok (.getfield 44, 3) := by decide +kernel
theorem d_S_giveFocus_48 : decode b_S_giveFocus 48 = .ok (.iconst 3, 1) := by decide +kernel
theorem d_S_giveFocus_49 : decode b_S_giveFocus 49 = .ok (.aload_n 0, 1) := by decide +kernel
theorem d_S_giveFocus_50 : decode b_S_giveFocus 50 = .ok (.getfield 48, 3) := by decide +kernel
theorem d_S_giveFocus_53 : decode b_S_giveFocus 53 = .ok (.iconst 0, 1) := by decide +kernel
theorem d_S_giveFocus_54 : decode b_S_giveFocus 54 = .ok (.iconst 0, 1) := by decide +kernel
theorem d_S_giveFocus_55 : decode b_S_giveFocus 55 = .ok (.invokevirtual 192, 3) := by decide +kernel
theorem d_S_giveFocus_58 : decode b_S_giveFocus 58 = .ok (.return_, 1) := by decide +kernel
abbrev r_S_giveFocus : Room := ⟨1, 0, 0, 24⟩
def f_S_giveFocus_58 (σ : Mem) : Option Mem :=
  some σ
set_option maxRecDepth 100000 in
theorem m_S_giveFocus_58 {κ : GC} {Γ : GA} (hX : Gx κ Γ 2 b_S_giveFocus "PaneScreen" r_S_giveFocus none) (σ : Mem) : GG κ Γ 2 (gQ gqv κ Γ r_S_giveFocus) 0 0 σ [none, none] 58 [] (f_S_giveFocus_58 σ) := by
  unfold f_S_giveFocus_58
  exact g_vret hX d_S_giveFocus_58 (by decide) (by decide)
def f_S_giveFocus_31 (σ : Mem) (x1 : Int32) : Option Mem :=
  gbm (m2 σ 0 6 x1) fun u1 =>
  if (u1 0 6) = (-1) then
    f_S_giveFocus_58 u1
  else
    gbv (f_E_tell 3 (u1 0 6) 0 0 u1) fun u2 =>
    f_S_giveFocus_58 u2
set_option maxRecDepth 100000 in
theorem m_S_giveFocus_31 {κ : GC} {Γ : GA} (hX : Gx κ Γ 2 b_S_giveFocus "PaneScreen" r_S_giveFocus none) (σ : Mem) (x1 : Int32) : GG κ Γ 2 (gQ gqv κ Γ r_S_giveFocus) 0 0 σ [some (.ref (Γ.2.1 0)), some (.int x1)] 31 [] (f_S_giveFocus_31 σ x1) := by
  unfold f_S_giveFocus_31
  refine g_aload_n hX 0 d_S_giveFocus_31 (n := 32) rfl rfl rfl ?_
  refine g_iload_n hX 1 d_S_giveFocus_32 (n := 33) rfl rfl rfl ?_
  refine g_puti hX gp_S_48 d_S_giveFocus_33 (n := 36) rfl sh_0 rfl ?_
  refine g_mem (fun u1 => ?_)
  refine g_aload_n hX 0 d_S_giveFocus_36 (n := 37) rfl rfl rfl ?_
  refine g_geti hX gf_S_48 d_S_giveFocus_37 (n := 40) rfl sh_0 rfl ?_
  refine g_iconst hX (-1) d_S_giveFocus_40 (n := 41) rfl k_iconst_m1 ?_
  refine g_icmp_eq hX 58 d_S_giveFocus_41 (n := 44) rfl rfl ?_ ?_
  · exact (g_sub (lw := [none, none]) (True.intro) (m_S_giveFocus_58 hX u1))
  · refine g_aload_n hX 0 d_S_giveFocus_44 (n := 45) rfl rfl rfl ?_
    refine g_geta hX 14 gf_S_44 d_S_giveFocus_45 (n := 48) rfl sh_0 rfl ?_
    refine g_iconst hX 3 d_S_giveFocus_48 (n := 49) rfl k_iconst_3 ?_
    refine g_aload_n hX 0 d_S_giveFocus_49 (n := 50) rfl rfl rfl ?_
    refine g_geti hX gf_S_48 d_S_giveFocus_50 (n := 53) rfl sh_0 rfl ?_
    refine g_iconst hX 0 d_S_giveFocus_53 (n := 54) rfl k_iconst_0 ?_
    refine g_iconst hX 0 d_S_giveFocus_54 (n := 55) rfl k_iconst_0 ?_
    refine g_cVv hX [_, _, _, _] rfl 0 0 (c_E_tell _ Γ 3 (u1 0 6) 0 0 u1) gw_S_192 rfl sh_14 rfl d_S_giveFocus_55 (n := 58) rfl ⟨by decide, by decide⟩ ⟨by decide, by decide⟩ (Nat.le_of_ble_eq_true rfl) rfl rfl (fun u2 => ?_)
    exact (g_sub (lw := [none, none]) (True.intro) (m_S_giveFocus_58 hX u2))
def f_S_giveFocus_0 (σ : Mem) (x1 : Int32) : Option Mem :=
  if x1 = (σ 0 6) then
    some σ
  else
    if (σ 0 6) = (-1) then
      f_S_giveFocus_31 σ x1
    else
      gbv (f_E_tell 4 (σ 0 6) 0 0 σ) fun u1 =>
      f_S_giveFocus_31 u1 x1
set_option maxRecDepth 100000 in
theorem m_S_giveFocus_0 {κ : GC} {Γ : GA} (hX : Gx κ Γ 2 b_S_giveFocus "PaneScreen" r_S_giveFocus none) (σ : Mem) (x1 : Int32) : GG κ Γ 2 (gQ gqv κ Γ r_S_giveFocus) 0 0 σ [some (.ref (Γ.2.1 0)), some (.int x1)] 0 [] (f_S_giveFocus_0 σ x1) := by
  unfold f_S_giveFocus_0
  refine g_iload_n hX 1 d_S_giveFocus_0 (n := 1) rfl rfl rfl ?_
  refine g_aload_n hX 0 d_S_giveFocus_1 (n := 2) rfl rfl rfl ?_
  refine g_geti hX gf_S_48 d_S_giveFocus_2 (n := 5) rfl sh_0 rfl ?_
  refine g_icmp_ne hX 9 d_S_giveFocus_5 (n := 8) rfl rfl ?_ ?_
  · refine g_aload_n hX 0 d_S_giveFocus_9 (n := 10) rfl rfl rfl ?_
    refine g_geti hX gf_S_48 d_S_giveFocus_10 (n := 13) rfl sh_0 rfl ?_
    refine g_iconst hX (-1) d_S_giveFocus_13 (n := 14) rfl k_iconst_m1 ?_
    refine g_icmp_eq hX 31 d_S_giveFocus_14 (n := 17) rfl rfl ?_ ?_
    · exact (m_S_giveFocus_31 hX σ x1)
    · refine g_aload_n hX 0 d_S_giveFocus_17 (n := 18) rfl rfl rfl ?_
      refine g_geta hX 14 gf_S_44 d_S_giveFocus_18 (n := 21) rfl sh_0 rfl ?_
      refine g_iconst hX 4 d_S_giveFocus_21 (n := 22) rfl k_iconst_4 ?_
      refine g_aload_n hX 0 d_S_giveFocus_22 (n := 23) rfl rfl rfl ?_
      refine g_geti hX gf_S_48 d_S_giveFocus_23 (n := 26) rfl sh_0 rfl ?_
      refine g_iconst hX 0 d_S_giveFocus_26 (n := 27) rfl k_iconst_0 ?_
      refine g_iconst hX 0 d_S_giveFocus_27 (n := 28) rfl k_iconst_0 ?_
      refine g_cVv hX [_, _, _, _] rfl 0 0 (c_E_tell _ Γ 4 (σ 0 6) 0 0 σ) gw_S_192 rfl sh_14 rfl d_S_giveFocus_28 (n := 31) rfl ⟨by decide, by decide⟩ ⟨by decide, by decide⟩ (Nat.le_of_ble_eq_true rfl) rfl rfl (fun u1 => ?_)
      exact (m_S_giveFocus_31 hX u1 x1)
  · exact g_vret hX d_S_giveFocus_8 (by decide) (by decide)
def f_S_giveFocus (x1 : Int32) (σ : Mem) : Option Mem := f_S_giveFocus_0 σ x1
theorem c_S_giveFocus (l : Launch) (Γ : GA) (x1 : Int32) (σ : Mem) : gM gqv l y_S_giveFocus b_S_giveFocus 2 none r_S_giveFocus [.ref (Γ.2.1 0), .int x1] Γ σ (f_S_giveFocus x1 σ) :=
  gM.of [some (.ref (Γ.2.1 0)), some (.int x1)] (by decide) (Nat.le_of_ble_eq_true rfl) rfl rfl (fun κ hX _ => m_S_giveFocus_0 hX σ x1)
/-! S_click -/
theorem d_S_click_0 : decode b_S_click 0 = .ok (.iload_n 1, 1) := by decide +kernel
theorem d_S_click_1 : decode b_S_click 1 = .ok (.iload_n 2, 1) := by decide +kernel
theorem d_S_click_2 : decode b_S_click 2 = .ok (.invokestatic 174, 3) := by decide +kernel
theorem d_S_click_5 : decode b_S_click 5 = .ok (.aload_n 0, 1) := by decide +kernel
theorem d_S_click_6 : decode b_S_click 6 = .ok (.iload_n 1, 1) := by decide +kernel
theorem d_S_click_7 : decode b_S_click 7 = .ok (.iload_n 2, 1) := by decide +kernel
theorem d_S_click_8 : decode b_S_click 8 = .ok (.invokevirtual 180, 3) := by decide +kernel
theorem d_S_click_11 : decode b_S_click 11 = .ok (.istore_n 3, 1) := by decide +kernel
theorem d_S_click_12 : decode b_S_click 12 = .ok (.aload_n 0, 1) := by decide +kernel
theorem d_S_click_13 : decode b_S_click 13 = .ok (.iload_n 3, 1) := by decide +kernel
theorem d_S_click_14 : decode b_S_click 14 = .ok (.invokevirtual 183, 3) := by decide +kernel
theorem d_S_click_17 : decode b_S_click 17 = .ok (.iload_n 3, 1) := by decide +kernel
theorem d_S_click_18 : decode b_S_click 18 = .ok (.iconst (-1), 1) := by decide +kernel
theorem d_S_click_19 : decode b_S_click 19 = .ok (.if_icmp .eq 43, 3) := by decide +kernel
theorem d_S_click_22 : decode b_S_click 22 = .ok (.aload_n 0, 1) := by decide +kernel
theorem d_S_click_23 : decode b_S_click 23 = .ok (.getfield 15, 3) := by decide +kernel
theorem d_S_click_26 : decode b_S_click 26 = .ok (.iload_n 3, 1) := by decide +kernel
theorem d_S_click_27 : decode b_S_click 27 = .ok (.aaload, 1) := by decide +kernel
theorem d_S_click_28 : decode b_S_click 28 = .ok (.astore 4, 2) := by decide +kernel
theorem d_S_click_30 : decode b_S_click 30 = .ok (.aload_n 0, 1) := by decide +kernel
theorem d_S_click_31 : decode b_S_click 31 = .ok (.iload_n 3, 1) := by decide +kernel
theorem d_S_click_32 : decode b_S_click 32 = .ok (.aload 4, 2) := by decide +kernel
theorem d_S_click_34 : decode b_S_click 34 = .ok (.iconst 1, 1) := by decide +kernel
theorem d_S_click_35 : decode b_S_click 35 = .ok (.invokevirtual 119, 3) := by decide +kernel
theorem d_S_click_38 : decode b_S_click 38 = .ok (.pop, 1) := by decide +kernel
theorem d_S_click_39 : decode b_S_click 39 = .ok (.aload_n 0, 1) := by decide +kernel
theorem d_S_click_40 : decode b_S_click 40 = .ok (.getfield 44, 3) := by decide +kernel
theorem d_S_click_43 : decode b_S_click 43 = .ok (.iconst 1, 1) := by decide +kernel
theorem d_S_click_44 : decode b_S_click 44 = .ok (.iload_n 3, 1) := by decide +kernel
theorem d_S_click_45 : decode b_S_click 45 = .ok (.iload_n 1, 1) := by decide +kernel
theorem d_S_click_46 : decode b_S_click 46 = .ok (.aload 4, 2) := by decide +kernel
theorem d_S_click_48 : decode b_S_click 48 = .ok (.getfield 186, 3) := by decide +kernel
theorem d_S_click_51 : decode b_S_click 51 = .ok (.isub, 1) := by decide +kernel
theorem d_S_click_52 : decode b_S_click 52 = .ok (.iload_n 2, 1) := by decide +kernel
theorem d_S_click_53 : decode b_S_click 53 = .ok (.aload 4, 2) := by decide +kernel
theorem d_S_click_55 : decode b_S_click 55 = .ok (.getfield 189, 3) := by decide +kernel
theorem d_S_click_58 : decode b_S_click 58 = .ok (.isub, 1) := by decide +kernel
theorem d_S_click_59 : decode b_S_click 59 = .ok (.invokevirtual 192, 3) := by decide +kernel
theorem d_S_click_62 : decode b_S_click 62 = .ok (.iload_n 3, 1) := by decide +kernel
theorem d_S_click_63 : decode b_S_click 63 = .ok (.ireturn, 1) := by decide +kernel
abbrev r_S_click : Room := ⟨7, 1, 6, 152⟩
def f_S_click_62 (σ : Mem) (x3 : Int32) : Option ((Int32 ⊕ String) × Mem) :=
  some (.inl x3, σ)
set_option maxRecDepth 100000 in
theorem m_S_click_62 {κ : GC} {Γ : GA} (hX : Gx κ Γ 5 b_S_click "PaneScreen" r_S_click (some .int)) (hE : ∀ x ∈ κ.2.2.2.2.2.2.2.2.2.exceptionTable.toList, False) (hT : κ.2.1.stackTraces = false) (σ : Mem) (x3 : Int32) : GG κ Γ 5 (gQX gxi κ Γ r_S_click) 1 6 σ [none, none, none, some (.int x3), none] 62 [] (f_S_click_62 σ x3) := by
  unfold f_S_click_62
  refine g_iload_n hX 3 d_S_click_62 (n := 63) rfl rfl rfl ?_
  exact g_ixret hX d_S_click_63 (by decide) (by decide)
def f_S_click_0 (σ : Mem) (x1 : Int32) (x2 : Int32) : Option ((Int32 ⊕ String) × Mem) :=
  gbx (f_S_requireOnScreen x1 x2 σ) (fun _ u1 =>
    gb (f_S_ownerOf x1 x2 u1) fun r3 u2 =>
    gbv (f_S_giveFocus r3 u2) fun u4 =>
    if r3 = (-1) then
      f_S_click_62 u4 r3
    else
      if gin r3 8 = true then
        gbn (gPB + r3.toNatClampNeg) fun p5 =>
        gb (f_S_reorder r3 p5 1 u4) fun r7 u6 =>
        gbv (f_E_tell 1 r3 (x1 - (u6 p5 1)) (x2 - (u6 p5 2)) u6) fun u8 =>
        f_S_click_62 u8 r3
      else none
    ) (fun E u => some (.inr E, u))
set_option maxRecDepth 100000 in
theorem m_S_click_0 {κ : GC} {Γ : GA} (hX : Gx κ Γ 5 b_S_click "PaneScreen" r_S_click (some .int)) (hE : ∀ x ∈ κ.2.2.2.2.2.2.2.2.2.exceptionTable.toList, False) (hT : κ.2.1.stackTraces = false) (σ : Mem) (x1 : Int32) (x2 : Int32) : GG κ Γ 5 (gQX gxi κ Γ r_S_click) 0 0 σ [some (.ref (Γ.2.1 0)), some (.int x1), some (.int x2), none, none] 0 [] (f_S_click_0 σ x1 x2) := by
  unfold f_S_click_0
  refine g_iload_n hX 1 d_S_click_0 (n := 1) rfl rfl rfl ?_
  refine g_iload_n hX 2 d_S_click_1 (n := 2) rfl rfl rfl ?_
  refine g_xSv hX hE [_, _] rfl 1 6 (c_S_requireOnScreen _ hT Γ x1 x2 σ) gw_S_174 rfl d_S_click_2 (n := 5) rfl ⟨by decide, by decide⟩ ⟨by decide, by decide⟩ (Nat.le_of_ble_eq_true rfl) rfl rfl (fun _ u1 => ?_)
  refine g_aload_n hX 0 d_S_click_5 (n := 6) rfl rfl rfl ?_
  refine g_iload_n hX 1 d_S_click_6 (n := 7) rfl rfl rfl ?_
  refine g_iload_n hX 2 d_S_click_7 (n := 8) rfl rfl rfl ?_
  refine g_cVi hX [_, _] rfl 1 6 (c_S_ownerOf _ Γ x1 x2 u1) gw_S_180 rfl sh_0 rfl d_S_click_8 (n := 11) rfl ⟨by decide, by decide⟩ ⟨by decide, by decide⟩ (Nat.le_of_ble_eq_true rfl) rfl rfl (fun r3 u2 => ?_)
  refine g_istore_n hX 3 [_, _, _, _, _] d_S_click_11 (n := 12) rfl rfl (by decide) rfl ?_
  refine g_aload_n hX 0 d_S_click_12 (n := 13) rfl rfl rfl ?_
  refine g_iload_n hX 3 d_S_click_13 (n := 14) rfl rfl rfl ?_
  refine g_cVv hX [_] rfl 1 6 (c_S_giveFocus _ Γ r3 u2) gw_S_183 rfl sh_0 rfl d_S_click_14 (n := 17) rfl ⟨by decide, by decide⟩ ⟨by decide, by decide⟩ (Nat.le_of_ble_eq_true rfl) rfl rfl (fun u4 => ?_)
  refine g_iload_n hX 3 d_S_click_17 (n := 18) rfl rfl rfl ?_
  refine g_iconst hX (-1) d_S_click_18 (n := 19) rfl k_iconst_m1 ?_
  refine g_icmp_eq hX 62 d_S_click_19 (n := 22) rfl rfl ?_ ?_
  · exact (g_sub (lw := [none, none, none, some (.int r3), none]) (And.intro rfl (True.intro)) (m_S_click_62 hX hE hT u4 r3))
  · refine g_aload_n hX 0 d_S_click_22 (n := 23) rfl rfl rfl ?_
    refine g_geta hX 2 gf_S_15 d_S_click_23 (n := 26) rfl sh_0 rfl ?_
    refine g_iload_n hX 3 d_S_click_26 (n := 27) rfl rfl rfl ?_
    refine g_aaldB hX d_S_click_27 (n := 28) rfl sh_2 (fun p5 hp5 => ?_)
    refine g_astore hX [_, _, _, _, _] d_S_click_28 (n := 30) rfl (by decide) rfl ?_
    refine g_aload_n hX 0 d_S_click_30 (n := 31) rfl rfl rfl ?_
    refine g_iload_n hX 3 d_S_click_31 (n := 32) rfl rfl rfl ?_
    refine g_aload hX d_S_click_32 (n := 34) rfl rfl ?_
    refine g_iconst hX 1 d_S_click_34 (n := 35) rfl k_iconst_1 ?_
    refine g_cVi hX [_, _, _] rfl 1 6 (c_S_reorder _ Γ r3 p5 1 hp5 u4) gw_S_119 rfl sh_0 rfl d_S_click_35 (n := 38) rfl ⟨by decide, by decide⟩ ⟨by decide, by decide⟩ (Nat.le_of_ble_eq_true rfl) rfl rfl (fun r7 u6 => ?_)
    refine g_pop hX d_S_click_38 (n := 39) rfl rfl ?_
    refine g_aload_n hX 0 d_S_click_39 (n := 40) rfl rfl rfl ?_
    refine g_geta hX 14 gf_S_44 d_S_click_40 (n := 43) rfl sh_0 rfl ?_
    refine g_iconst hX 1 d_S_click_43 (n := 44) rfl k_iconst_1 ?_
    refine g_iload_n hX 3 d_S_click_44 (n := 45) rfl rfl rfl ?_
    refine g_iload_n hX 1 d_S_click_45 (n := 46) rfl rfl rfl ?_
    refine g_aload hX d_S_click_46 (n := 48) rfl rfl ?_
    refine g_geti hX gf_S_186 d_S_click_48 (n := 51) rfl hp5 rfl ?_
    refine g_isub hX d_S_click_51 (n := 52) rfl ?_
    refine g_iload_n hX 2 d_S_click_52 (n := 53) rfl rfl rfl ?_
    refine g_aload hX d_S_click_53 (n := 55) rfl rfl ?_
    refine g_geti hX gf_S_189 d_S_click_55 (n := 58) rfl hp5 rfl ?_
    refine g_isub hX d_S_click_58 (n := 59) rfl ?_
    refine g_cVv hX [_, _, _, _] rfl 1 6 (c_E_tell _ Γ 1 r3 (x1 - (u6 p5 1)) (x2 - (u6 p5 2)) u6) gw_S_192 rfl sh_14 rfl d_S_click_59 (n := 62) rfl ⟨by decide, by decide⟩ ⟨by decide, by decide⟩ (Nat.le_of_ble_eq_true rfl) rfl rfl (fun u8 => ?_)
    exact (g_sub (lw := [none, none, none, some (.int r3), none]) (And.intro rfl (True.intro)) (m_S_click_62 hX hE hT u8 r3))
def f_S_click (x1 : Int32) (x2 : Int32) (σ : Mem) : Option ((Int32 ⊕ String) × Mem) := f_S_click_0 σ x1 x2
theorem c_S_click (l : Launch) (hT : l.stackTraces = false) (Γ : GA) (x1 : Int32) (x2 : Int32) (σ : Mem) : gX gxi l y_S_click b_S_click 5 (some .int) r_S_click [.ref (Γ.2.1 0), .int x1, .int x2] Γ σ (f_S_click x1 x2 σ) :=
  gX.of [some (.ref (Γ.2.1 0)), some (.int x1), some (.int x2), none, none] (by decide) (Nat.le_of_ble_eq_true rfl) rfl rfl (fun κ hX hκ hE => m_S_click_0 hX hE (by rw [hκ]; exact hT) σ x1 x2)
/-! S_key -/
theorem d_S_key_0 : decode b_S_key 0 = .ok (.aload_n 0, 1) := by decide +kernel
theorem d_S_key_1 : decode b_S_key 1 = .ok (.getfield 48, 3) := by decide +kernel
theorem d_S_key_4 : decode b_S_key 4 = .ok (.iconst (-1), 1) := by decide +kernel
theorem d_S_key_5 : decode b_S_key 5 = .ok (.if_icmp .ne 5, 3) := by decide +kernel
theorem d_S_key_8 : decode b_S_key 8 = .ok (.iconst 0, 1) := by decide +kernel
theorem d_S_key_9 : decode b_S_key 9 = .ok (.ireturn, 1) := by decide +kernel
theorem d_S_key_10 : decode b_S_key 10 = .ok (.aload_n 0, 1) := by decide +kernel
theorem d_S_key_11 : decode b_S_key 11 = .ok (.getfield 44, 3) := by decide +kernel
theorem d_S_key_14 : decode b_S_key 14 = .ok (.iconst 2, 1) := by decide +kernel
theorem d_S_key_15 : decode b_S_key 15 = .ok (.aload_n 0, 1) := by decide +kernel
theorem d_S_key_16 : decode b_S_key 16 = .ok (.getfield 48, 3) := by decide +kernel
theorem d_S_key_19 : decode b_S_key 19 = .ok (.iload_n 1, 1) := by decide +kernel
theorem d_S_key_20 : decode b_S_key 20 = .ok (.iconst 0, 1) := by decide +kernel
theorem d_S_key_21 : decode b_S_key 21 = .ok (.invokevirtual 192, 3) := by decide +kernel
theorem d_S_key_24 : decode b_S_key 24 = .ok (.iconst 1, 1) := by decide +kernel
theorem d_S_key_25 : decode b_S_key 25 = .ok (.ireturn, 1) := by decide +kernel
abbrev r_S_key : Room := ⟨1, 0, 0, 24⟩
def f_S_key_0 (σ : Mem) (x1 : Int32) : Option (Int32 × Mem) :=
  if (σ 0 6) = (-1) then
    some (0, σ)
  else
    gbv (f_E_tell 2 (σ 0 6) x1 0 σ) fun u1 =>
    some (1, u1)
set_option maxRecDepth 100000 in
theorem m_S_key_0 {κ : GC} {Γ : GA} (hX : Gx κ Γ 2 b_S_key "PaneScreen" r_S_key (some .boolean)) (σ : Mem) (x1 : Int32) : GG κ Γ 2 (gQ gqi κ Γ r_S_key) 0 0 σ [some (.ref (Γ.2.1 0)), some (.int x1)] 0 [] (f_S_key_0 σ x1) := by
  unfold f_S_key_0
  refine g_aload_n hX 0 d_S_key_0 (n := 1) rfl rfl rfl ?_
  refine g_geti hX gf_S_48 d_S_key_1 (n := 4) rfl sh_0 rfl ?_
  refine g_iconst hX (-1) d_S_key_4 (n := 5) rfl k_iconst_m1 ?_
  refine g_icmp_ne hX 10 d_S_key_5 (n := 8) rfl rfl ?_ ?_
  · refine g_aload_n hX 0 d_S_key_10 (n := 11) rfl rfl rfl ?_
    refine g_geta hX 14 gf_S_44 d_S_key_11 (n := 14) rfl sh_0 rfl ?_
    refine g_iconst hX 2 d_S_key_14 (n := 15) rfl k_iconst_2 ?_
    refine g_aload_n hX 0 d_S_key_15 (n := 16) rfl rfl rfl ?_
    refine g_geti hX gf_S_48 d_S_key_16 (n := 19) rfl sh_0 rfl ?_
    refine g_iload_n hX 1 d_S_key_19 (n := 20) rfl rfl rfl ?_
    refine g_iconst hX 0 d_S_key_20 (n := 21) rfl k_iconst_0 ?_
    refine g_cVv hX [_, _, _, _] rfl 0 0 (c_E_tell _ Γ 2 (σ 0 6) x1 0 σ) gw_S_192 rfl sh_14 rfl d_S_key_21 (n := 24) rfl ⟨by decide, by decide⟩ ⟨by decide, by decide⟩ (Nat.le_of_ble_eq_true rfl) rfl rfl (fun u1 => ?_)
    refine g_iconst hX 1 d_S_key_24 (n := 25) rfl k_iconst_1 ?_
    exact g_iretz hX rfl d_S_key_25 (by decide) (by decide)
  · refine g_iconst hX 0 d_S_key_8 (n := 9) rfl k_iconst_0 ?_
    exact g_iretz hX rfl d_S_key_9 (by decide) (by decide)
def f_S_key (x1 : Int32) (σ : Mem) : Option (Int32 × Mem) := f_S_key_0 σ x1
theorem c_S_key (l : Launch) (Γ : GA) (x1 : Int32) (σ : Mem) : gM gqi l y_S_key b_S_key 2 (some .boolean) r_S_key [.ref (Γ.2.1 0), .int x1] Γ σ (f_S_key x1 σ) :=
  gM.of [some (.ref (Γ.2.1 0)), some (.int x1)] (by decide) (Nat.le_of_ble_eq_true rfl) rfl rfl (fun κ hX _ => m_S_key_0 hX σ x1)
/-! E_takeFirst -/
theorem d_E_takeFirst_0 : decode b_E_takeFirst 0 = .ok (.aload_n 0, 1) := by decide +kernel
theorem d_E_takeFirst_1 : decode b_E_takeFirst 1 = .ok (.getfield 28, 3) := by decide +kernel
theorem d_E_takeFirst_4 : decode b_E_takeFirst 4 = .ok (.ifCond .ne 4, 3) := by decide +kernel
theorem d_E_takeFirst_7 : decode b_E_takeFirst 7 = .ok (.return_, 1) := by decide +kernel
theorem d_E_takeFirst_8 : decode b_E_takeFirst 8 = .ok (.aload_n 0, 1) := by decide +kernel
theorem d_E_takeFirst_9 : decode b_E_takeFirst 9 = .ok (.aload_n 0, 1) := by decide +kernel
theorem d_E_takeFirst_10 : decode b_E_takeFirst 10 = .ok (.getfield 9, 3) := by decide +kernel
theorem d_E_takeFirst_13 : decode b_E_takeFirst 13 = .ok (.iconst 0, 1) := by decide +kernel
theorem d_E_takeFirst_14 : decode b_E_takeFirst 14 = .ok (.iaload, 1) := by decide +kernel
theorem d_E_takeFirst_15 : decode b_E_takeFirst 15 = .ok (.putfield 24, 3) := by decide +kernel
theorem d_E_takeFirst_18 : decode b_E_takeFirst 18 = .ok (.aload_n 0, 1) := by decide +kernel
theorem d_E_takeFirst_19 : decode b_E_takeFirst 19 = .ok (.aload_n 0, 1) := by decide +kernel
theorem d_E_takeFirst_20 : decode b_E_takeFirst 20 = .ok (.getfield 15, 3) := by decide +kernel
theorem d_E_takeFirst_23 : decode b_E_takeFirst 23 = .ok (.iconst 0, 1) := by decide +kernel
theorem d_E_takeFirst_24 : decode b_E_takeFirst 24 = .ok (.iaload, 1) := by decide +kernel
theorem d_E_takeFirst_25 : decode b_E_takeFirst 25 = .ok (.putfield 34, 3) := by decide +kernel
theorem d_E_takeFirst_28 : decode b_E_takeFirst 28 = .ok (.aload_n 0, 1) := by decide +kernel
theorem d_E_takeFirst_29 : decode b_E_takeFirst 29 = .ok (.aload_n 0, 1) := by decide +kernel
theorem d_E_takeFirst_30 : decode b_E_takeFirst 30 = .ok (.getfield 18, 3) := by decide +kernel
theorem d_E_takeFirst_33 : decode b_E_takeFirst 33 = .ok (.iconst 0, 1) := by decide +kernel
theorem d_E_takeFirst_34 : decode b_E_takeFirst 34 = .ok (.iaload, 1) := by decide +kernel
theorem d_E_takeFirst_35 : decode b_E_takeFirst 35 = .ok (.putfield 37, 3) := by decide +kernel
theorem d_E_takeFirst_38 : decode b_E_takeFirst 38 = .ok (.aload_n 0, 1) := by decide +kernel
theorem d_E_takeFirst_39 : decode b_E_takeFirst 39 = .ok (.aload_n 0, 1) := by decide +kernel
theorem d_E_takeFirst_40 : decode b_E_takeFirst 40 = .ok (.getfield 21, 3) := by decide +kernel
theorem d_E_takeFirst_43 : decode b_E_takeFirst 43 = .ok (.iconst 0, 1) := by decide +kernel
theorem d_E_takeFirst_44 : decode b_E_takeFirst 44 = .ok (.iaload, 1) := by decide +kernel
theorem d_E_takeFirst_45 : decode b_E_takeFirst 45 = .ok (.putfield 40, 3) := by decide +kernel
theorem d_E_takeFirst_48 : decode b_E_takeFirst 48 = .ok (.iconst 1, 1) := by decide +kernel
theorem d_E_takeFirst_49 : decode b_E_takeFirst 49 = .ok (.istore_n 1, 1) := by decide +kernel
theorem d_E_takeFirst_50 : decode b_E_takeFirst 50 = .ok (.iload_n 1, 1) := by decide +kernel
theorem d_E_takeFirst_51 : decode b_E_takeFirst 51 = .ok (.aload_n 0, 1) := by decide +kernel
theorem d_E_takeFirst_52 : decode b_E_takeFirst 52 = .ok (.getfield 28, 3) := by decide +kernel
theorem d_E_takeFirst_55 : decode b_E_takeFirst 55 = .ok (.if_icmp .ge 17, 3) := by decide +kernel
theorem d_E_takeFirst_58 : decode b_E_takeFirst 58 = .ok (.aload_n 0, 1) := by decide +kernel
theorem d_E_takeFirst_59 : decode b_E_takeFirst 59 = .ok (.iload_n 1, 1) := by decide +kernel
theorem d_E_takeFirst_60 : decode b_E_takeFirst 60 = .ok (.iload_n 1, 1) := by decide +kernel
theorem d_E_takeFirst_61 : decode b_E_takeFirst 61 = .ok (.iconst 1, 1) := by decide +kernel
theorem d_E_takeFirst_62 : decode b_E_takeFirst 62 = .ok (.isub, 1) := by decide +kernel
theorem d_E_takeFirst_63 : decode b_E_takeFirst 63 = .ok (.invokevirtual 43, 3) := by decide +kernel
theorem d_E_takeFirst_66 : decode b_E_takeFirst 66 = .ok (.iinc 1 1, 3) := by decide +kernel
theorem d_E_takeFirst_69 : decode b_E_takeFirst 69 = .ok (.goto (-19), 3) := by decide +kernel
theorem d_E_takeFirst_72 : decode b_E_takeFirst 72 = .ok (.aload_n 0, 1) := by decide +kernel
theorem d_E_takeFirst_73 : decode b_E_takeFirst 73 = .ok (.dup, 1) := by decide +kernel
theorem d_E_takeFirst_74 : decode b_E_takeFirst 74 = .ok (.getfield 28, 3) := by decide +kernel
theorem d_E_takeFirst_77 : decode b_E_takeFirst 77 = .ok (.iconst 1, 1) := by decide +kernel
theorem d_E_takeFirst_78 : decode b_E_takeFirst 78 = .ok (.isub, 1) := by decide +kernel
theorem d_E_takeFirst_79 : decode b_E_takeFirst 79 = .ok (.putfield 28, 3) := by decide +kernel
theorem d_E_takeFirst_82 : decode b_E_takeFirst 82 = .ok (.return_, 1) := by decide +kernel
abbrev r_E_takeFirst : Room := ⟨1, 0, 0, 22⟩
def f_E_takeFirst_50B (K50 : Mem → Int32 → Option Mem) (σ : Mem) (x1 : Int32) : Option Mem :=
  if (σ 14 4) ≤ x1 then
    gbm (m2 σ 14 4 ((σ 14 4) - 1)) fun u1 =>
    some u1
  else
    gbv (f_E_copy x1 (x1 - 1) σ) fun u2 =>
    K50 u2 (x1 + 1)
set_option maxRecDepth 100000 in
theorem m_E_takeFirst_50B {κ : GC} {Γ : GA} (hX : Gx κ Γ 2 b_E_takeFirst "PaneScreen$EventLine" r_E_takeFirst none) (K50 : Mem → Int32 → Option Mem) (hK50 : ∀ (σ : Mem) (x1 : Int32), GG κ Γ 2 (gQ gqv κ Γ r_E_takeFirst) 0 0 σ [some (.ref (Γ.2.1 14)), some (.int x1)] 50 [] (K50 σ x1)) (σ : Mem) (x1 : Int32) : GG κ Γ 2 (gQ gqv κ Γ r_E_takeFirst) 0 0 σ [some (.ref (Γ.2.1 14)), some (.int x1)] 50 [] (f_E_takeFirst_50B K50 σ x1) := by
  unfold f_E_takeFirst_50B
  refine g_iload_n hX 1 d_E_takeFirst_50 (n := 51) rfl rfl rfl ?_
  refine g_aload_n hX 0 d_E_takeFirst_51 (n := 52) rfl rfl rfl ?_
  refine g_geti hX gf_E_28 d_E_takeFirst_52 (n := 55) rfl sh_14 rfl ?_
  refine g_icmp_ge hX 72 d_E_takeFirst_55 (n := 58) rfl rfl ?_ ?_
  · refine g_aload_n hX 0 d_E_takeFirst_72 (n := 73) rfl rfl rfl ?_
    refine g_dup hX d_E_takeFirst_73 (n := 74) rfl rfl ?_
    refine g_geti hX gf_E_28 d_E_takeFirst_74 (n := 77) rfl sh_14 rfl ?_
    refine g_iconst hX 1 d_E_takeFirst_77 (n := 78) rfl k_iconst_1 ?_
    refine g_isub hX d_E_takeFirst_78 (n := 79) rfl ?_
    refine g_puti hX gp_E_28 d_E_takeFirst_79 (n := 82) rfl sh_14 rfl ?_
    refine g_mem (fun u1 => ?_)
    exact g_vret hX d_E_takeFirst_82 (by decide) (by decide)
  · refine g_aload_n hX 0 d_E_takeFirst_58 (n := 59) rfl rfl rfl ?_
    refine g_iload_n hX 1 d_E_takeFirst_59 (n := 60) rfl rfl rfl ?_
    refine g_iload_n hX 1 d_E_takeFirst_60 (n := 61) rfl rfl rfl ?_
    refine g_iconst hX 1 d_E_takeFirst_61 (n := 62) rfl k_iconst_1 ?_
    refine g_isub hX d_E_takeFirst_62 (n := 63) rfl ?_
    refine g_cVv hX [_, _] rfl 0 0 (c_E_copy _ Γ x1 (x1 - 1) σ) gw_E_43 rfl sh_14 rfl d_E_takeFirst_63 (n := 66) rfl ⟨by decide, by decide⟩ ⟨by decide, by decide⟩ (Nat.le_of_ble_eq_true rfl) rfl rfl (fun u2 => ?_)
    refine g_iinc hX 1 _ [_, _] d_E_takeFirst_66 (n := 69) rfl rfl k_iconst_1 rfl (by decide) rfl ?_
    refine g_goto hX 50 d_E_takeFirst_69 rfl ?_
    exact (hK50 u2 (x1 + 1))
def f_E_takeFirst_50 (n : Nat) : Mem → Int32 → Option Mem := gfix (fun _ _ => none) (fun K50 => f_E_takeFirst_50B K50) n
theorem m_E_takeFirst_50 {κ : GC} {Γ : GA} (hX : Gx κ Γ 2 b_E_takeFirst "PaneScreen$EventLine" r_E_takeFirst none) (n : Nat) : ∀ (σ : Mem) (x1 : Int32), GG κ Γ 2 (gQ gqv κ Γ r_E_takeFirst) 0 0 σ [some (.ref (Γ.2.1 14)), some (.int x1)] 50 [] (f_E_takeFirst_50 n σ x1) := by
  induction n with
  | zero => intros; exact g_none
  | succ n ih => intro σ x1; exact m_E_takeFirst_50B hX (f_E_takeFirst_50 n) ih σ x1
def f_E_takeFirst_0 (σ : Mem) : Option Mem :=
  if (σ 14 4) = 0 then
    some σ
  else
    if gin 0 12 = true then
      gbm (m2 σ 14 6 (σ 15 (0 : Int32).toNatClampNeg)) fun u1 =>
      if gin 0 12 = true then
        gbm (m2 u1 14 7 (u1 16 (0 : Int32).toNatClampNeg)) fun u2 =>
        if gin 0 12 = true then
          gbm (m2 u2 14 8 (u2 17 (0 : Int32).toNatClampNeg)) fun u3 =>
          if gin 0 12 = true then
            gbm (m2 u3 14 9 (u3 18 (0 : Int32).toNatClampNeg)) fun u4 =>
            f_E_takeFirst_50 gN u4 1
          else none
        else none
      else none
    else none
set_option maxRecDepth 100000 in
theorem m_E_takeFirst_0 {κ : GC} {Γ : GA} (hX : Gx κ Γ 2 b_E_takeFirst "PaneScreen$EventLine" r_E_takeFirst none) (σ : Mem) : GG κ Γ 2 (gQ gqv κ Γ r_E_takeFirst) 0 0 σ [some (.ref (Γ.2.1 14)), none] 0 [] (f_E_takeFirst_0 σ) := by
  unfold f_E_takeFirst_0
  refine g_aload_n hX 0 d_E_takeFirst_0 (n := 1) rfl rfl rfl ?_
  refine g_geti hX gf_E_28 d_E_takeFirst_1 (n := 4) rfl sh_14 rfl ?_
  refine g_if_ne hX 8 d_E_takeFirst_4 (n := 7) rfl rfl ?_ ?_
  · refine g_aload_n hX 0 d_E_takeFirst_8 (n := 9) rfl rfl rfl ?_
    refine g_aload_n hX 0 d_E_takeFirst_9 (n := 10) rfl rfl rfl ?_
    refine g_geta hX 15 gf_E_9 d_E_takeFirst_10 (n := 13) rfl sh_14 rfl ?_
    refine g_iconst hX 0 d_E_takeFirst_13 (n := 14) rfl k_iconst_0 ?_
    refine g_iald hX d_E_takeFirst_14 (n := 15) rfl sh_15 ?_
    refine g_puti hX gp_E_24 d_E_takeFirst_15 (n := 18) rfl sh_14 rfl ?_
    refine g_mem (fun u1 => ?_)
    refine g_aload_n hX 0 d_E_takeFirst_18 (n := 19) rfl rfl rfl ?_
    refine g_aload_n hX 0 d_E_takeFirst_19 (n := 20) rfl rfl rfl ?_
    refine g_geta hX 16 gf_E_15 d_E_takeFirst_20 (n := 23) rfl sh_14 rfl ?_
    refine g_iconst hX 0 d_E_takeFirst_23 (n := 24) rfl k_iconst_0 ?_
    refine g_iald hX d_E_takeFirst_24 (n := 25) rfl sh_16 ?_
    refine g_puti hX gp_E_34 d_E_takeFirst_25 (n := 28) rfl sh_14 rfl ?_
    refine g_mem (fun u2 => ?_)
    refine g_aload_n hX 0 d_E_takeFirst_28 (n := 29) rfl rfl rfl ?_
    refine g_aload_n hX 0 d_E_takeFirst_29 (n := 30) rfl rfl rfl ?_
    refine g_geta hX 17 gf_E_18 d_E_takeFirst_30 (n := 33) rfl sh_14 rfl ?_
    refine g_iconst hX 0 d_E_takeFirst_33 (n := 34) rfl k_iconst_0 ?_
    refine g_iald hX d_E_takeFirst_34 (n := 35) rfl sh_17 ?_
    refine g_puti hX gp_E_37 d_E_takeFirst_35 (n := 38) rfl sh_14 rfl ?_
    refine g_mem (fun u3 => ?_)
    refine g_aload_n hX 0 d_E_takeFirst_38 (n := 39) rfl rfl rfl ?_
    refine g_aload_n hX 0 d_E_takeFirst_39 (n := 40) rfl rfl rfl ?_
    refine g_geta hX 18 gf_E_21 d_E_takeFirst_40 (n := 43) rfl sh_14 rfl ?_
    refine g_iconst hX 0 d_E_takeFirst_43 (n := 44) rfl k_iconst_0 ?_
    refine g_iald hX d_E_takeFirst_44 (n := 45) rfl sh_18 ?_
    refine g_puti hX gp_E_40 d_E_takeFirst_45 (n := 48) rfl sh_14 rfl ?_
    refine g_mem (fun u4 => ?_)
    refine g_iconst hX 1 d_E_takeFirst_48 (n := 49) rfl k_iconst_1 ?_
    refine g_istore_n hX 1 [_, _] d_E_takeFirst_49 (n := 50) rfl rfl (by decide) rfl ?_
    exact (m_E_takeFirst_50 hX gN u4 1)
  · exact g_vret hX d_E_takeFirst_7 (by decide) (by decide)
def f_E_takeFirst (σ : Mem) : Option Mem := f_E_takeFirst_0 σ
theorem c_E_takeFirst (l : Launch) (Γ : GA) (σ : Mem) : gM gqv l y_E_takeFirst b_E_takeFirst 2 none r_E_takeFirst [.ref (Γ.2.1 14)] Γ σ (f_E_takeFirst σ) :=
  gM.of [some (.ref (Γ.2.1 14)), none] (by decide) (Nat.le_of_ble_eq_true rfl) rfl rfl (fun κ hX _ => m_E_takeFirst_0 hX σ)
/-! S_next -/
theorem d_S_next_0 : decode b_S_next 0 = .ok (.aload_n 0, 1) := by decide +kernel
theorem d_S_next_1 : decode b_S_next 1 = .ok (.getfield 44, 3) := by decide +kernel
theorem d_S_next_4 : decode b_S_next 4 = .ok (.getfield 196, 3) := by decide +kernel
theorem d_S_next_7 : decode b_S_next 7 = .ok (.ifCond .ne 11, 3) := by decide +kernel
theorem d_S_next_10 : decode b_S_next 10 = .ok (.new 199, 3) := by decide +kernel
theorem d_S_next_13 : decode b_S_next 13 = .ok (.dup, 1) := by decide +kernel
theorem d_S_next_14 : decode b_S_next 14 = .ok (.invokespecial 201, 3) := by decide +kernel
theorem d_S_next_17 : decode b_S_next 17 = .ok (.athrow, 1) := by decide +kernel
theorem d_S_next_18 : decode b_S_next 18 = .ok (.aload_n 0, 1) := by decide +kernel
theorem d_S_next_19 : decode b_S_next 19 = .ok (.getfield 44, 3) := by decide +kernel
theorem d_S_next_22 : decode b_S_next 22 = .ok (.invokevirtual 202, 3) := by decide +kernel
theorem d_S_next_25 : decode b_S_next 25 = .ok (.aload_n 0, 1) := by decide +kernel
theorem d_S_next_26 : decode b_S_next 26 = .ok (.getfield 44, 3) := by decide +kernel
theorem d_S_next_29 : decode b_S_next 29 = .ok (.getfield 205, 3) := by decide +kernel
theorem d_S_next_32 : decode b_S_next 32 = .ok (.ireturn, 1) := by decide +kernel
abbrev r_S_next : Room := ⟨6, 1, 6, 81⟩
def f_S_next_0 (σ : Mem) : Option ((Int32 ⊕ String) × Mem) :=
  if (σ 14 4) = 0 then
    some (.inr "java/util/NoSuchElementException", σ)
  else
    gbv (f_E_takeFirst σ) fun u1 =>
    some (.inl (u1 14 6), u1)
set_option maxRecDepth 100000 in
theorem m_S_next_0 {κ : GC} {Γ : GA} (hX : Gx κ Γ 1 b_S_next "PaneScreen" r_S_next (some .int)) (hE : ∀ x ∈ κ.2.2.2.2.2.2.2.2.2.exceptionTable.toList, False) (hT : κ.2.1.stackTraces = false) (σ : Mem) : GG κ Γ 1 (gQX gxi κ Γ r_S_next) 0 0 σ [some (.ref (Γ.2.1 0))] 0 [] (f_S_next_0 σ) := by
  unfold f_S_next_0
  refine g_aload_n hX 0 d_S_next_0 (n := 1) rfl rfl rfl ?_
  refine g_geta hX 14 gf_S_44 d_S_next_1 (n := 4) rfl sh_0 rfl ?_
  refine g_geti hX gf_S_196 d_S_next_4 (n := 7) rfl sh_14 rfl ?_
  refine g_if_ne hX 18 d_S_next_7 (n := 10) rfl rfl ?_ ?_
  · refine g_aload_n hX 0 d_S_next_18 (n := 19) rfl rfl rfl ?_
    refine g_geta hX 14 gf_S_44 d_S_next_19 (n := 22) rfl sh_0 rfl ?_
    refine g_cVv hX [] rfl 0 0 (c_E_takeFirst _ Γ σ) gw_S_202 rfl sh_14 rfl d_S_next_22 (n := 25) rfl ⟨by decide, by decide⟩ ⟨by decide, by decide⟩ (Nat.le_of_ble_eq_true rfl) rfl rfl (fun u1 => ?_)
    refine g_aload_n hX 0 d_S_next_25 (n := 26) rfl rfl rfl ?_
    refine g_geta hX 14 gf_S_44 d_S_next_26 (n := 29) rfl sh_0 rfl ?_
    refine g_geti hX gf_S_205 d_S_next_29 (n := 32) rfl sh_14 rfl ?_
    exact g_ixret hX d_S_next_32 (by decide) (by decide)
  · exact g_throw hX hE hT gt_S_199 d_S_next_10 d_S_next_13 d_S_next_14 d_S_next_17 (by decide) (by decide) (by decide) (by decide)
def f_S_next (σ : Mem) : Option ((Int32 ⊕ String) × Mem) := f_S_next_0 σ
theorem c_S_next (l : Launch) (hT : l.stackTraces = false) (Γ : GA) (σ : Mem) : gX gxi l y_S_next b_S_next 1 (some .int) r_S_next [.ref (Γ.2.1 0)] Γ σ (f_S_next σ) :=
  gX.of [some (.ref (Γ.2.1 0))] (by decide) (Nat.le_of_ble_eq_true rfl) rfl rfl (fun κ hX hκ hE => m_S_next_0 hX hE (by rw [hκ]; exact hT) σ)
/-! S_event -/
theorem d_S_event_0 : decode b_S_event 0 = .ok (.aload_n 0, 1) := by decide +kernel
theorem d_S_event_1 : decode b_S_event 1 = .ok (.getfield 44, 3) := by decide +kernel
theorem d_S_event_4 : decode b_S_event 4 = .ok (.getfield 205, 3) := by decide +kernel
theorem d_S_event_7 : decode b_S_event 7 = .ok (.iconst (-1), 1) := by decide +kernel
theorem d_S_event_8 : decode b_S_event 8 = .ok (.if_icmp .ne 11, 3) := by decide +kernel
theorem d_S_event_11 : decode b_S_event 11 = .ok (.new 70, 3) := by decide +kernel
theorem d_S_event_14 : decode b_S_event 14 = .ok (.dup, 1) := by decide +kernel
theorem d_S_event_15 : decode b_S_event 15 = .ok (.invokespecial 72, 3) := by decide +kernel
theorem d_S_event_18 : decode b_S_event 18 = .ok (.athrow, 1) := by decide +kernel
theorem d_S_event_19 : decode b_S_event 19 = .ok (.iload_n 1, 1) := by decide +kernel
theorem d_S_event_20 : decode b_S_event 20 = .ok (.tableswitch 52 0 2 #[28, 36, 44], 28) := by decide +kernel
theorem d_S_event_48 : decode b_S_event 48 = .ok (.aload_n 0, 1) := by decide +kernel
theorem d_S_event_49 : decode b_S_event 49 = .ok (.getfield 44, 3) := by decide +kernel
theorem d_S_event_52 : decode b_S_event 52 = .ok (.getfield 208, 3) := by decide +kernel
theorem d_S_event_55 : decode b_S_event 55 = .ok (.ireturn, 1) := by decide +kernel
theorem d_S_event_56 : decode b_S_event 56 = .ok (.aload_n 0, 1) := by decide +kernel
theorem d_S_event_57 : decode b_S_event 57 = .ok (.getfield 44, 3) := by decide +kernel
theorem d_S_event_60 : decode b_S_event 60 = .ok (.getfield 211, 3) := by decide +kernel
theorem d_S_event_63 : decode b_S_event 63 = .ok (.ireturn, 1) := by decide +kernel
theorem d_S_event_64 : decode b_S_event 64 = .ok (.aload_n 0, 1) := by decide +kernel
theorem d_S_event_65 : decode b_S_event 65 = .ok (.getfield 44, 3) := by decide +kernel
theorem d_S_event_68 : decode b_S_event 68 = .ok (.getfield 214, 3) := by decide +kernel
theorem d_S_event_71 : decode b_S_event 71 = .ok (.ireturn, 1) := by decide +kernel
theorem d_S_event_72 : decode b_S_event 72 = .ok (.new 217, 3) := by decide +kernel
theorem d_S_event_75 : decode b_S_event 75 = .ok (.dup, 1) := by decide +kernel
theorem d_S_event_76 : decode b_S_event 76 = .ok (.invokespecial 219, 3) := by decide +kernel
theorem d_S_event_79 : decode b_S_event 79 = .ok (.athrow, 1) := by decide +kernel
abbrev r_S_event : Room := ⟨6, 1, 6, 81⟩
def f_S_event_0 (σ : Mem) (x1 : Int32) : Option ((Int32 ⊕ String) × Mem) :=
  if (σ 14 6) = (-1) then
    some (.inr "java/lang/IllegalStateException", σ)
  else
    gsw x1 0 [
      (48, (
        some (.inl (σ 14 7), σ)
      )),
      (56, (
        some (.inl (σ 14 8), σ)
      )),
      (64, (
        some (.inl (σ 14 9), σ)
      ))
    ] (
      some (.inr "java/lang/IllegalArgumentException", σ)
    )
set_option maxRecDepth 100000 in
theorem m_S_event_0 {κ : GC} {Γ : GA} (hX : Gx κ Γ 2 b_S_event "PaneScreen" r_S_event (some .int)) (hE : ∀ x ∈ κ.2.2.2.2.2.2.2.2.2.exceptionTable.toList, False) (hT : κ.2.1.stackTraces = false) (σ : Mem) (x1 : Int32) : GG κ Γ 2 (gQX gxi κ Γ r_S_event) 0 0 σ [some (.ref (Γ.2.1 0)), some (.int x1)] 0 [] (f_S_event_0 σ x1) := by
  unfold f_S_event_0
  refine g_aload_n hX 0 d_S_event_0 (n := 1) rfl rfl rfl ?_
  refine g_geta hX 14 gf_S_44 d_S_event_1 (n := 4) rfl sh_0 rfl ?_
  refine g_geti hX gf_S_205 d_S_event_4 (n := 7) rfl sh_14 rfl ?_
  refine g_iconst hX (-1) d_S_event_7 (n := 8) rfl k_iconst_m1 ?_
  refine g_icmp_ne hX 19 d_S_event_8 (n := 11) rfl rfl ?_ ?_
  · refine g_iload_n hX 1 d_S_event_19 (n := 20) rfl rfl rfl ?_
    refine g_table hX [(48, _), (56, _), (64, _)] 72 d_S_event_20 rfl rfl rfl ?_ ⟨?_, ?_, ?_, True.intro⟩
    · exact g_throw hX hE hT gt_S_217 d_S_event_72 d_S_event_75 d_S_event_76 d_S_event_79 (by decide) (by decide) (by decide) (by decide)
    · refine g_aload_n hX 0 d_S_event_48 (n := 49) rfl rfl rfl ?_
      refine g_geta hX 14 gf_S_44 d_S_event_49 (n := 52) rfl sh_0 rfl ?_
      refine g_geti hX gf_S_208 d_S_event_52 (n := 55) rfl sh_14 rfl ?_
      exact g_ixret hX d_S_event_55 (by decide) (by decide)
    · refine g_aload_n hX 0 d_S_event_56 (n := 57) rfl rfl rfl ?_
      refine g_geta hX 14 gf_S_44 d_S_event_57 (n := 60) rfl sh_0 rfl ?_
      refine g_geti hX gf_S_211 d_S_event_60 (n := 63) rfl sh_14 rfl ?_
      exact g_ixret hX d_S_event_63 (by decide) (by decide)
    · refine g_aload_n hX 0 d_S_event_64 (n := 65) rfl rfl rfl ?_
      refine g_geta hX 14 gf_S_44 d_S_event_65 (n := 68) rfl sh_0 rfl ?_
      refine g_geti hX gf_S_214 d_S_event_68 (n := 71) rfl sh_14 rfl ?_
      exact g_ixret hX d_S_event_71 (by decide) (by decide)
  · exact g_throw hX hE hT gt_S_70 d_S_event_11 d_S_event_14 d_S_event_15 d_S_event_18 (by decide) (by decide) (by decide) (by decide)
def f_S_event (x1 : Int32) (σ : Mem) : Option ((Int32 ⊕ String) × Mem) := f_S_event_0 σ x1
theorem c_S_event (l : Launch) (hT : l.stackTraces = false) (Γ : GA) (x1 : Int32) (σ : Mem) : gX gxi l y_S_event b_S_event 2 (some .int) r_S_event [.ref (Γ.2.1 0), .int x1] Γ σ (f_S_event x1 σ) :=
  gX.of [some (.ref (Γ.2.1 0)), some (.int x1)] (by decide) (Nat.le_of_ble_eq_true rfl) rfl rfl (fun κ hX hκ hE => m_S_event_0 hX hE (by rw [hκ]; exact hT) σ x1)
/-! T_freeCells -/
theorem d_T_freeCells_0 : decode b_T_freeCells 0 = .ok (.iconst 0, 1) := by decide +kernel
theorem d_T_freeCells_1 : decode b_T_freeCells 1 = .ok (.istore_n 1, 1) := by decide +kernel
theorem d_T_freeCells_2 : decode b_T_freeCells 2 = .ok (.iconst 0, 1) := by decide +kernel
theorem d_T_freeCells_3 : decode b_T_freeCells 3 = .ok (.istore_n 2, 1) := by decide +kernel
theorem d_T_freeCells_4 : decode b_T_freeCells 4 = .ok (.iload_n 2, 1) := by decide +kernel
theorem d_T_freeCells_5 : decode b_T_freeCells 5 = .ok (.sipush 400, 3) := by decide +kernel
theorem d_T_freeCells_8 : decode b_T_freeCells 8 = .ok (.if_icmp .ge 21, 3) := by decide +kernel
theorem d_T_freeCells_11 : decode b_T_freeCells 11 = .ok (.aload_n 0, 1) := by decide +kernel
theorem d_T_freeCells_12 : decode b_T_freeCells 12 = .ok (.getfield 18, 3) := by decide +kernel
theorem d_T_freeCells_15 : decode b_T_freeCells 15 = .ok (.iload_n 2, 1) := by decide +kernel
theorem d_T_freeCells_16 : decode b_T_freeCells 16 = .ok (.baload, 1) := by decide +kernel
theorem d_T_freeCells_17 : decode b_T_freeCells 17 = .ok (.ifCond .ne 6, 3) := by decide +kernel
theorem d_T_freeCells_20 : decode b_T_freeCells 20 = .ok (.iinc 1 1, 3) := by decide +kernel
theorem d_T_freeCells_23 : decode b_T_freeCells 23 = .ok (.iinc 2 1, 3) := by decide +kernel
theorem d_T_freeCells_26 : decode b_T_freeCells 26 = .ok (.goto (-22), 3) := by decide +kernel
theorem d_T_freeCells_29 : decode b_T_freeCells 29 = .ok (.iload_n 1, 1) := by decide +kernel
theorem d_T_freeCells_30 : decode b_T_freeCells 30 = .ok (.ireturn, 1) := by decide +kernel
abbrev r_T_freeCells : Room := ⟨0, 0, 0, 0⟩
def f_T_freeCells_23 (K4 : Mem → Int32 → Int32 → Option (Int32 × Mem)) (σ : Mem) (x1 : Int32) (x2 : Int32) : Option (Int32 × Mem) :=
  K4 σ x1 (x2 + 1)
set_option maxRecDepth 100000 in
theorem m_T_freeCells_23 {κ : GC} {Γ : GA} (hX : Gx κ Γ 3 b_T_freeCells "PaneScreen$Store" r_T_freeCells (some .int)) (K4 : Mem → Int32 → Int32 → Option (Int32 × Mem)) (hK4 : ∀ (σ : Mem) (x1 : Int32) (x2 : Int32), GG κ Γ 3 (gQ gqi κ Γ r_T_freeCells) 0 0 σ [some (.ref (Γ.2.1 5)), some (.int x1), some (.int x2)] 4 [] (K4 σ x1 x2)) (σ : Mem) (x1 : Int32) (x2 : Int32) : GG κ Γ 3 (gQ gqi κ Γ r_T_freeCells) 0 0 σ [some (.ref (Γ.2.1 5)), some (.int x1), some (.int x2)] 23 [] (f_T_freeCells_23 K4 σ x1 x2) := by
  unfold f_T_freeCells_23
  refine g_iinc hX 1 _ [_, _, _] d_T_freeCells_23 (n := 26) rfl rfl k_iconst_1 rfl (by decide) rfl ?_
  refine g_goto hX 4 d_T_freeCells_26 rfl ?_
  exact (hK4 σ x1 (x2 + 1))
def f_T_freeCells_4B (K4 : Mem → Int32 → Int32 → Option (Int32 × Mem)) (σ : Mem) (x1 : Int32) (x2 : Int32) : Option (Int32 × Mem) :=
  if 400 ≤ x2 then
    some (x1, σ)
  else
    if gin x2 400 = true then
      if (σ 8 x2.toNatClampNeg) = 0 then
        f_T_freeCells_23 K4 σ (x1 + 1) x2
      else
        f_T_freeCells_23 K4 σ x1 x2
    else none
set_option maxRecDepth 100000 in
theorem m_T_freeCells_4B {κ : GC} {Γ : GA} (hX : Gx κ Γ 3 b_T_freeCells "PaneScreen$Store" r_T_freeCells (some .int)) (K4 : Mem → Int32 → Int32 → Option (Int32 × Mem)) (hK4 : ∀ (σ : Mem) (x1 : Int32) (x2 : Int32), GG κ Γ 3 (gQ gqi κ Γ r_T_freeCells) 0 0 σ [some (.ref (Γ.2.1 5)), some (.int x1), some (.int x2)] 4 [] (K4 σ x1 x2)) (σ : Mem) (x1 : Int32) (x2 : Int32) : GG κ Γ 3 (gQ gqi κ Γ r_T_freeCells) 0 0 σ [some (.ref (Γ.2.1 5)), some (.int x1), some (.int x2)] 4 [] (f_T_freeCells_4B K4 σ x1 x2) := by
  unfold f_T_freeCells_4B
  refine g_iload_n hX 2 d_T_freeCells_4 (n := 5) rfl rfl rfl ?_
  refine g_sipush hX 400 d_T_freeCells_5 (n := 8) rfl k_sipush_400 ?_
  refine g_icmp_ge hX 29 d_T_freeCells_8 (n := 11) rfl rfl ?_ ?_
  · refine g_iload_n hX 1 d_T_freeCells_29 (n := 30) rfl rfl rfl ?_
    exact g_iret hX d_T_freeCells_30 (by decide) (by decide)
  · refine g_aload_n hX 0 d_T_freeCells_11 (n := 12) rfl rfl rfl ?_
    refine g_geta hX 8 gf_T_18 d_T_freeCells_12 (n := 15) rfl sh_5 rfl ?_
    refine g_iload_n hX 2 d_T_freeCells_15 (n := 16) rfl rfl rfl ?_
    refine g_zald hX d_T_freeCells_16 (n := 17) rfl sh_8 ?_
    refine g_if_ne hX 23 d_T_freeCells_17 (n := 20) rfl rfl ?_ ?_
    · exact (m_T_freeCells_23 hX K4 hK4 σ x1 x2)
    · refine g_iinc hX 1 _ [_, _, _] d_T_freeCells_20 (n := 23) rfl rfl k_iconst_1 rfl (by decide) rfl ?_
      exact (m_T_freeCells_23 hX K4 hK4 σ (x1 + 1) x2)
def f_T_freeCells_4 (n : Nat) : Mem → Int32 → Int32 → Option (Int32 × Mem) := gfix (fun _ _ _ => none) (fun K4 => f_T_freeCells_4B K4) n
theorem m_T_freeCells_4 {κ : GC} {Γ : GA} (hX : Gx κ Γ 3 b_T_freeCells "PaneScreen$Store" r_T_freeCells (some .int)) (n : Nat) : ∀ (σ : Mem) (x1 : Int32) (x2 : Int32), GG κ Γ 3 (gQ gqi κ Γ r_T_freeCells) 0 0 σ [some (.ref (Γ.2.1 5)), some (.int x1), some (.int x2)] 4 [] (f_T_freeCells_4 n σ x1 x2) := by
  induction n with
  | zero => intros; exact g_none
  | succ n ih => intro σ x1 x2; exact m_T_freeCells_4B hX (f_T_freeCells_4 n) ih σ x1 x2
def f_T_freeCells_0 (σ : Mem) : Option (Int32 × Mem) :=
  f_T_freeCells_4 gN σ 0 0
set_option maxRecDepth 100000 in
theorem m_T_freeCells_0 {κ : GC} {Γ : GA} (hX : Gx κ Γ 3 b_T_freeCells "PaneScreen$Store" r_T_freeCells (some .int)) (σ : Mem) : GG κ Γ 3 (gQ gqi κ Γ r_T_freeCells) 0 0 σ [some (.ref (Γ.2.1 5)), none, none] 0 [] (f_T_freeCells_0 σ) := by
  unfold f_T_freeCells_0
  refine g_iconst hX 0 d_T_freeCells_0 (n := 1) rfl k_iconst_0 ?_
  refine g_istore_n hX 1 [_, _, _] d_T_freeCells_1 (n := 2) rfl rfl (by decide) rfl ?_
  refine g_iconst hX 0 d_T_freeCells_2 (n := 3) rfl k_iconst_0 ?_
  refine g_istore_n hX 2 [_, _, _] d_T_freeCells_3 (n := 4) rfl rfl (by decide) rfl ?_
  exact (m_T_freeCells_4 hX gN σ 0 0)
def f_T_freeCells (σ : Mem) : Option (Int32 × Mem) := f_T_freeCells_0 σ
theorem c_T_freeCells (l : Launch) (Γ : GA) (σ : Mem) : gM gqi l y_T_freeCells b_T_freeCells 3 (some .int) r_T_freeCells [.ref (Γ.2.1 5)] Γ σ (f_T_freeCells σ) :=
  gM.of [some (.ref (Γ.2.1 5)), none, none] (by decide) (Nat.le_of_ble_eq_true rfl) rfl rfl (fun κ hX _ => m_T_freeCells_0 hX σ)
/-! T_longestFree -/
theorem d_T_longestFree_0 : decode b_T_longestFree 0 = .ok (.iconst 0, 1) := by decide +kernel
theorem d_T_longestFree_1 : decode b_T_longestFree 1 = .ok (.istore_n 1, 1) := by decide +kernel
theorem d_T_longestFree_2 : decode b_T_longestFree 2 = .ok (.iconst 0, 1) := by decide +kernel
theorem d_T_longestFree_3 : decode b_T_longestFree 3 = .ok (.istore_n 2, 1) := by decide +kernel
theorem d_T_longestFree_4 : decode b_T_longestFree 4 = .ok (.iconst 0, 1) := by decide +kernel
theorem d_T_longestFree_5 : decode b_T_longestFree 5 = .ok (.istore_n 3, 1) := by decide +kernel
theorem d_T_longestFree_6 : decode b_T_longestFree 6 = .ok (.iload_n 3, 1) := by decide +kernel
theorem d_T_longestFree_7 : decode b_T_longestFree 7 = .ok (.sipush 400, 3) := by decide +kernel
theorem d_T_longestFree_10 : decode b_T_longestFree 10 = .ok (.if_icmp .ge 32, 3) := by decide +kernel
theorem d_T_longestFree_13 : decode b_T_longestFree 13 = .ok (.aload_n 0, 1) := by decide +kernel
theorem d_T_longestFree_14 : decode b_T_longestFree 14 = .ok (.getfield 18, 3) := by decide +kernel
theorem d_T_longestFree_17 : decode b_T_longestFree 17 = .ok (.iload_n 3, 1) := by decide +kernel
theorem d_T_longestFree_18 : decode b_T_longestFree 18 = .ok (.baload, 1) := by decide +kernel
theorem d_T_longestFree_19 : decode b_T_longestFree 19 = .ok (.ifCond .eq 7, 3) := by decide +kernel
theorem d_T_longestFree_22 : decode b_T_longestFree 22 = .ok (.iconst 0, 1) := by decide +kernel
theorem d_T_longestFree_23 : decode b_T_longestFree 23 = .ok (.goto 6, 3) := by decide +kernel
theorem d_T_longestFree_26 : decode b_T_longestFree 26 = .ok (.iload_n 2, 1) := by decide +kernel
theorem d_T_longestFree_27 : decode b_T_longestFree 27 = .ok (.iconst 1, 1) := by decide +kernel
theorem d_T_longestFree_28 : decode b_T_longestFree 28 = .ok (.iadd, 1) := by decide +kernel
theorem d_T_longestFree_29 : decode b_T_longestFree 29 = .ok (.istore_n 2, 1) := by decide +kernel
theorem d_T_longestFree_30 : decode b_T_longestFree 30 = .ok (.iload_n 1, 1) := by decide +kernel
theorem d_T_longestFree_31 : decode b_T_longestFree 31 = .ok (.iload_n 2, 1) := by decide +kernel
theorem d_T_longestFree_32 : decode b_T_longestFree 32 = .ok (.invokestatic 28, 3) := by decide +kernel
theorem d_T_longestFree_35 : decode b_T_longestFree 35 = .ok (.istore_n 1, 1) := by decide +kernel
theorem d_T_longestFree_36 : decode b_T_longestFree 36 = .ok (.iinc 3 1, 3) := by decide +kernel
theorem d_T_longestFree_39 : decode b_T_longestFree 39 = .ok (.goto (-33), 3) := by decide +kernel
theorem d_T_longestFree_42 : decode b_T_longestFree 42 = .ok (.iload_n 1, 1) := by decide +kernel
theorem d_T_longestFree_43 : decode b_T_longestFree 43 = .ok (.ireturn, 1) := by decide +kernel
abbrev r_T_longestFree : Room := ⟨1, 0, 0, 22⟩
def f_T_longestFree_29 (K6 : Mem → Int32 → Int32 → Int32 → Option (Int32 × Mem)) (σ : Mem) (x1 : Int32) (x3 : Int32) (s0 : Int32) : Option (Int32 × Mem) :=
  gbi (mmax x1 s0) fun y1 =>
  K6 σ y1 s0 (x3 + 1)
set_option maxRecDepth 100000 in
theorem m_T_longestFree_29 {κ : GC} {Γ : GA} (hX : Gx κ Γ 4 b_T_longestFree "PaneScreen$Store" r_T_longestFree (some .int)) (K6 : Mem → Int32 → Int32 → Int32 → Option (Int32 × Mem)) (hK6 : ∀ (σ : Mem) (x1 : Int32) (x2 : Int32) (x3 : Int32), GG κ Γ 4 (gQ gqi κ Γ r_T_longestFree) 0 0 σ [some (.ref (Γ.2.1 5)), some (.int x1), some (.int x2), some (.int x3)] 6 [] (K6 σ x1 x2 x3)) (σ : Mem) (x1 : Int32) (x3 : Int32) (s0 : Int32) : GG κ Γ 4 (gQ gqi κ Γ r_T_longestFree) 0 0 σ [some (.ref (Γ.2.1 5)), some (.int x1), none, some (.int x3)] 29 [.int s0] (f_T_longestFree_29 K6 σ x1 x3 s0) := by
  unfold f_T_longestFree_29
  refine g_istore_n hX 2 [_, _, _, _] d_T_longestFree_29 (n := 30) rfl rfl (by decide) rfl ?_
  refine g_iload_n hX 1 d_T_longestFree_30 (n := 31) rfl rfl rfl ?_
  refine g_iload_n hX 2 d_T_longestFree_31 (n := 32) rfl rfl rfl ?_
  refine g_mmax hX gm_T_28 gms_max gmi gmc_max d_T_longestFree_32 (n := 35) rfl (by decide) (Nat.le_of_ble_eq_true rfl) (by decide) (by decide) ?_
  refine g_top (fun y1 => ?_)
  refine g_istore_n hX 1 [_, _, _, _] d_T_longestFree_35 (n := 36) rfl rfl (by decide) rfl ?_
  refine g_iinc hX 1 _ [_, _, _, _] d_T_longestFree_36 (n := 39) rfl rfl k_iconst_1 rfl (by decide) rfl ?_
  refine g_goto hX 6 d_T_longestFree_39 rfl ?_
  exact (hK6 σ y1 s0 (x3 + 1))
def f_T_longestFree_6B (K6 : Mem → Int32 → Int32 → Int32 → Option (Int32 × Mem)) (σ : Mem) (x1 : Int32) (x2 : Int32) (x3 : Int32) : Option (Int32 × Mem) :=
  if 400 ≤ x3 then
    some (x1, σ)
  else
    if gin x3 400 = true then
      if (σ 8 x3.toNatClampNeg) = 0 then
        f_T_longestFree_29 K6 σ x1 x3 (x2 + 1)
      else
        f_T_longestFree_29 K6 σ x1 x3 0
    else none
set_option maxRecDepth 100000 in
theorem m_T_longestFree_6B {κ : GC} {Γ : GA} (hX : Gx κ Γ 4 b_T_longestFree "PaneScreen$Store" r_T_longestFree (some .int)) (K6 : Mem → Int32 → Int32 → Int32 → Option (Int32 × Mem)) (hK6 : ∀ (σ : Mem) (x1 : Int32) (x2 : Int32) (x3 : Int32), GG κ Γ 4 (gQ gqi κ Γ r_T_longestFree) 0 0 σ [some (.ref (Γ.2.1 5)), some (.int x1), some (.int x2), some (.int x3)] 6 [] (K6 σ x1 x2 x3)) (σ : Mem) (x1 : Int32) (x2 : Int32) (x3 : Int32) : GG κ Γ 4 (gQ gqi κ Γ r_T_longestFree) 0 0 σ [some (.ref (Γ.2.1 5)), some (.int x1), some (.int x2), some (.int x3)] 6 [] (f_T_longestFree_6B K6 σ x1 x2 x3) := by
  unfold f_T_longestFree_6B
  refine g_iload_n hX 3 d_T_longestFree_6 (n := 7) rfl rfl rfl ?_
  refine g_sipush hX 400 d_T_longestFree_7 (n := 10) rfl k_sipush_400 ?_
  refine g_icmp_ge hX 42 d_T_longestFree_10 (n := 13) rfl rfl ?_ ?_
  · refine g_iload_n hX 1 d_T_longestFree_42 (n := 43) rfl rfl rfl ?_
    exact g_iret hX d_T_longestFree_43 (by decide) (by decide)
  · refine g_aload_n hX 0 d_T_longestFree_13 (n := 14) rfl rfl rfl ?_
    refine g_geta hX 8 gf_T_18 d_T_longestFree_14 (n := 17) rfl sh_5 rfl ?_
    refine g_iload_n hX 3 d_T_longestFree_17 (n := 18) rfl rfl rfl ?_
    refine g_zald hX d_T_longestFree_18 (n := 19) rfl sh_8 ?_
    refine g_if_eq hX 26 d_T_longestFree_19 (n := 22) rfl rfl ?_ ?_
    · refine g_iload_n hX 2 d_T_longestFree_26 (n := 27) rfl rfl rfl ?_
      refine g_iconst hX 1 d_T_longestFree_27 (n := 28) rfl k_iconst_1 ?_
      refine g_iadd hX d_T_longestFree_28 (n := 29) rfl ?_
      exact (g_sub (lw := [some (.ref (Γ.2.1 5)), some (.int x1), none, some (.int x3)]) (And.intro rfl (And.intro rfl (And.intro rfl (True.intro)))) (m_T_longestFree_29 hX K6 hK6 σ x1 x3 (x2 + 1)))
    · refine g_iconst hX 0 d_T_longestFree_22 (n := 23) rfl k_iconst_0 ?_
      refine g_goto hX 29 d_T_longestFree_23 rfl ?_
      exact (g_sub (lw := [some (.ref (Γ.2.1 5)), some (.int x1), none, some (.int x3)]) (And.intro rfl (And.intro rfl (And.intro rfl (True.intro)))) (m_T_longestFree_29 hX K6 hK6 σ x1 x3 0))
def f_T_longestFree_6 (n : Nat) : Mem → Int32 → Int32 → Int32 → Option (Int32 × Mem) := gfix (fun _ _ _ _ => none) (fun K6 => f_T_longestFree_6B K6) n
theorem m_T_longestFree_6 {κ : GC} {Γ : GA} (hX : Gx κ Γ 4 b_T_longestFree "PaneScreen$Store" r_T_longestFree (some .int)) (n : Nat) : ∀ (σ : Mem) (x1 : Int32) (x2 : Int32) (x3 : Int32), GG κ Γ 4 (gQ gqi κ Γ r_T_longestFree) 0 0 σ [some (.ref (Γ.2.1 5)), some (.int x1), some (.int x2), some (.int x3)] 6 [] (f_T_longestFree_6 n σ x1 x2 x3) := by
  induction n with
  | zero => intros; exact g_none
  | succ n ih => intro σ x1 x2 x3; exact m_T_longestFree_6B hX (f_T_longestFree_6 n) ih σ x1 x2 x3
def f_T_longestFree_0 (σ : Mem) : Option (Int32 × Mem) :=
  f_T_longestFree_6 gN σ 0 0 0
set_option maxRecDepth 100000 in
theorem m_T_longestFree_0 {κ : GC} {Γ : GA} (hX : Gx κ Γ 4 b_T_longestFree "PaneScreen$Store" r_T_longestFree (some .int)) (σ : Mem) : GG κ Γ 4 (gQ gqi κ Γ r_T_longestFree) 0 0 σ [some (.ref (Γ.2.1 5)), none, none, none] 0 [] (f_T_longestFree_0 σ) := by
  unfold f_T_longestFree_0
  refine g_iconst hX 0 d_T_longestFree_0 (n := 1) rfl k_iconst_0 ?_
  refine g_istore_n hX 1 [_, _, _, _] d_T_longestFree_1 (n := 2) rfl rfl (by decide) rfl ?_
  refine g_iconst hX 0 d_T_longestFree_2 (n := 3) rfl k_iconst_0 ?_
  refine g_istore_n hX 2 [_, _, _, _] d_T_longestFree_3 (n := 4) rfl rfl (by decide) rfl ?_
  refine g_iconst hX 0 d_T_longestFree_4 (n := 5) rfl k_iconst_0 ?_
  refine g_istore_n hX 3 [_, _, _, _] d_T_longestFree_5 (n := 6) rfl rfl (by decide) rfl ?_
  exact (m_T_longestFree_6 hX gN σ 0 0 0)
def f_T_longestFree (σ : Mem) : Option (Int32 × Mem) := f_T_longestFree_0 σ
theorem c_T_longestFree (l : Launch) (Γ : GA) (σ : Mem) : gM gqi l y_T_longestFree b_T_longestFree 4 (some .int) r_T_longestFree [.ref (Γ.2.1 5)] Γ σ (f_T_longestFree σ) :=
  gM.of [some (.ref (Γ.2.1 5)), none, none, none] (by decide) (Nat.le_of_ble_eq_true rfl) rfl rfl (fun κ hX _ => m_T_longestFree_0 hX σ)
/-! S_figure -/
theorem d_S_figure_0 : decode b_S_figure 0 = .ok (.iload_n 1, 1) := by decide +kernel
theorem d_S_figure_1 : decode b_S_figure 1 = .ok (.tableswitch 117 0 8 #[51, 56, 64, 72, 80, 88, 96, 104, 112], 51) := by decide +kernel
theorem d_S_figure_52 : decode b_S_figure 52 = .ok (.aload_n 0, 1) := by decide +kernel
theorem d_S_figure_53 : decode b_S_figure 53 = .ok (.getfield 48, 3) := by decide +kernel
theorem d_S_figure_56 : decode b_S_figure 56 = .ok (.ireturn, 1) := by decide +kernel
theorem d_S_figure_57 : decode b_S_figure 57 = .ok (.aload_n 0, 1) := by decide +kernel
theorem d_S_figure_58 : decode b_S_figure 58 = .ok (.getfield 23, 3) := by decide +kernel
theorem d_S_figure_61 : decode b_S_figure 61 = .ok (.getfield 220, 3) := by decide +kernel
theorem d_S_figure_64 : decode b_S_figure 64 = .ok (.ireturn, 1) := by decide +kernel
theorem d_S_figure_65 : decode b_S_figure 65 = .ok (.aload_n 0, 1) := by decide +kernel
theorem d_S_figure_66 : decode b_S_figure 66 = .ok (.getfield 23, 3) := by decide +kernel
theorem d_S_figure_69 : decode b_S_figure 69 = .ok (.invokevirtual 116, 3) := by decide +kernel
theorem d_S_figure_72 : decode b_S_figure 72 = .ok (.ireturn, 1) := by decide +kernel
theorem d_S_figure_73 : decode b_S_figure 73 = .ok (.aload_n 0, 1) := by decide +kernel
theorem d_S_figure_74 : decode b_S_figure 74 = .ok (.getfield 30, 3) := by decide +kernel
theorem d_S_figure_77 : decode b_S_figure 77 = .ok (.invokevirtual 221, 3) := by decide +kernel
theorem d_S_figure_80 : decode b_S_figure 80 = .ok (.ireturn, 1) := by decide +kernel
theorem d_S_figure_81 : decode b_S_figure 81 = .ok (.aload_n 0, 1) := by decide +kernel
theorem d_S_figure_82 : decode b_S_figure 82 = .ok (.getfield 30, 3) := by decide +kernel
theorem d_S_figure_85 : decode b_S_figure 85 = .ok (.invokevirtual 224, 3) := by decide +kernel
theorem d_S_figure_88 : decode b_S_figure 88 = .ok (.ireturn, 1) := by decide +kernel
theorem d_S_figure_89 : decode b_S_figure 89 = .ok (.aload_n 0, 1) := by decide +kernel
theorem d_S_figure_90 : decode b_S_figure 90 = .ok (.getfield 37, 3) := by decide +kernel
theorem d_S_figure_93 : decode b_S_figure 93 = .ok (.getfield 227, 3) := by decide +kernel
theorem d_S_figure_96 : decode b_S_figure 96 = .ok (.ireturn, 1) := by decide +kernel
theorem d_S_figure_97 : decode b_S_figure 97 = .ok (.aload_n 0, 1) := by decide +kernel
theorem d_S_figure_98 : decode b_S_figure 98 = .ok (.getfield 44, 3) := by decide +kernel
theorem d_S_figure_101 : decode b_S_figure 101 = .ok (.getfield 196, 3) := by decide +kernel
theorem d_S_figure_104 : decode b_S_figure 104 = .ok (.ireturn, 1) := by decide +kernel
theorem d_S_figure_105 : decode b_S_figure 105 = .ok (.aload_n 0, 1) := by decide +kernel
theorem d_S_figure_106 : decode b_S_figure 106 = .ok (.getfield 44, 3) := by decide +kernel
theorem d_S_figure_109 : decode b_S_figure 109 = .ok (.getfield 228, 3) := by decide +kernel
theorem d_S_figure_112 : decode b_S_figure 112 = .ok (.ireturn, 1) := by decide +kernel
theorem d_S_figure_113 : decode b_S_figure 113 = .ok (.aload_n 0, 1) := by decide +kernel
theorem d_S_figure_114 : decode b_S_figure 114 = .ok (.getfield 52, 3) := by decide +kernel
theorem d_S_figure_117 : decode b_S_figure 117 = .ok (.ireturn, 1) := by decide +kernel
theorem d_S_figure_118 : decode b_S_figure 118 = .ok (.new 217, 3) := by decide +kernel
theorem d_S_figure_121 : decode b_S_figure 121 = .ok (.dup, 1) := by decide +kernel
theorem d_S_figure_122 : decode b_S_figure 122 = .ok (.invokespecial 219, 3) := by decide +kernel
theorem d_S_figure_125 : decode b_S_figure 125 = .ok (.athrow, 1) := by decide +kernel
abbrev r_S_figure : Room := ⟨6, 1, 6, 81⟩
def f_S_figure_0 (σ : Mem) (x1 : Int32) : Option ((Int32 ⊕ String) × Mem) :=
  gsw x1 0 [
    (52, (
      some (.inl (σ 0 6), σ)
    )),
    (57, (
      some (.inl (σ 3 1), σ)
    )),
    (65, (
      gb (f_O_first σ) fun r2 u1 =>
      some (.inl r2, u1)
    )),
    (73, (
      gb (f_T_freeCells σ) fun r4 u3 =>
      some (.inl r4, u3)
    )),
    (81, (
      gb (f_T_longestFree σ) fun r6 u5 =>
      some (.inl r6, u5)
    )),
    (89, (
      some (.inl (σ 9 4), σ)
    )),
    (97, (
      some (.inl (σ 14 4), σ)
    )),
    (105, (
      some (.inl (σ 14 5), σ)
    )),
    (113, (
      some (.inl (σ 0 7), σ)
    ))
  ] (
    some (.inr "java/lang/IllegalArgumentException", σ)
  )
set_option maxRecDepth 100000 in
theorem m_S_figure_0 {κ : GC} {Γ : GA} (hX : Gx κ Γ 2 b_S_figure "PaneScreen" r_S_figure (some .int)) (hE : ∀ x ∈ κ.2.2.2.2.2.2.2.2.2.exceptionTable.toList, False) (hT : κ.2.1.stackTraces = false) (σ : Mem) (x1 : Int32) : GG κ Γ 2 (gQX gxi κ Γ r_S_figure) 0 0 σ [some (.ref (Γ.2.1 0)), some (.int x1)] 0 [] (f_S_figure_0 σ x1) := by
  unfold f_S_figure_0
  refine g_iload_n hX 1 d_S_figure_0 (n := 1) rfl rfl rfl ?_
  refine g_table hX [(52, _), (57, _), (65, _), (73, _), (81, _), (89, _), (97, _), (105, _), (113, _)] 118 d_S_figure_1 rfl rfl rfl ?_ ⟨?_, ?_, ?_, ?_, ?_, ?_, ?_, ?_, ?_, True.intro⟩
  · exact g_throw hX hE hT gt_S_217 d_S_figure_118 d_S_figure_121 d_S_figure_122 d_S_figure_125 (by decide) (by decide) (by decide) (by decide)
  · refine g_aload_n hX 0 d_S_figure_52 (n := 53) rfl rfl rfl ?_
    refine g_geti hX gf_S_48 d_S_figure_53 (n := 56) rfl sh_0 rfl ?_
    exact g_ixret hX d_S_figure_56 (by decide) (by decide)
  · refine g_aload_n hX 0 d_S_figure_57 (n := 58) rfl rfl rfl ?_
    refine g_geta hX 3 gf_S_23 d_S_figure_58 (n := 61) rfl sh_0 rfl ?_
    refine g_geti hX gf_S_220 d_S_figure_61 (n := 64) rfl sh_3 rfl ?_
    exact g_ixret hX d_S_figure_64 (by decide) (by decide)
  · refine g_aload_n hX 0 d_S_figure_65 (n := 66) rfl rfl rfl ?_
    refine g_geta hX 3 gf_S_23 d_S_figure_66 (n := 69) rfl sh_0 rfl ?_
    refine g_cVi hX [] rfl 0 0 (c_O_first _ Γ σ) gw_S_116 rfl sh_3 rfl d_S_figure_69 (n := 72) rfl ⟨by decide, by decide⟩ ⟨by decide, by decide⟩ (Nat.le_of_ble_eq_true rfl) rfl rfl (fun r2 u1 => ?_)
    exact g_ixret hX d_S_figure_72 (by decide) (by decide)
  · refine g_aload_n hX 0 d_S_figure_73 (n := 74) rfl rfl rfl ?_
    refine g_geta hX 5 gf_S_30 d_S_figure_74 (n := 77) rfl sh_0 rfl ?_
    refine g_cVi hX [] rfl 0 0 (c_T_freeCells _ Γ σ) gw_S_221 rfl sh_5 rfl d_S_figure_77 (n := 80) rfl ⟨by decide, by decide⟩ ⟨by decide, by decide⟩ (Nat.le_of_ble_eq_true rfl) rfl rfl (fun r4 u3 => ?_)
    exact g_ixret hX d_S_figure_80 (by decide) (by decide)
  · refine g_aload_n hX 0 d_S_figure_81 (n := 82) rfl rfl rfl ?_
    refine g_geta hX 5 gf_S_30 d_S_figure_82 (n := 85) rfl sh_0 rfl ?_
    refine g_cVi hX [] rfl 0 0 (c_T_longestFree _ Γ σ) gw_S_224 rfl sh_5 rfl d_S_figure_85 (n := 88) rfl ⟨by decide, by decide⟩ ⟨by decide, by decide⟩ (Nat.le_of_ble_eq_true rfl) rfl rfl (fun r6 u5 => ?_)
    exact g_ixret hX d_S_figure_88 (by decide) (by decide)
  · refine g_aload_n hX 0 d_S_figure_89 (n := 90) rfl rfl rfl ?_
    refine g_geta hX 9 gf_S_37 d_S_figure_90 (n := 93) rfl sh_0 rfl ?_
    refine g_geti hX gf_S_227 d_S_figure_93 (n := 96) rfl sh_9 rfl ?_
    exact g_ixret hX d_S_figure_96 (by decide) (by decide)
  · refine g_aload_n hX 0 d_S_figure_97 (n := 98) rfl rfl rfl ?_
    refine g_geta hX 14 gf_S_44 d_S_figure_98 (n := 101) rfl sh_0 rfl ?_
    refine g_geti hX gf_S_196 d_S_figure_101 (n := 104) rfl sh_14 rfl ?_
    exact g_ixret hX d_S_figure_104 (by decide) (by decide)
  · refine g_aload_n hX 0 d_S_figure_105 (n := 106) rfl rfl rfl ?_
    refine g_geta hX 14 gf_S_44 d_S_figure_106 (n := 109) rfl sh_0 rfl ?_
    refine g_geti hX gf_S_228 d_S_figure_109 (n := 112) rfl sh_14 rfl ?_
    exact g_ixret hX d_S_figure_112 (by decide) (by decide)
  · refine g_aload_n hX 0 d_S_figure_113 (n := 114) rfl rfl rfl ?_
    refine g_geti hX gf_S_52 d_S_figure_114 (n := 117) rfl sh_0 rfl ?_
    exact g_ixret hX d_S_figure_117 (by decide) (by decide)
def f_S_figure (x1 : Int32) (σ : Mem) : Option ((Int32 ⊕ String) × Mem) := f_S_figure_0 σ x1
theorem c_S_figure (l : Launch) (hT : l.stackTraces = false) (Γ : GA) (x1 : Int32) (σ : Mem) : gX gxi l y_S_figure b_S_figure 2 (some .int) r_S_figure [.ref (Γ.2.1 0), .int x1] Γ σ (f_S_figure x1 σ) :=
  gX.of [some (.ref (Γ.2.1 0)), some (.int x1)] (by decide) (Nat.le_of_ble_eq_true rfl) rfl rfl (fun κ hX hκ hE => m_S_figure_0 hX hE (by rw [hκ]; exact hT) σ x1)
/-! M_thrown -/
theorem d_M_thrown_0 : decode b_M_thrown 0 = .ok (.aload_n 0, 1) := by decide +kernel
theorem d_M_thrown_1 : decode b_M_thrown 1 = .ok (.getfield 75, 3) := by decide +kernel
theorem d_M_thrown_4 : decode b_M_thrown 4 = .ok (.ireturn, 1) := by decide +kernel
abbrev r_M_thrown : Room := ⟨0, 0, 0, 0⟩
def f_M_thrown_0 (σ : Mem) : Option (Int32 × Mem) :=
  some ((σ 19 0), σ)
set_option maxRecDepth 100000 in
theorem m_M_thrown_0 {κ : GC} {Γ : GA} (hX : Gx κ Γ 1 b_M_thrown "PaneScreenModel" r_M_thrown (some .int)) (σ : Mem) : GG κ Γ 1 (gQ gqi κ Γ r_M_thrown) 0 0 σ [some (.ref (Γ.2.1 19))] 0 [] (f_M_thrown_0 σ) := by
  unfold f_M_thrown_0
  refine g_aload_n hX 0 d_M_thrown_0 (n := 1) rfl rfl rfl ?_
  refine g_geti hX gf_M_75 d_M_thrown_1 (n := 4) rfl sh_19 rfl ?_
  exact g_iret hX d_M_thrown_4 (by decide) (by decide)
def f_M_thrown (σ : Mem) : Option (Int32 × Mem) := f_M_thrown_0 σ
theorem c_M_thrown (l : Launch) (Γ : GA) (σ : Mem) : gM gqi l y_M_thrown b_M_thrown 1 (some .int) r_M_thrown [.ref (Γ.2.1 19)] Γ σ (f_M_thrown σ) :=
  gM.of [some (.ref (Γ.2.1 19))] (by decide) (Nat.le_of_ble_eq_true rfl) rfl rfl (fun κ hX _ => m_M_thrown_0 hX σ)
/-! M_near -/
theorem d_M_near_0 : decode b_M_near 0 = .ok (.iload_n 0, 1) := by decide +kernel
theorem d_M_near_1 : decode b_M_near 1 = .ok (.bipush (-50), 2) := by decide +kernel
theorem d_M_near_3 : decode b_M_near 3 = .ok (.if_icmp .lt 13, 3) := by decide +kernel
theorem d_M_near_6 : decode b_M_near 6 = .ok (.iload_n 0, 1) := by decide +kernel
theorem d_M_near_7 : decode b_M_near 7 = .ok (.bipush 50, 2) := by decide +kernel
theorem d_M_near_9 : decode b_M_near 9 = .ok (.if_icmp .gt 7, 3) := by decide +kernel
theorem d_M_near_12 : decode b_M_near 12 = .ok (.iconst 1, 1) := by decide +kernel
theorem d_M_near_13 : decode b_M_near 13 = .ok (.goto 4, 3) := by decide +kernel
theorem d_M_near_16 : decode b_M_near 16 = .ok (.iconst 0, 1) := by decide +kernel
theorem d_M_near_17 : decode b_M_near 17 = .ok (.ireturn, 1) := by decide +kernel
abbrev r_M_near : Room := ⟨0, 0, 0, 0⟩
def f_M_near_17 (σ : Mem) (s0 : Int32) : Option (Int32 × Mem) :=
  if s0 &&& 1 = s0 then some (s0, σ) else none
set_option maxRecDepth 100000 in
theorem m_M_near_17 {κ : GC} {Γ : GA} (hX : Gx κ Γ 1 b_M_near "PaneScreenModel" r_M_near (some .boolean)) (σ : Mem) (s0 : Int32) : GG κ Γ 1 (gQ gqi κ Γ r_M_near) 0 0 σ [none] 17 [.int s0] (f_M_near_17 σ s0) := by
  unfold f_M_near_17
  exact g_iretZ hX d_M_near_17 (by decide) (by decide)
def f_M_near_16 (σ : Mem) : Option (Int32 × Mem) :=
  f_M_near_17 σ 0
set_option maxRecDepth 100000 in
theorem m_M_near_16 {κ : GC} {Γ : GA} (hX : Gx κ Γ 1 b_M_near "PaneScreenModel" r_M_near (some .boolean)) (σ : Mem) : GG κ Γ 1 (gQ gqi κ Γ r_M_near) 0 0 σ [none] 16 [] (f_M_near_16 σ) := by
  unfold f_M_near_16
  refine g_iconst hX 0 d_M_near_16 (n := 17) rfl k_iconst_0 ?_
  exact (m_M_near_17 hX σ 0)
def f_M_near_0 (σ : Mem) (x0 : Int32) : Option (Int32 × Mem) :=
  if x0 < (-50) then
    f_M_near_16 σ
  else
    if 50 < x0 then
      f_M_near_16 σ
    else
      f_M_near_17 σ 1
set_option maxRecDepth 100000 in
theorem m_M_near_0 {κ : GC} {Γ : GA} (hX : Gx κ Γ 1 b_M_near "PaneScreenModel" r_M_near (some .boolean)) (σ : Mem) (x0 : Int32) : GG κ Γ 1 (gQ gqi κ Γ r_M_near) 0 0 σ [some (.int x0)] 0 [] (f_M_near_0 σ x0) := by
  unfold f_M_near_0
  refine g_iload_n hX 0 d_M_near_0 (n := 1) rfl rfl rfl ?_
  refine g_bipush hX (-50) d_M_near_1 (n := 3) rfl k_bipush_m50 ?_
  refine g_icmp_lt hX 16 d_M_near_3 (n := 6) rfl rfl ?_ ?_
  · exact (g_sub (lw := [none]) (True.intro) (m_M_near_16 hX σ))
  · refine g_iload_n hX 0 d_M_near_6 (n := 7) rfl rfl rfl ?_
    refine g_bipush hX 50 d_M_near_7 (n := 9) rfl k_bipush_50 ?_
    refine g_icmp_gt hX 16 d_M_near_9 (n := 12) rfl rfl ?_ ?_
    · exact (g_sub (lw := [none]) (True.intro) (m_M_near_16 hX σ))
    · refine g_iconst hX 1 d_M_near_12 (n := 13) rfl k_iconst_1 ?_
      refine g_goto hX 17 d_M_near_13 rfl ?_
      exact (g_sub (lw := [none]) (True.intro) (m_M_near_17 hX σ 1))
def f_M_near (x0 : Int32) (σ : Mem) : Option (Int32 × Mem) := f_M_near_0 σ x0
theorem c_M_near (l : Launch) (Γ : GA) (x0 : Int32) (σ : Mem) : gM gqi l y_M_near b_M_near 1 (some .boolean) r_M_near [.int x0] Γ σ (f_M_near x0 σ) :=
  gM.of [some (.int x0)] (by decide) (Nat.le_of_ble_eq_true rfl) rfl rfl (fun κ hX _ => m_M_near_0 hX σ x0)
/-! M_isOpen -/
theorem d_M_isOpen_0 : decode b_M_isOpen 0 = .ok (.iload_n 1, 1) := by decide +kernel
theorem d_M_isOpen_1 : decode b_M_isOpen 1 = .ok (.ifCond .lt 22, 3) := by decide +kernel
theorem d_M_isOpen_4 : decode b_M_isOpen 4 = .ok (.iload_n 1, 1) := by decide +kernel
theorem d_M_isOpen_5 : decode b_M_isOpen 5 = .ok (.bipush 8, 2) := by decide +kernel
theorem d_M_isOpen_7 : decode b_M_isOpen 7 = .ok (.if_icmp .ge 16, 3) := by decide +kernel
theorem d_M_isOpen_10 : decode b_M_isOpen 10 = .ok (.aload_n 0, 1) := by decide +kernel
theorem d_M_isOpen_11 : decode b_M_isOpen 11 = .ok (.getfield 13, 3) := by decide +kernel
theorem d_M_isOpen_14 : decode b_M_isOpen 14 = .ok (.iload_n 1, 1) := by decide +kernel
theorem d_M_isOpen_15 : decode b_M_isOpen 15 = .ok (.baload, 1) := by decide +kernel
theorem d_M_isOpen_16 : decode b_M_isOpen 16 = .ok (.ifCond .eq 7, 3) := by decide +kernel
theorem d_M_isOpen_19 : decode b_M_isOpen 19 = .ok (.iconst 1, 1) := by decide +kernel
theorem d_M_isOpen_20 : decode b_M_isOpen 20 = .ok (.goto 4, 3) := by decide +kernel
theorem d_M_isOpen_23 : decode b_M_isOpen 23 = .ok (.iconst 0, 1) := by decide +kernel
theorem d_M_isOpen_24 : decode b_M_isOpen 24 = .ok (.ireturn, 1) := by decide +kernel
abbrev r_M_isOpen : Room := ⟨0, 0, 0, 0⟩
def f_M_isOpen_24 (σ : Mem) (s0 : Int32) : Option (Int32 × Mem) :=
  if s0 &&& 1 = s0 then some (s0, σ) else none
set_option maxRecDepth 100000 in
theorem m_M_isOpen_24 {κ : GC} {Γ : GA} (hX : Gx κ Γ 2 b_M_isOpen "PaneScreenModel" r_M_isOpen (some .boolean)) (σ : Mem) (s0 : Int32) : GG κ Γ 2 (gQ gqi κ Γ r_M_isOpen) 0 0 σ [none, none] 24 [.int s0] (f_M_isOpen_24 σ s0) := by
  unfold f_M_isOpen_24
  exact g_iretZ hX d_M_isOpen_24 (by decide) (by decide)
def f_M_isOpen_23 (σ : Mem) : Option (Int32 × Mem) :=
  f_M_isOpen_24 σ 0
set_option maxRecDepth 100000 in
theorem m_M_isOpen_23 {κ : GC} {Γ : GA} (hX : Gx κ Γ 2 b_M_isOpen "PaneScreenModel" r_M_isOpen (some .boolean)) (σ : Mem) : GG κ Γ 2 (gQ gqi κ Γ r_M_isOpen) 0 0 σ [none, none] 23 [] (f_M_isOpen_23 σ) := by
  unfold f_M_isOpen_23
  refine g_iconst hX 0 d_M_isOpen_23 (n := 24) rfl k_iconst_0 ?_
  exact (m_M_isOpen_24 hX σ 0)
def f_M_isOpen_0 (σ : Mem) (x1 : Int32) : Option (Int32 × Mem) :=
  if x1 < 0 then
    f_M_isOpen_23 σ
  else
    if 8 ≤ x1 then
      f_M_isOpen_23 σ
    else
      if gin x1 8 = true then
        if (σ 21 x1.toNatClampNeg) = 0 then
          f_M_isOpen_23 σ
        else
          f_M_isOpen_24 σ 1
      else none
set_option maxRecDepth 100000 in
theorem m_M_isOpen_0 {κ : GC} {Γ : GA} (hX : Gx κ Γ 2 b_M_isOpen "PaneScreenModel" r_M_isOpen (some .boolean)) (σ : Mem) (x1 : Int32) : GG κ Γ 2 (gQ gqi κ Γ r_M_isOpen) 0 0 σ [some (.ref (Γ.2.1 19)), some (.int x1)] 0 [] (f_M_isOpen_0 σ x1) := by
  unfold f_M_isOpen_0
  refine g_iload_n hX 1 d_M_isOpen_0 (n := 1) rfl rfl rfl ?_
  refine g_if_lt hX 23 d_M_isOpen_1 (n := 4) rfl rfl ?_ ?_
  · exact (g_sub (lw := [none, none]) (True.intro) (m_M_isOpen_23 hX σ))
  · refine g_iload_n hX 1 d_M_isOpen_4 (n := 5) rfl rfl rfl ?_
    refine g_bipush hX 8 d_M_isOpen_5 (n := 7) rfl k_bipush_8 ?_
    refine g_icmp_ge hX 23 d_M_isOpen_7 (n := 10) rfl rfl ?_ ?_
    · exact (g_sub (lw := [none, none]) (True.intro) (m_M_isOpen_23 hX σ))
    · refine g_aload_n hX 0 d_M_isOpen_10 (n := 11) rfl rfl rfl ?_
      refine g_geta hX 21 gf_M_13 d_M_isOpen_11 (n := 14) rfl sh_19 rfl ?_
      refine g_iload_n hX 1 d_M_isOpen_14 (n := 15) rfl rfl rfl ?_
      refine g_zald hX d_M_isOpen_15 (n := 16) rfl sh_21 ?_
      refine g_if_eq hX 23 d_M_isOpen_16 (n := 19) rfl rfl ?_ ?_
      · exact (g_sub (lw := [none, none]) (True.intro) (m_M_isOpen_23 hX σ))
      · refine g_iconst hX 1 d_M_isOpen_19 (n := 20) rfl k_iconst_1 ?_
        refine g_goto hX 24 d_M_isOpen_20 rfl ?_
        exact (g_sub (lw := [none, none]) (True.intro) (m_M_isOpen_24 hX σ 1))
def f_M_isOpen (x1 : Int32) (σ : Mem) : Option (Int32 × Mem) := f_M_isOpen_0 σ x1
theorem c_M_isOpen (l : Launch) (Γ : GA) (x1 : Int32) (σ : Mem) : gM gqi l y_M_isOpen b_M_isOpen 2 (some .boolean) r_M_isOpen [.ref (Γ.2.1 19), .int x1] Γ σ (f_M_isOpen x1 σ) :=
  gM.of [some (.ref (Γ.2.1 19)), some (.int x1)] (by decide) (Nat.le_of_ble_eq_true rfl) rfl rfl (fun κ hX _ => m_M_isOpen_0 hX σ x1)
/-! M_onScreen -/
theorem d_M_onScreen_0 : decode b_M_onScreen 0 = .ok (.iload_n 0, 1) := by decide +kernel
theorem d_M_onScreen_1 : decode b_M_onScreen 1 = .ok (.ifCond .lt 23, 3) := by decide +kernel
theorem d_M_onScreen_4 : decode b_M_onScreen 4 = .ok (.iload_n 0, 1) := by decide +kernel
theorem d_M_onScreen_5 : decode b_M_onScreen 5 = .ok (.bipush 24, 2) := by decide +kernel
theorem d_M_onScreen_7 : decode b_M_onScreen 7 = .ok (.if_icmp .ge 17, 3) := by decide +kernel
theorem d_M_onScreen_10 : decode b_M_onScreen 10 = .ok (.iload_n 1, 1) := by decide +kernel
theorem d_M_onScreen_11 : decode b_M_onScreen 11 = .ok (.ifCond .lt 13, 3) := by decide +kernel
theorem d_M_onScreen_14 : decode b_M_onScreen 14 = .ok (.iload_n 1, 1) := by decide +kernel
theorem d_M_onScreen_15 : decode b_M_onScreen 15 = .ok (.bipush 16, 2) := by decide +kernel
theorem d_M_onScreen_17 : decode b_M_onScreen 17 = .ok (.if_icmp .ge 7, 3) := by decide +kernel
theorem d_M_onScreen_20 : decode b_M_onScreen 20 = .ok (.iconst 1, 1) := by decide +kernel
theorem d_M_onScreen_21 : decode b_M_onScreen 21 = .ok (.goto 4, 3) := by decide +kernel
theorem d_M_onScreen_24 : decode b_M_onScreen 24 = .ok (.iconst 0, 1) := by decide +kernel
theorem d_M_onScreen_25 : decode b_M_onScreen 25 = .ok (.ireturn, 1) := by decide +kernel
abbrev r_M_onScreen : Room := ⟨0, 0, 0, 0⟩
def f_M_onScreen_25 (σ : Mem) (s0 : Int32) : Option (Int32 × Mem) :=
  if s0 &&& 1 = s0 then some (s0, σ) else none
set_option maxRecDepth 100000 in
theorem m_M_onScreen_25 {κ : GC} {Γ : GA} (hX : Gx κ Γ 2 b_M_onScreen "PaneScreenModel" r_M_onScreen (some .boolean)) (σ : Mem) (s0 : Int32) : GG κ Γ 2 (gQ gqi κ Γ r_M_onScreen) 0 0 σ [none, none] 25 [.int s0] (f_M_onScreen_25 σ s0) := by
  unfold f_M_onScreen_25
  exact g_iretZ hX d_M_onScreen_25 (by decide) (by decide)
def f_M_onScreen_24 (σ : Mem) : Option (Int32 × Mem) :=
  f_M_onScreen_25 σ 0
set_option maxRecDepth 100000 in
theorem m_M_onScreen_24 {κ : GC} {Γ : GA} (hX : Gx κ Γ 2 b_M_onScreen "PaneScreenModel" r_M_onScreen (some .boolean)) (σ : Mem) : GG κ Γ 2 (gQ gqi κ Γ r_M_onScreen) 0 0 σ [none, none] 24 [] (f_M_onScreen_24 σ) := by
  unfold f_M_onScreen_24
  refine g_iconst hX 0 d_M_onScreen_24 (n := 25) rfl k_iconst_0 ?_
  exact (m_M_onScreen_25 hX σ 0)
def f_M_onScreen_0 (σ : Mem) (x0 : Int32) (x1 : Int32) : Option (Int32 × Mem) :=
  if x0 < 0 then
    f_M_onScreen_24 σ
  else
    if 24 ≤ x0 then
      f_M_onScreen_24 σ
    else
      if x1 < 0 then
        f_M_onScreen_24 σ
      else
        if 16 ≤ x1 then
          f_M_onScreen_24 σ
        else
          f_M_onScreen_25 σ 1
set_option maxRecDepth 100000 in
theorem m_M_onScreen_0 {κ : GC} {Γ : GA} (hX : Gx κ Γ 2 b_M_onScreen "PaneScreenModel" r_M_onScreen (some .boolean)) (σ : Mem) (x0 : Int32) (x1 : Int32) : GG κ Γ 2 (gQ gqi κ Γ r_M_onScreen) 0 0 σ [some (.int x0), some (.int x1)] 0 [] (f_M_onScreen_0 σ x0 x1) := by
  unfold f_M_onScreen_0
  refine g_iload_n hX 0 d_M_onScreen_0 (n := 1) rfl rfl rfl ?_
  refine g_if_lt hX 24 d_M_onScreen_1 (n := 4) rfl rfl ?_ ?_
  · exact (g_sub (lw := [none, none]) (True.intro) (m_M_onScreen_24 hX σ))
  · refine g_iload_n hX 0 d_M_onScreen_4 (n := 5) rfl rfl rfl ?_
    refine g_bipush hX 24 d_M_onScreen_5 (n := 7) rfl k_bipush_24 ?_
    refine g_icmp_ge hX 24 d_M_onScreen_7 (n := 10) rfl rfl ?_ ?_
    · exact (g_sub (lw := [none, none]) (True.intro) (m_M_onScreen_24 hX σ))
    · refine g_iload_n hX 1 d_M_onScreen_10 (n := 11) rfl rfl rfl ?_
      refine g_if_lt hX 24 d_M_onScreen_11 (n := 14) rfl rfl ?_ ?_
      · exact (g_sub (lw := [none, none]) (True.intro) (m_M_onScreen_24 hX σ))
      · refine g_iload_n hX 1 d_M_onScreen_14 (n := 15) rfl rfl rfl ?_
        refine g_bipush hX 16 d_M_onScreen_15 (n := 17) rfl k_bipush_16 ?_
        refine g_icmp_ge hX 24 d_M_onScreen_17 (n := 20) rfl rfl ?_ ?_
        · exact (g_sub (lw := [none, none]) (True.intro) (m_M_onScreen_24 hX σ))
        · refine g_iconst hX 1 d_M_onScreen_20 (n := 21) rfl k_iconst_1 ?_
          refine g_goto hX 25 d_M_onScreen_21 rfl ?_
          exact (g_sub (lw := [none, none]) (True.intro) (m_M_onScreen_25 hX σ 1))
def f_M_onScreen (x0 : Int32) (x1 : Int32) (σ : Mem) : Option (Int32 × Mem) := f_M_onScreen_0 σ x0 x1
theorem c_M_onScreen (l : Launch) (Γ : GA) (x0 : Int32) (x1 : Int32) (σ : Mem) : gM gqi l y_M_onScreen b_M_onScreen 2 (some .boolean) r_M_onScreen [.int x0, .int x1] Γ σ (f_M_onScreen x0 x1 σ) :=
  gM.of [some (.int x0), some (.int x1)] (by decide) (Nat.le_of_ble_eq_true rfl) rfl rfl (fun κ hX _ => m_M_onScreen_0 hX σ x0 x1)
/-! M_inPicture -/
theorem d_M_inPicture_0 : decode b_M_inPicture 0 = .ok (.iload_n 2, 1) := by decide +kernel
theorem d_M_inPicture_1 : decode b_M_inPicture 1 = .ok (.ifCond .lt 31, 3) := by decide +kernel
theorem d_M_inPicture_4 : decode b_M_inPicture 4 = .ok (.iload_n 2, 1) := by decide +kernel
theorem d_M_inPicture_5 : decode b_M_inPicture 5 = .ok (.aload_n 0, 1) := by decide +kernel
theorem d_M_inPicture_6 : decode b_M_inPicture 6 = .ok (.getfield 23, 3) := by decide +kernel
theorem d_M_inPicture_9 : decode b_M_inPicture 9 = .ok (.iload_n 1, 1) := by decide +kernel
theorem d_M_inPicture_10 : decode b_M_inPicture 10 = .ok (.iaload, 1) := by decide +kernel
theorem d_M_inPicture_11 : decode b_M_inPicture 11 = .ok (.if_icmp .ge 21, 3) := by decide +kernel
theorem d_M_inPicture_14 : decode b_M_inPicture 14 = .ok (.iload_n 3, 1) := by decide +kernel
theorem d_M_inPicture_15 : decode b_M_inPicture 15 = .ok (.ifCond .lt 17, 3) := by decide +kernel
theorem d_M_inPicture_18 : decode b_M_inPicture 18 = .ok (.iload_n 3, 1) := by decide +kernel
theorem d_M_inPicture_19 : decode b_M_inPicture 19 = .ok (.aload_n 0, 1) := by decide +kernel
theorem d_M_inPicture_20 : decode b_M_inPicture 20 = .ok (.getfield 26, 3) := by decide +kernel
theorem d_M_inPicture_23 : decode b_M_inPicture 23 = .ok (.iload_n 1, 1) := by decide +kernel
theorem d_M_inPicture_24 : decode b_M_inPicture 24 = .ok (.iaload, 1) := by decide +kernel
theorem d_M_inPicture_25 : decode b_M_inPicture 25 = .ok (.if_icmp .ge 7, 3) := by decide +kernel
theorem d_M_inPicture_28 : decode b_M_inPicture 28 = .ok (.iconst 1, 1) := by decide +kernel
theorem d_M_inPicture_29 : decode b_M_inPicture 29 = .ok (.goto 4, 3) := by decide +kernel
theorem d_M_inPicture_32 : decode b_M_inPicture 32 = .ok (.iconst 0, 1) := by decide +kernel
theorem d_M_inPicture_33 : decode b_M_inPicture 33 = .ok (.ireturn, 1) := by decide +kernel
abbrev r_M_inPicture : Room := ⟨0, 0, 0, 0⟩
def f_M_inPicture_33 (σ : Mem) (s0 : Int32) : Option (Int32 × Mem) :=
  if s0 &&& 1 = s0 then some (s0, σ) else none
set_option maxRecDepth 100000 in
theorem m_M_inPicture_33 {κ : GC} {Γ : GA} (hX : Gx κ Γ 4 b_M_inPicture "PaneScreenModel" r_M_inPicture (some .boolean)) (σ : Mem) (s0 : Int32) : GG κ Γ 4 (gQ gqi κ Γ r_M_inPicture) 0 0 σ [none, none, none, none] 33 [.int s0] (f_M_inPicture_33 σ s0) := by
  unfold f_M_inPicture_33
  exact g_iretZ hX d_M_inPicture_33 (by decide) (by decide)
def f_M_inPicture_32 (σ : Mem) : Option (Int32 × Mem) :=
  f_M_inPicture_33 σ 0
set_option maxRecDepth 100000 in
theorem m_M_inPicture_32 {κ : GC} {Γ : GA} (hX : Gx κ Γ 4 b_M_inPicture "PaneScreenModel" r_M_inPicture (some .boolean)) (σ : Mem) : GG κ Γ 4 (gQ gqi κ Γ r_M_inPicture) 0 0 σ [none, none, none, none] 32 [] (f_M_inPicture_32 σ) := by
  unfold f_M_inPicture_32
  refine g_iconst hX 0 d_M_inPicture_32 (n := 33) rfl k_iconst_0 ?_
  exact (m_M_inPicture_33 hX σ 0)
def f_M_inPicture_0 (σ : Mem) (x1 : Int32) (x2 : Int32) (x3 : Int32) : Option (Int32 × Mem) :=
  if x2 < 0 then
    f_M_inPicture_32 σ
  else
    if gin x1 8 = true then
      if (σ 24 x1.toNatClampNeg) ≤ x2 then
        f_M_inPicture_32 σ
      else
        if x3 < 0 then
          f_M_inPicture_32 σ
        else
          if gin x1 8 = true then
            if (σ 25 x1.toNatClampNeg) ≤ x3 then
              f_M_inPicture_32 σ
            else
              f_M_inPicture_33 σ 1
          else none
    else none
set_option maxRecDepth 100000 in
theorem m_M_inPicture_0 {κ : GC} {Γ : GA} (hX : Gx κ Γ 4 b_M_inPicture "PaneScreenModel" r_M_inPicture (some .boolean)) (σ : Mem) (x1 : Int32) (x2 : Int32) (x3 : Int32) : GG κ Γ 4 (gQ gqi κ Γ r_M_inPicture) 0 0 σ [some (.ref (Γ.2.1 19)), some (.int x1), some (.int x2), some (.int x3)] 0 [] (f_M_inPicture_0 σ x1 x2 x3) := by
  unfold f_M_inPicture_0
  refine g_iload_n hX 2 d_M_inPicture_0 (n := 1) rfl rfl rfl ?_
  refine g_if_lt hX 32 d_M_inPicture_1 (n := 4) rfl rfl ?_ ?_
  · exact (g_sub (lw := [none, none, none, none]) (True.intro) (m_M_inPicture_32 hX σ))
  · refine g_iload_n hX 2 d_M_inPicture_4 (n := 5) rfl rfl rfl ?_
    refine g_aload_n hX 0 d_M_inPicture_5 (n := 6) rfl rfl rfl ?_
    refine g_geta hX 24 gf_M_23 d_M_inPicture_6 (n := 9) rfl sh_19 rfl ?_
    refine g_iload_n hX 1 d_M_inPicture_9 (n := 10) rfl rfl rfl ?_
    refine g_iald hX d_M_inPicture_10 (n := 11) rfl sh_24 ?_
    refine g_icmp_ge hX 32 d_M_inPicture_11 (n := 14) rfl rfl ?_ ?_
    · exact (g_sub (lw := [none, none, none, none]) (True.intro) (m_M_inPicture_32 hX σ))
    · refine g_iload_n hX 3 d_M_inPicture_14 (n := 15) rfl rfl rfl ?_
      refine g_if_lt hX 32 d_M_inPicture_15 (n := 18) rfl rfl ?_ ?_
      · exact (g_sub (lw := [none, none, none, none]) (True.intro) (m_M_inPicture_32 hX σ))
      · refine g_iload_n hX 3 d_M_inPicture_18 (n := 19) rfl rfl rfl ?_
        refine g_aload_n hX 0 d_M_inPicture_19 (n := 20) rfl rfl rfl ?_
        refine g_geta hX 25 gf_M_26 d_M_inPicture_20 (n := 23) rfl sh_19 rfl ?_
        refine g_iload_n hX 1 d_M_inPicture_23 (n := 24) rfl rfl rfl ?_
        refine g_iald hX d_M_inPicture_24 (n := 25) rfl sh_25 ?_
        refine g_icmp_ge hX 32 d_M_inPicture_25 (n := 28) rfl rfl ?_ ?_
        · exact (g_sub (lw := [none, none, none, none]) (True.intro) (m_M_inPicture_32 hX σ))
        · refine g_iconst hX 1 d_M_inPicture_28 (n := 29) rfl k_iconst_1 ?_
          refine g_goto hX 33 d_M_inPicture_29 rfl ?_
          exact (g_sub (lw := [none, none, none, none]) (True.intro) (m_M_inPicture_33 hX σ 1))
def f_M_inPicture (x1 : Int32) (x2 : Int32) (x3 : Int32) (σ : Mem) : Option (Int32 × Mem) := f_M_inPicture_0 σ x1 x2 x3
theorem c_M_inPicture (l : Launch) (Γ : GA) (x1 : Int32) (x2 : Int32) (x3 : Int32) (σ : Mem) : gM gqi l y_M_inPicture b_M_inPicture 4 (some .boolean) r_M_inPicture [.ref (Γ.2.1 19), .int x1, .int x2, .int x3] Γ σ (f_M_inPicture x1 x2 x3 σ) :=
  gM.of [some (.ref (Γ.2.1 19)), some (.int x1), some (.int x2), some (.int x3)] (by decide) (Nat.le_of_ble_eq_true rfl) rfl rfl (fun κ hX _ => m_M_inPicture_0 hX σ x1 x2 x3)
