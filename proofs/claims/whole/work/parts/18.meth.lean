/-! M_pen -/
theorem d_M_pen_0 : decode b_M_pen 0 = .ok (.aload_n 0, 1) := by decide +kernel
theorem d_M_pen_1 : decode b_M_pen 1 = .ok (.aload_n 0, 1) := by decide +kernel
theorem d_M_pen_2 : decode b_M_pen 2 = .ok (.iload_n 1, 1) := by decide +kernel
theorem d_M_pen_3 : decode b_M_pen 3 = .ok (.invokevirtual 127, 3) := by decide +kernel
theorem d_M_pen_6 : decode b_M_pen 6 = .ok (.ifCond .ne 7, 3) := by decide +kernel
theorem d_M_pen_9 : decode b_M_pen 9 = .ok (.iconst 1, 1) := by decide +kernel
theorem d_M_pen_10 : decode b_M_pen 10 = .ok (.goto 22, 3) := by decide +kernel
theorem d_M_pen_13 : decode b_M_pen 13 = .ok (.iload_n 2, 1) := by decide +kernel
theorem d_M_pen_14 : decode b_M_pen 14 = .ok (.invokestatic 109, 3) := by decide +kernel
theorem d_M_pen_17 : decode b_M_pen 17 = .ok (.ifCond .eq 10, 3) := by decide +kernel
theorem d_M_pen_20 : decode b_M_pen 20 = .ok (.iload_n 3, 1) := by decide +kernel
theorem d_M_pen_21 : decode b_M_pen 21 = .ok (.invokestatic 109, 3) := by decide +kernel
theorem d_M_pen_24 : decode b_M_pen 24 = .ok (.ifCond .ne 7, 3) := by decide +kernel
theorem d_M_pen_27 : decode b_M_pen 27 = .ok (.iconst 2, 1) := by decide +kernel
theorem d_M_pen_28 : decode b_M_pen 28 = .ok (.goto 4, 3) := by decide +kernel
theorem d_M_pen_31 : decode b_M_pen 31 = .ok (.iconst 0, 1) := by decide +kernel
theorem d_M_pen_32 : decode b_M_pen 32 = .ok (.putfield 75, 3) := by decide +kernel
theorem d_M_pen_35 : decode b_M_pen 35 = .ok (.aload_n 0, 1) := by decide +kernel
theorem d_M_pen_36 : decode b_M_pen 36 = .ok (.getfield 75, 3) := by decide +kernel
theorem d_M_pen_39 : decode b_M_pen 39 = .ok (.ifCond .ne 17, 3) := by decide +kernel
theorem d_M_pen_42 : decode b_M_pen 42 = .ok (.aload_n 0, 1) := by decide +kernel
theorem d_M_pen_43 : decode b_M_pen 43 = .ok (.getfield 29, 3) := by decide +kernel
theorem d_M_pen_46 : decode b_M_pen 46 = .ok (.iload_n 1, 1) := by decide +kernel
theorem d_M_pen_47 : decode b_M_pen 47 = .ok (.iload_n 2, 1) := by decide +kernel
theorem d_M_pen_48 : decode b_M_pen 48 = .ok (.iastore, 1) := by decide +kernel
theorem d_M_pen_49 : decode b_M_pen 49 = .ok (.aload_n 0, 1) := by decide +kernel
theorem d_M_pen_50 : decode b_M_pen 50 = .ok (.getfield 32, 3) := by decide +kernel
theorem d_M_pen_53 : decode b_M_pen 53 = .ok (.iload_n 1, 1) := by decide +kernel
theorem d_M_pen_54 : decode b_M_pen 54 = .ok (.iload_n 3, 1) := by decide +kernel
theorem d_M_pen_55 : decode b_M_pen 55 = .ok (.iastore, 1) := by decide +kernel
theorem d_M_pen_56 : decode b_M_pen 56 = .ok (.return_, 1) := by decide +kernel
abbrev r_M_pen : Room := ⟨1, 0, 0, 21⟩
def f_M_pen_56 (σ : Mem) : Option Mem :=
  some σ
set_option maxRecDepth 100000 in
theorem m_M_pen_56 {κ : GC} {Γ : GA} (hX : Gx κ Γ 4 b_M_pen "PaneScreenModel" r_M_pen none) (σ : Mem) : GG κ Γ 4 (gQ gqv κ Γ r_M_pen) 0 0 σ [none, none, none, none] 56 [] (f_M_pen_56 σ) := by
  unfold f_M_pen_56
  exact g_vret hX d_M_pen_56 (by decide) (by decide)
def f_M_pen_32 (σ : Mem) (x1 : Int32) (x2 : Int32) (x3 : Int32) (s0 : Int32) : Option Mem :=
  gbm (m2 σ 19 0 s0) fun u1 =>
  if (u1 19 0) = 0 then
    if gin x1 8 = true then
      gbm (m2 u1 26 x1.toNatClampNeg x2) fun u2 =>
      if gin x1 8 = true then
        gbm (m2 u2 27 x1.toNatClampNeg x3) fun u3 =>
        f_M_pen_56 u3
      else none
    else none
  else
    f_M_pen_56 u1
set_option maxRecDepth 100000 in
theorem m_M_pen_32 {κ : GC} {Γ : GA} (hX : Gx κ Γ 4 b_M_pen "PaneScreenModel" r_M_pen none) (σ : Mem) (x1 : Int32) (x2 : Int32) (x3 : Int32) (s0 : Int32) : GG κ Γ 4 (gQ gqv κ Γ r_M_pen) 0 0 σ [some (.ref (Γ.2.1 19)), some (.int x1), some (.int x2), some (.int x3)] 32 [.int s0, .ref (Γ.2.1 19)] (f_M_pen_32 σ x1 x2 x3 s0) := by
  unfold f_M_pen_32
  refine g_puti hX gp_M_75 d_M_pen_32 (n := 35) rfl sh_19 rfl ?_
  refine g_mem (fun u1 => ?_)
  refine g_aload_n hX 0 d_M_pen_35 (n := 36) rfl rfl rfl ?_
  refine g_geti hX gf_M_75 d_M_pen_36 (n := 39) rfl sh_19 rfl ?_
  refine g_if_ne hX 56 d_M_pen_39 (n := 42) rfl rfl ?_ ?_
  · exact (g_sub (lw := [none, none, none, none]) (True.intro) (m_M_pen_56 hX u1))
  · refine g_aload_n hX 0 d_M_pen_42 (n := 43) rfl rfl rfl ?_
    refine g_geta hX 26 gf_M_29 d_M_pen_43 (n := 46) rfl sh_19 rfl ?_
    refine g_iload_n hX 1 d_M_pen_46 (n := 47) rfl rfl rfl ?_
    refine g_iload_n hX 2 d_M_pen_47 (n := 48) rfl rfl rfl ?_
    refine g_iast hX d_M_pen_48 (n := 49) rfl sh_26 ?_
    refine g_mem (fun u2 => ?_)
    refine g_aload_n hX 0 d_M_pen_49 (n := 50) rfl rfl rfl ?_
    refine g_geta hX 27 gf_M_32 d_M_pen_50 (n := 53) rfl sh_19 rfl ?_
    refine g_iload_n hX 1 d_M_pen_53 (n := 54) rfl rfl rfl ?_
    refine g_iload_n hX 3 d_M_pen_54 (n := 55) rfl rfl rfl ?_
    refine g_iast hX d_M_pen_55 (n := 56) rfl sh_27 ?_
    refine g_mem (fun u3 => ?_)
    exact (g_sub (lw := [none, none, none, none]) (True.intro) (m_M_pen_56 hX u3))
def f_M_pen_27 (σ : Mem) (x1 : Int32) (x2 : Int32) (x3 : Int32) : Option Mem :=
  f_M_pen_32 σ x1 x2 x3 2
set_option maxRecDepth 100000 in
theorem m_M_pen_27 {κ : GC} {Γ : GA} (hX : Gx κ Γ 4 b_M_pen "PaneScreenModel" r_M_pen none) (σ : Mem) (x1 : Int32) (x2 : Int32) (x3 : Int32) : GG κ Γ 4 (gQ gqv κ Γ r_M_pen) 0 0 σ [some (.ref (Γ.2.1 19)), some (.int x1), some (.int x2), some (.int x3)] 27 [.ref (Γ.2.1 19)] (f_M_pen_27 σ x1 x2 x3) := by
  unfold f_M_pen_27
  refine g_iconst hX 2 d_M_pen_27 (n := 28) rfl k_iconst_2 ?_
  refine g_goto hX 32 d_M_pen_28 rfl ?_
  exact (m_M_pen_32 hX σ x1 x2 x3 2)
def f_M_pen_0 (σ : Mem) (x1 : Int32) (x2 : Int32) (x3 : Int32) : Option Mem :=
  gb (f_M_isOpen x1 σ) fun r2 u1 =>
  if r2 = 0 then
    f_M_pen_32 u1 x1 x2 x3 1
  else
    gb (f_M_near x2 u1) fun r4 u3 =>
    if r4 = 0 then
      f_M_pen_27 u3 x1 x2 x3
    else
      gb (f_M_near x3 u3) fun r6 u5 =>
      if r6 = 0 then
        f_M_pen_27 u5 x1 x2 x3
      else
        f_M_pen_32 u5 x1 x2 x3 0
set_option maxRecDepth 100000 in
theorem m_M_pen_0 {κ : GC} {Γ : GA} (hX : Gx κ Γ 4 b_M_pen "PaneScreenModel" r_M_pen none) (σ : Mem) (x1 : Int32) (x2 : Int32) (x3 : Int32) : GG κ Γ 4 (gQ gqv κ Γ r_M_pen) 0 0 σ [some (.ref (Γ.2.1 19)), some (.int x1), some (.int x2), some (.int x3)] 0 [] (f_M_pen_0 σ x1 x2 x3) := by
  unfold f_M_pen_0
  refine g_aload_n hX 0 d_M_pen_0 (n := 1) rfl rfl rfl ?_
  refine g_aload_n hX 0 d_M_pen_1 (n := 2) rfl rfl rfl ?_
  refine g_iload_n hX 1 d_M_pen_2 (n := 3) rfl rfl rfl ?_
  refine g_cVi hX [_] rfl 0 0 (c_M_isOpen _ Γ x1 σ) gw_M_127 rfl sh_19 rfl d_M_pen_3 (n := 6) rfl ⟨by decide, by decide⟩ ⟨by decide, by decide⟩ (Nat.le_of_ble_eq_true rfl) rfl rfl (fun r2 u1 => ?_)
  refine g_if_ne hX 13 d_M_pen_6 (n := 9) rfl rfl ?_ ?_
  · refine g_iload_n hX 2 d_M_pen_13 (n := 14) rfl rfl rfl ?_
    refine g_cSi hX [_] rfl 0 0 (c_M_near _ Γ x2 u1) gw_M_109 rfl d_M_pen_14 (n := 17) rfl ⟨by decide, by decide⟩ ⟨by decide, by decide⟩ (Nat.le_of_ble_eq_true rfl) rfl rfl (fun r4 u3 => ?_)
    refine g_if_eq hX 27 d_M_pen_17 (n := 20) rfl rfl ?_ ?_
    · exact (m_M_pen_27 hX u3 x1 x2 x3)
    · refine g_iload_n hX 3 d_M_pen_20 (n := 21) rfl rfl rfl ?_
      refine g_cSi hX [_] rfl 0 0 (c_M_near _ Γ x3 u3) gw_M_109 rfl d_M_pen_21 (n := 24) rfl ⟨by decide, by decide⟩ ⟨by decide, by decide⟩ (Nat.le_of_ble_eq_true rfl) rfl rfl (fun r6 u5 => ?_)
      refine g_if_ne hX 31 d_M_pen_24 (n := 27) rfl rfl ?_ ?_
      · refine g_iconst hX 0 d_M_pen_31 (n := 32) rfl k_iconst_0 ?_
        exact (m_M_pen_32 hX u5 x1 x2 x3 0)
      · exact (m_M_pen_27 hX u5 x1 x2 x3)
  · refine g_iconst hX 1 d_M_pen_9 (n := 10) rfl k_iconst_1 ?_
    refine g_goto hX 32 d_M_pen_10 rfl ?_
    exact (m_M_pen_32 hX u1 x1 x2 x3 1)
def f_M_pen (x1 : Int32) (x2 : Int32) (x3 : Int32) (σ : Mem) : Option Mem := f_M_pen_0 σ x1 x2 x3
theorem c_M_pen (l : Launch) (Γ : GA) (x1 : Int32) (x2 : Int32) (x3 : Int32) (σ : Mem) : gM gqv l y_M_pen b_M_pen 4 none r_M_pen [.ref (Γ.2.1 19), .int x1, .int x2, .int x3] Γ σ (f_M_pen x1 x2 x3 σ) :=
  gM.of [some (.ref (Γ.2.1 19)), some (.int x1), some (.int x2), some (.int x3)] (by decide) (Nat.le_of_ble_eq_true rfl) rfl rfl (fun κ hX _ => m_M_pen_0 hX σ x1 x2 x3)
/-! M_div -/
theorem d_M_div_0 : decode b_M_div 0 = .ok (.iload_n 0, 1) := by decide +kernel
theorem d_M_div_1 : decode b_M_div 1 = .ok (.iload_n 1, 1) := by decide +kernel
theorem d_M_div_2 : decode b_M_div 2 = .ok (.idiv, 1) := by decide +kernel
theorem d_M_div_3 : decode b_M_div 3 = .ok (.istore_n 2, 1) := by decide +kernel
theorem d_M_div_4 : decode b_M_div 4 = .ok (.iload_n 2, 1) := by decide +kernel
theorem d_M_div_5 : decode b_M_div 5 = .ok (.iload_n 1, 1) := by decide +kernel
theorem d_M_div_6 : decode b_M_div 6 = .ok (.imul, 1) := by decide +kernel
theorem d_M_div_7 : decode b_M_div 7 = .ok (.iload_n 0, 1) := by decide +kernel
theorem d_M_div_8 : decode b_M_div 8 = .ok (.if_icmp .le 9, 3) := by decide +kernel
theorem d_M_div_11 : decode b_M_div 11 = .ok (.iload_n 2, 1) := by decide +kernel
theorem d_M_div_12 : decode b_M_div 12 = .ok (.iconst 1, 1) := by decide +kernel
theorem d_M_div_13 : decode b_M_div 13 = .ok (.isub, 1) := by decide +kernel
theorem d_M_div_14 : decode b_M_div 14 = .ok (.goto 4, 3) := by decide +kernel
theorem d_M_div_17 : decode b_M_div 17 = .ok (.iload_n 2, 1) := by decide +kernel
theorem d_M_div_18 : decode b_M_div 18 = .ok (.ireturn, 1) := by decide +kernel
abbrev r_M_div : Room := ⟨0, 0, 0, 0⟩
def f_M_div_18 (σ : Mem) (s0 : Int32) : Option (Int32 × Mem) :=
  some (s0, σ)
set_option maxRecDepth 100000 in
theorem m_M_div_18 {κ : GC} {Γ : GA} (hX : Gx κ Γ 3 b_M_div "PaneScreenModel" r_M_div (some .int)) (σ : Mem) (s0 : Int32) : GG κ Γ 3 (gQ gqi κ Γ r_M_div) 0 0 σ [none, none, none] 18 [.int s0] (f_M_div_18 σ s0) := by
  unfold f_M_div_18
  exact g_iret hX d_M_div_18 (by decide) (by decide)
def f_M_div_0 (σ : Mem) (x0 : Int32) (x1 : Int32) : Option (Int32 × Mem) :=
  if x1 = 0 then none else
  gbi (x0 / x1) fun y1 =>
  if (y1 * x1) ≤ x0 then
    f_M_div_18 σ y1
  else
    f_M_div_18 σ (y1 - 1)
set_option maxRecDepth 100000 in
theorem m_M_div_0 {κ : GC} {Γ : GA} (hX : Gx κ Γ 3 b_M_div "PaneScreenModel" r_M_div (some .int)) (σ : Mem) (x0 : Int32) (x1 : Int32) : GG κ Γ 3 (gQ gqi κ Γ r_M_div) 0 0 σ [some (.int x0), some (.int x1), none] 0 [] (f_M_div_0 σ x0 x1) := by
  unfold f_M_div_0
  refine g_iload_n hX 0 d_M_div_0 (n := 1) rfl rfl rfl ?_
  refine g_iload_n hX 1 d_M_div_1 (n := 2) rfl rfl rfl ?_
  refine g_idiv hX d_M_div_2 (n := 3) rfl ?_
  refine g_top (fun y1 => ?_)
  refine g_istore_n hX 2 [_, _, _] d_M_div_3 (n := 4) rfl rfl (by decide) rfl ?_
  refine g_iload_n hX 2 d_M_div_4 (n := 5) rfl rfl rfl ?_
  refine g_iload_n hX 1 d_M_div_5 (n := 6) rfl rfl rfl ?_
  refine g_imul hX d_M_div_6 (n := 7) rfl ?_
  refine g_iload_n hX 0 d_M_div_7 (n := 8) rfl rfl rfl ?_
  refine g_icmp_le hX 17 d_M_div_8 (n := 11) rfl rfl ?_ ?_
  · refine g_iload_n hX 2 d_M_div_17 (n := 18) rfl rfl rfl ?_
    exact (g_sub (lw := [none, none, none]) (True.intro) (m_M_div_18 hX σ y1))
  · refine g_iload_n hX 2 d_M_div_11 (n := 12) rfl rfl rfl ?_
    refine g_iconst hX 1 d_M_div_12 (n := 13) rfl k_iconst_1 ?_
    refine g_isub hX d_M_div_13 (n := 14) rfl ?_
    refine g_goto hX 18 d_M_div_14 rfl ?_
    exact (g_sub (lw := [none, none, none]) (True.intro) (m_M_div_18 hX σ (y1 - 1)))
def f_M_div (x0 : Int32) (x1 : Int32) (σ : Mem) : Option (Int32 × Mem) := f_M_div_0 σ x0 x1
theorem c_M_div (l : Launch) (Γ : GA) (x0 : Int32) (x1 : Int32) (σ : Mem) : gM gqi l y_M_div b_M_div 3 (some .int) r_M_div [.int x0, .int x1] Γ σ (f_M_div x0 x1 σ) :=
  gM.of [some (.int x0), some (.int x1), none] (by decide) (Nat.le_of_ble_eq_true rfl) rfl rfl (fun κ hX _ => m_M_div_0 hX σ x0 x1)
/-! M_line -/
theorem d_M_line_0 : decode b_M_line 0 = .ok (.aload_n 0, 1) := by decide +kernel
theorem d_M_line_1 : decode b_M_line 1 = .ok (.aload_n 0, 1) := by decide +kernel
theorem d_M_line_2 : decode b_M_line 2 = .ok (.iload_n 1, 1) := by decide +kernel
theorem d_M_line_3 : decode b_M_line 3 = .ok (.invokevirtual 127, 3) := by decide +kernel
theorem d_M_line_6 : decode b_M_line 6 = .ok (.ifCond .ne 7, 3) := by decide +kernel
theorem d_M_line_9 : decode b_M_line 9 = .ok (.iconst 1, 1) := by decide +kernel
theorem d_M_line_10 : decode b_M_line 10 = .ok (.goto 30, 3) := by decide +kernel
theorem d_M_line_13 : decode b_M_line 13 = .ok (.iload_n 2, 1) := by decide +kernel
theorem d_M_line_14 : decode b_M_line 14 = .ok (.invokestatic 109, 3) := by decide +kernel
theorem d_M_line_17 : decode b_M_line 17 = .ok (.ifCond .eq 18, 3) := by decide +kernel
theorem d_M_line_20 : decode b_M_line 20 = .ok (.iload_n 3, 1) := by decide +kernel
theorem d_M_line_21 : decode b_M_line 21 = .ok (.invokestatic 109, 3) := by decide +kernel
theorem d_M_line_24 : decode b_M_line 24 = .ok (.ifCond .eq 11, 3) := by decide +kernel
theorem d_M_line_27 : decode b_M_line 27 = .ok (.iload 4, 2) := by decide +kernel
theorem d_M_line_29 : decode b_M_line 29 = .ok (.invokestatic 147, 3) := by decide +kernel
theorem d_M_line_32 : decode b_M_line 32 = .ok (.ifCond .ne 7, 3) := by decide +kernel
theorem d_M_line_35 : decode b_M_line 35 = .ok (.iconst 2, 1) := by decide +kernel
theorem d_M_line_36 : decode b_M_line 36 = .ok (.goto 4, 3) := by decide +kernel
theorem d_M_line_39 : decode b_M_line 39 = .ok (.iconst 0, 1) := by decide +kernel
theorem d_M_line_40 : decode b_M_line 40 = .ok (.putfield 75, 3) := by decide +kernel
theorem d_M_line_43 : decode b_M_line 43 = .ok (.aload_n 0, 1) := by decide +kernel
theorem d_M_line_44 : decode b_M_line 44 = .ok (.getfield 75, 3) := by decide +kernel
theorem d_M_line_47 : decode b_M_line 47 = .ok (.ifCond .le 5, 3) := by decide +kernel
theorem d_M_line_50 : decode b_M_line 50 = .ok (.iconst 0, 1) := by decide +kernel
theorem d_M_line_51 : decode b_M_line 51 = .ok (.ireturn, 1) := by decide +kernel
theorem d_M_line_52 : decode b_M_line 52 = .ok (.iload_n 2, 1) := by decide +kernel
theorem d_M_line_53 : decode b_M_line 53 = .ok (.aload_n 0, 1) := by decide +kernel
theorem d_M_line_54 : decode b_M_line 54 = .ok (.getfield 29, 3) := by decide +kernel
theorem d_M_line_57 : decode b_M_line 57 = .ok (.iload_n 1, 1) := by decide +kernel
theorem d_M_line_58 : decode b_M_line 58 = .ok (.iaload, 1) := by decide +kernel
theorem d_M_line_59 : decode b_M_line 59 = .ok (.isub, 1) := by decide +kernel
theorem d_M_line_60 : decode b_M_line 60 = .ok (.istore 5, 2) := by decide +kernel
theorem d_M_line_62 : decode b_M_line 62 = .ok (.iload_n 3, 1) := by decide +kernel
theorem d_M_line_63 : decode b_M_line 63 = .ok (.aload_n 0, 1) := by decide +kernel
theorem d_M_line_64 : decode b_M_line 64 = .ok (.getfield 32, 3) := by decide +kernel
theorem d_M_line_67 : decode b_M_line 67 = .ok (.iload_n 1, 1) := by decide +kernel
theorem d_M_line_68 : decode b_M_line 68 = .ok (.iaload, 1) := by decide +kernel
theorem d_M_line_69 : decode b_M_line 69 = .ok (.isub, 1) := by decide +kernel
theorem d_M_line_70 : decode b_M_line 70 = .ok (.istore 6, 2) := by decide +kernel
theorem d_M_line_72 : decode b_M_line 72 = .ok (.iload 5, 2) := by decide +kernel
theorem d_M_line_74 : decode b_M_line 74 = .ok (.ifCond .ge 9, 3) := by decide +kernel
theorem d_M_line_77 : decode b_M_line 77 = .ok (.iload 5, 2) := by decide +kernel
theorem d_M_line_79 : decode b_M_line 79 = .ok (.ineg, 1) := by decide +kernel
theorem d_M_line_80 : decode b_M_line 80 = .ok (.goto 5, 3) := by decide +kernel
theorem d_M_line_83 : decode b_M_line 83 = .ok (.iload 5, 2) := by decide +kernel
theorem d_M_line_85 : decode b_M_line 85 = .ok (.istore 7, 2) := by decide +kernel
theorem d_M_line_87 : decode b_M_line 87 = .ok (.iload 6, 2) := by decide +kernel
theorem d_M_line_89 : decode b_M_line 89 = .ok (.ifCond .ge 9, 3) := by decide +kernel
theorem d_M_line_92 : decode b_M_line 92 = .ok (.iload 6, 2) := by decide +kernel
theorem d_M_line_94 : decode b_M_line 94 = .ok (.ineg, 1) := by decide +kernel
theorem d_M_line_95 : decode b_M_line 95 = .ok (.goto 5, 3) := by decide +kernel
theorem d_M_line_98 : decode b_M_line 98 = .ok (.iload 6, 2) := by decide +kernel
theorem d_M_line_100 : decode b_M_line 100 = .ok (.istore 8, 2) := by decide +kernel
theorem d_M_line_102 : decode b_M_line 102 = .ok (.iload 7, 2) := by decide +kernel
theorem d_M_line_104 : decode b_M_line 104 = .ok (.iload 8, 2) := by decide +kernel
theorem d_M_line_106 : decode b_M_line 106 = .ok (.if_icmp .le 8, 3) := by decide +kernel
theorem d_M_line_109 : decode b_M_line 109 = .ok (.iload 7, 2) := by decide +kernel
theorem d_M_line_111 : decode b_M_line 111 = .ok (.goto 5, 3) := by decide +kernel
theorem d_M_line_114 : decode b_M_line 114 = .ok (.iload 8, 2) := by decide +kernel
theorem d_M_line_116 : decode b_M_line 116 = .ok (.istore 8, 2) := by decide +kernel
theorem d_M_line_118 : decode b_M_line 118 = .ok (.iconst 0, 1) := by decide +kernel
theorem d_M_line_119 : decode b_M_line 119 = .ok (.istore 9, 2) := by decide +kernel
theorem d_M_line_121 : decode b_M_line 121 = .ok (.iconst 0, 1) := by decide +kernel
theorem d_M_line_122 : decode b_M_line 122 = .ok (.istore 10, 2) := by decide +kernel
theorem d_M_line_124 : decode b_M_line 124 = .ok (.iload 10, 2) := by decide +kernel
theorem d_M_line_126 : decode b_M_line 126 = .ok (.iload 8, 2) := by decide +kernel
theorem d_M_line_128 : decode b_M_line 128 = .ok (.if_icmp .gt 103, 3) := by decide +kernel
theorem d_M_line_131 : decode b_M_line 131 = .ok (.iload 8, 2) := by decide +kernel
theorem d_M_line_133 : decode b_M_line 133 = .ok (.ifCond .ne 7, 3) := by decide +kernel
theorem d_M_line_136 : decode b_M_line 136 = .ok (.iconst 0, 1) := by decide +kernel
theorem d_M_line_137 : decode b_M_line 137 = .ok (.goto 20, 3) := by decide +kernel
theorem d_M_line_140 : decode b_M_line 140 = .ok (.iconst 2, 1) := by decide +kernel
theorem d_M_line_141 : decode b_M_line 141 = .ok (.iload 10, 2) := by decide +kernel
theorem d_M_line_143 : decode b_M_line 143 = .ok (.imul, 1) := by decide +kernel
theorem d_M_line_144 : decode b_M_line 144 = .ok (.iload 5, 2) := by decide +kernel
theorem d_M_line_146 : decode b_M_line 146 = .ok (.imul, 1) := by decide +kernel
theorem d_M_line_147 : decode b_M_line 147 = .ok (.iload 8, 2) := by decide +kernel
theorem d_M_line_149 : decode b_M_line 149 = .ok (.iadd, 1) := by decide +kernel
theorem d_M_line_150 : decode b_M_line 150 = .ok (.iconst 2, 1) := by decide +kernel
theorem d_M_line_151 : decode b_M_line 151 = .ok (.iload 8, 2) := by decide +kernel
theorem d_M_line_153 : decode b_M_line 153 = .ok (.imul, 1) := by decide +kernel
theorem d_M_line_154 : decode b_M_line 154 = .ok (.invokestatic 157, 3) := by decide +kernel
theorem d_M_line_157 : decode b_M_line 157 = .ok (.istore 11, 2) := by decide +kernel
theorem d_M_line_159 : decode b_M_line 159 = .ok (.iload 8, 2) := by decide +kernel
theorem d_M_line_161 : decode b_M_line 161 = .ok (.ifCond .ne 7, 3) := by decide +kernel
theorem d_M_line_164 : decode b_M_line 164 = .ok (.iconst 0, 1) := by decide +kernel
theorem d_M_line_165 : decode b_M_line 165 = .ok (.goto 20, 3) := by decide +kernel
theorem d_M_line_168 : decode b_M_line 168 = .ok (.iconst 2, 1) := by decide +kernel
theorem d_M_line_169 : decode b_M_line 169 = .ok (.iload 10, 2) := by decide +kernel
theorem d_M_line_171 : decode b_M_line 171 = .ok (.imul, 1) := by decide +kernel
theorem d_M_line_172 : decode b_M_line 172 = .ok (.iload 6, 2) := by decide +kernel
theorem d_M_line_174 : decode b_M_line 174 = .ok (.imul, 1) := by decide +kernel
theorem d_M_line_175 : decode b_M_line 175 = .ok (.iload 8, 2) := by decide +kernel
theorem d_M_line_177 : decode b_M_line 177 = .ok (.iadd, 1) := by decide +kernel
theorem d_M_line_178 : decode b_M_line 178 = .ok (.iconst 2, 1) := by decide +kernel
theorem d_M_line_179 : decode b_M_line 179 = .ok (.iload 8, 2) := by decide +kernel
theorem d_M_line_181 : decode b_M_line 181 = .ok (.imul, 1) := by decide +kernel
theorem d_M_line_182 : decode b_M_line 182 = .ok (.invokestatic 157, 3) := by decide +kernel
theorem d_M_line_185 : decode b_M_line 185 = .ok (.istore 12, 2) := by decide +kernel
theorem d_M_line_187 : decode b_M_line 187 = .ok (.iload 9, 2) := by decide +kernel
theorem d_M_line_189 : decode b_M_line 189 = .ok (.aload_n 0, 1) := by decide +kernel
theorem d_M_line_190 : decode b_M_line 190 = .ok (.iload_n 1, 1) := by decide +kernel
theorem d_M_line_191 : decode b_M_line 191 = .ok (.aload_n 0, 1) := by decide +kernel
theorem d_M_line_192 : decode b_M_line 192 = .ok (.getfield 29, 3) := by decide +kernel
theorem d_M_line_195 : decode b_M_line 195 = .ok (.iload_n 1, 1) := by decide +kernel
theorem d_M_line_196 : decode b_M_line 196 = .ok (.iaload, 1) := by decide +kernel
theorem d_M_line_197 : decode b_M_line 197 = .ok (.iload 11, 2) := by decide +kernel
theorem d_M_line_199 : decode b_M_line 199 = .ok (.iadd, 1) := by decide +kernel
theorem d_M_line_200 : decode b_M_line 200 = .ok (.aload_n 0, 1) := by decide +kernel
theorem d_M_line_201 : decode b_M_line 201 = .ok (.getfield 32, 3) := by decide +kernel
theorem d_M_line_204 : decode b_M_line 204 = .ok (.iload_n 1, 1) := by decide +kernel
theorem d_M_line_205 : decode b_M_line 205 = .ok (.iaload, 1) := by decide +kernel
theorem d_M_line_206 : decode b_M_line 206 = .ok (.iload 12, 2) := by decide +kernel
theorem d_M_line_208 : decode b_M_line 208 = .ok (.iadd, 1) := by decide +kernel
theorem d_M_line_209 : decode b_M_line 209 = .ok (.iload 4, 2) := by decide +kernel
theorem d_M_line_211 : decode b_M_line 211 = .ok (.invokevirtual 150, 3) := by decide +kernel
theorem d_M_line_214 : decode b_M_line 214 = .ok (.ifCond .eq 7, 3) := by decide +kernel
theorem d_M_line_217 : decode b_M_line 217 = .ok (.iconst 1, 1) := by decide +kernel
theorem d_M_line_218 : decode b_M_line 218 = .ok (.goto 4, 3) := by decide +kernel
theorem d_M_line_221 : decode b_M_line 221 = .ok (.iconst 0, 1) := by decide +kernel
theorem d_M_line_222 : decode b_M_line 222 = .ok (.iadd, 1) := by decide +kernel
theorem d_M_line_223 : decode b_M_line 223 = .ok (.istore 9, 2) := by decide +kernel
theorem d_M_line_225 : decode b_M_line 225 = .ok (.iinc 10 1, 3) := by decide +kernel
theorem d_M_line_228 : decode b_M_line 228 = .ok (.goto (-104), 3) := by decide +kernel
theorem d_M_line_231 : decode b_M_line 231 = .ok (.aload_n 0, 1) := by decide +kernel
theorem d_M_line_232 : decode b_M_line 232 = .ok (.iload_n 1, 1) := by decide +kernel
theorem d_M_line_233 : decode b_M_line 233 = .ok (.invokevirtual 154, 3) := by decide +kernel
theorem d_M_line_236 : decode b_M_line 236 = .ok (.aload_n 0, 1) := by decide +kernel
theorem d_M_line_237 : decode b_M_line 237 = .ok (.getfield 29, 3) := by decide +kernel
theorem d_M_line_240 : decode b_M_line 240 = .ok (.iload_n 1, 1) := by decide +kernel
theorem d_M_line_241 : decode b_M_line 241 = .ok (.iload_n 2, 1) := by decide +kernel
theorem d_M_line_242 : decode b_M_line 242 = .ok (.iastore, 1) := by decide +kernel
theorem d_M_line_243 : decode b_M_line 243 = .ok (.aload_n 0, 1) := by decide +kernel
theorem d_M_line_244 : decode b_M_line 244 = .ok (.getfield 32, 3) := by decide +kernel
theorem d_M_line_247 : decode b_M_line 247 = .ok (.iload_n 1, 1) := by decide +kernel
theorem d_M_line_248 : decode b_M_line 248 = .ok (.iload_n 3, 1) := by decide +kernel
theorem d_M_line_249 : decode b_M_line 249 = .ok (.iastore, 1) := by decide +kernel
theorem d_M_line_250 : decode b_M_line 250 = .ok (.iload 9, 2) := by decide +kernel
theorem d_M_line_252 : decode b_M_line 252 = .ok (.ireturn, 1) := by decide +kernel
abbrev r_M_line : Room := ⟨2, 0, 0, 50⟩
def f_M_line_222 (K124 : Mem → Int32 → Int32 → Int32 → Int32 → Int32 → Int32 → Int32 → Int32 → Int32 → Option (Int32 × Mem)) (σ : Mem) (x1 : Int32) (x2 : Int32) (x3 : Int32) (x4 : Int32) (x5 : Int32) (x6 : Int32) (x8 : Int32) (x10 : Int32) (s0 : Int32) (s1 : Int32) : Option (Int32 × Mem) :=
  gbi (s1 + s0) fun y1 =>
  K124 σ x1 x2 x3 x4 x5 x6 x8 y1 (x10 + 1)
set_option maxRecDepth 100000 in
theorem m_M_line_222 {κ : GC} {Γ : GA} (hX : Gx κ Γ 13 b_M_line "PaneScreenModel" r_M_line (some .int)) (K124 : Mem → Int32 → Int32 → Int32 → Int32 → Int32 → Int32 → Int32 → Int32 → Int32 → Option (Int32 × Mem)) (hK124 : ∀ (σ : Mem) (x1 : Int32) (x2 : Int32) (x3 : Int32) (x4 : Int32) (x5 : Int32) (x6 : Int32) (x8 : Int32) (x9 : Int32) (x10 : Int32), GG κ Γ 13 (gQ gqi κ Γ r_M_line) 0 0 σ [some (.ref (Γ.2.1 19)), some (.int x1), some (.int x2), some (.int x3), some (.int x4), some (.int x5), some (.int x6), none, some (.int x8), some (.int x9), some (.int x10), none, none] 124 [] (K124 σ x1 x2 x3 x4 x5 x6 x8 x9 x10)) (σ : Mem) (x1 : Int32) (x2 : Int32) (x3 : Int32) (x4 : Int32) (x5 : Int32) (x6 : Int32) (x8 : Int32) (x10 : Int32) (s0 : Int32) (s1 : Int32) : GG κ Γ 13 (gQ gqi κ Γ r_M_line) 0 0 σ [some (.ref (Γ.2.1 19)), some (.int x1), some (.int x2), some (.int x3), some (.int x4), some (.int x5), some (.int x6), none, some (.int x8), none, some (.int x10), none, none] 222 [.int s0, .int s1] (f_M_line_222 K124 σ x1 x2 x3 x4 x5 x6 x8 x10 s0 s1) := by
  unfold f_M_line_222
  refine g_iadd hX d_M_line_222 (n := 223) rfl ?_
  refine g_top (fun y1 => ?_)
  refine g_istore hX [_, _, _, _, _, _, _, _, _, _, _, _, _] d_M_line_223 (n := 225) rfl (by decide) rfl ?_
  refine g_iinc hX 1 _ [_, _, _, _, _, _, _, _, _, _, _, _, _] d_M_line_225 (n := 228) rfl rfl k_iconst_1 rfl (by decide) rfl ?_
  refine g_goto hX 124 d_M_line_228 rfl ?_
  exact (hK124 σ x1 x2 x3 x4 x5 x6 x8 y1 (x10 + 1))
def f_M_line_185 (K124 : Mem → Int32 → Int32 → Int32 → Int32 → Int32 → Int32 → Int32 → Int32 → Int32 → Option (Int32 × Mem)) (σ : Mem) (x1 : Int32) (x2 : Int32) (x3 : Int32) (x4 : Int32) (x5 : Int32) (x6 : Int32) (x8 : Int32) (x9 : Int32) (x10 : Int32) (x11 : Int32) (s0 : Int32) : Option (Int32 × Mem) :=
  if gin x1 8 = true then
    if gin x1 8 = true then
      gb (f_M_paint x1 ((σ 26 x1.toNatClampNeg) + x11) ((σ 27 x1.toNatClampNeg) + s0) x4 σ) fun r2 u1 =>
      if r2 = 0 then
        f_M_line_222 K124 u1 x1 x2 x3 x4 x5 x6 x8 x10 0 x9
      else
        f_M_line_222 K124 u1 x1 x2 x3 x4 x5 x6 x8 x10 1 x9
    else none
  else none
set_option maxRecDepth 100000 in
theorem m_M_line_185 {κ : GC} {Γ : GA} (hX : Gx κ Γ 13 b_M_line "PaneScreenModel" r_M_line (some .int)) (K124 : Mem → Int32 → Int32 → Int32 → Int32 → Int32 → Int32 → Int32 → Int32 → Int32 → Option (Int32 × Mem)) (hK124 : ∀ (σ : Mem) (x1 : Int32) (x2 : Int32) (x3 : Int32) (x4 : Int32) (x5 : Int32) (x6 : Int32) (x8 : Int32) (x9 : Int32) (x10 : Int32), GG κ Γ 13 (gQ gqi κ Γ r_M_line) 0 0 σ [some (.ref (Γ.2.1 19)), some (.int x1), some (.int x2), some (.int x3), some (.int x4), some (.int x5), some (.int x6), none, some (.int x8), some (.int x9), some (.int x10), none, none] 124 [] (K124 σ x1 x2 x3 x4 x5 x6 x8 x9 x10)) (σ : Mem) (x1 : Int32) (x2 : Int32) (x3 : Int32) (x4 : Int32) (x5 : Int32) (x6 : Int32) (x8 : Int32) (x9 : Int32) (x10 : Int32) (x11 : Int32) (s0 : Int32) : GG κ Γ 13 (gQ gqi κ Γ r_M_line) 0 0 σ [some (.ref (Γ.2.1 19)), some (.int x1), some (.int x2), some (.int x3), some (.int x4), some (.int x5), some (.int x6), none, some (.int x8), some (.int x9), some (.int x10), some (.int x11), none] 185 [.int s0] (f_M_line_185 K124 σ x1 x2 x3 x4 x5 x6 x8 x9 x10 x11 s0) := by
  unfold f_M_line_185
  refine g_istore hX [_, _, _, _, _, _, _, _, _, _, _, _, _] d_M_line_185 (n := 187) rfl (by decide) rfl ?_
  refine g_iload hX d_M_line_187 (n := 189) rfl rfl ?_
  refine g_aload_n hX 0 d_M_line_189 (n := 190) rfl rfl rfl ?_
  refine g_iload_n hX 1 d_M_line_190 (n := 191) rfl rfl rfl ?_
  refine g_aload_n hX 0 d_M_line_191 (n := 192) rfl rfl rfl ?_
  refine g_geta hX 26 gf_M_29 d_M_line_192 (n := 195) rfl sh_19 rfl ?_
  refine g_iload_n hX 1 d_M_line_195 (n := 196) rfl rfl rfl ?_
  refine g_iald hX d_M_line_196 (n := 197) rfl sh_26 ?_
  refine g_iload hX d_M_line_197 (n := 199) rfl rfl ?_
  refine g_iadd hX d_M_line_199 (n := 200) rfl ?_
  refine g_aload_n hX 0 d_M_line_200 (n := 201) rfl rfl rfl ?_
  refine g_geta hX 27 gf_M_32 d_M_line_201 (n := 204) rfl sh_19 rfl ?_
  refine g_iload_n hX 1 d_M_line_204 (n := 205) rfl rfl rfl ?_
  refine g_iald hX d_M_line_205 (n := 206) rfl sh_27 ?_
  refine g_iload hX d_M_line_206 (n := 208) rfl rfl ?_
  refine g_iadd hX d_M_line_208 (n := 209) rfl ?_
  refine g_iload hX d_M_line_209 (n := 211) rfl rfl ?_
  refine g_cVi hX [_, _, _, _] rfl 0 0 (c_M_paint _ Γ x1 ((σ 26 x1.toNatClampNeg) + x11) ((σ 27 x1.toNatClampNeg) + s0) x4 σ) gw_M_150 rfl sh_19 rfl d_M_line_211 (n := 214) rfl ⟨by decide, by decide⟩ ⟨by decide, by decide⟩ (Nat.le_of_ble_eq_true rfl) rfl rfl (fun r2 u1 => ?_)
  refine g_if_eq hX 221 d_M_line_214 (n := 217) rfl rfl ?_ ?_
  · refine g_iconst hX 0 d_M_line_221 (n := 222) rfl k_iconst_0 ?_
    exact (g_sub (lw := [some (.ref (Γ.2.1 19)), some (.int x1), some (.int x2), some (.int x3), some (.int x4), some (.int x5), some (.int x6), none, some (.int x8), none, some (.int x10), none, none]) (And.intro rfl (And.intro rfl (And.intro rfl (And.intro rfl (And.intro rfl (And.intro rfl (And.intro rfl (And.intro rfl (And.intro rfl (True.intro)))))))))) (m_M_line_222 hX K124 hK124 u1 x1 x2 x3 x4 x5 x6 x8 x10 0 x9))
  · refine g_iconst hX 1 d_M_line_217 (n := 218) rfl k_iconst_1 ?_
    refine g_goto hX 222 d_M_line_218 rfl ?_
    exact (g_sub (lw := [some (.ref (Γ.2.1 19)), some (.int x1), some (.int x2), some (.int x3), some (.int x4), some (.int x5), some (.int x6), none, some (.int x8), none, some (.int x10), none, none]) (And.intro rfl (And.intro rfl (And.intro rfl (And.intro rfl (And.intro rfl (And.intro rfl (And.intro rfl (And.intro rfl (And.intro rfl (True.intro)))))))))) (m_M_line_222 hX K124 hK124 u1 x1 x2 x3 x4 x5 x6 x8 x10 1 x9))
def f_M_line_157 (K124 : Mem → Int32 → Int32 → Int32 → Int32 → Int32 → Int32 → Int32 → Int32 → Int32 → Option (Int32 × Mem)) (σ : Mem) (x1 : Int32) (x2 : Int32) (x3 : Int32) (x4 : Int32) (x5 : Int32) (x6 : Int32) (x8 : Int32) (x9 : Int32) (x10 : Int32) (s0 : Int32) : Option (Int32 × Mem) :=
  if x8 = 0 then
    f_M_line_185 K124 σ x1 x2 x3 x4 x5 x6 x8 x9 x10 s0 0
  else
    gb (f_M_div (((2 * x10) * x6) + x8) (2 * x8) σ) fun r2 u1 =>
    f_M_line_185 K124 u1 x1 x2 x3 x4 x5 x6 x8 x9 x10 s0 r2
set_option maxRecDepth 100000 in
theorem m_M_line_157 {κ : GC} {Γ : GA} (hX : Gx κ Γ 13 b_M_line "PaneScreenModel" r_M_line (some .int)) (K124 : Mem → Int32 → Int32 → Int32 → Int32 → Int32 → Int32 → Int32 → Int32 → Int32 → Option (Int32 × Mem)) (hK124 : ∀ (σ : Mem) (x1 : Int32) (x2 : Int32) (x3 : Int32) (x4 : Int32) (x5 : Int32) (x6 : Int32) (x8 : Int32) (x9 : Int32) (x10 : Int32), GG κ Γ 13 (gQ gqi κ Γ r_M_line) 0 0 σ [some (.ref (Γ.2.1 19)), some (.int x1), some (.int x2), some (.int x3), some (.int x4), some (.int x5), some (.int x6), none, some (.int x8), some (.int x9), some (.int x10), none, none] 124 [] (K124 σ x1 x2 x3 x4 x5 x6 x8 x9 x10)) (σ : Mem) (x1 : Int32) (x2 : Int32) (x3 : Int32) (x4 : Int32) (x5 : Int32) (x6 : Int32) (x8 : Int32) (x9 : Int32) (x10 : Int32) (s0 : Int32) : GG κ Γ 13 (gQ gqi κ Γ r_M_line) 0 0 σ [some (.ref (Γ.2.1 19)), some (.int x1), some (.int x2), some (.int x3), some (.int x4), some (.int x5), some (.int x6), none, some (.int x8), some (.int x9), some (.int x10), none, none] 157 [.int s0] (f_M_line_157 K124 σ x1 x2 x3 x4 x5 x6 x8 x9 x10 s0) := by
  unfold f_M_line_157
  refine g_istore hX [_, _, _, _, _, _, _, _, _, _, _, _, _] d_M_line_157 (n := 159) rfl (by decide) rfl ?_
  refine g_iload hX d_M_line_159 (n := 161) rfl rfl ?_
  refine g_if_ne hX 168 d_M_line_161 (n := 164) rfl rfl ?_ ?_
  · refine g_iconst hX 2 d_M_line_168 (n := 169) rfl k_iconst_2 ?_
    refine g_iload hX d_M_line_169 (n := 171) rfl rfl ?_
    refine g_imul hX d_M_line_171 (n := 172) rfl ?_
    refine g_iload hX d_M_line_172 (n := 174) rfl rfl ?_
    refine g_imul hX d_M_line_174 (n := 175) rfl ?_
    refine g_iload hX d_M_line_175 (n := 177) rfl rfl ?_
    refine g_iadd hX d_M_line_177 (n := 178) rfl ?_
    refine g_iconst hX 2 d_M_line_178 (n := 179) rfl k_iconst_2 ?_
    refine g_iload hX d_M_line_179 (n := 181) rfl rfl ?_
    refine g_imul hX d_M_line_181 (n := 182) rfl ?_
    refine g_cSi hX [_, _] rfl 0 0 (c_M_div _ Γ (((2 * x10) * x6) + x8) (2 * x8) σ) gw_M_157 rfl d_M_line_182 (n := 185) rfl ⟨by decide, by decide⟩ ⟨by decide, by decide⟩ (Nat.le_of_ble_eq_true rfl) rfl rfl (fun r2 u1 => ?_)
    exact (m_M_line_185 hX K124 hK124 u1 x1 x2 x3 x4 x5 x6 x8 x9 x10 s0 r2)
  · refine g_iconst hX 0 d_M_line_164 (n := 165) rfl k_iconst_0 ?_
    refine g_goto hX 185 d_M_line_165 rfl ?_
    exact (m_M_line_185 hX K124 hK124 σ x1 x2 x3 x4 x5 x6 x8 x9 x10 s0 0)
def f_M_line_124B (K124 : Mem → Int32 → Int32 → Int32 → Int32 → Int32 → Int32 → Int32 → Int32 → Int32 → Option (Int32 × Mem)) (σ : Mem) (x1 : Int32) (x2 : Int32) (x3 : Int32) (x4 : Int32) (x5 : Int32) (x6 : Int32) (x8 : Int32) (x9 : Int32) (x10 : Int32) : Option (Int32 × Mem) :=
  if x8 < x10 then
    gbv (f_M_damageChanged x1 σ) fun u1 =>
    if gin x1 8 = true then
      gbm (m2 u1 26 x1.toNatClampNeg x2) fun u2 =>
      if gin x1 8 = true then
        gbm (m2 u2 27 x1.toNatClampNeg x3) fun u3 =>
        some (x9, u3)
      else none
    else none
  else
    if x8 = 0 then
      f_M_line_157 K124 σ x1 x2 x3 x4 x5 x6 x8 x9 x10 0
    else
      gb (f_M_div (((2 * x10) * x5) + x8) (2 * x8) σ) fun r5 u4 =>
      f_M_line_157 K124 u4 x1 x2 x3 x4 x5 x6 x8 x9 x10 r5
set_option maxRecDepth 100000 in
theorem m_M_line_124B {κ : GC} {Γ : GA} (hX : Gx κ Γ 13 b_M_line "PaneScreenModel" r_M_line (some .int)) (K124 : Mem → Int32 → Int32 → Int32 → Int32 → Int32 → Int32 → Int32 → Int32 → Int32 → Option (Int32 × Mem)) (hK124 : ∀ (σ : Mem) (x1 : Int32) (x2 : Int32) (x3 : Int32) (x4 : Int32) (x5 : Int32) (x6 : Int32) (x8 : Int32) (x9 : Int32) (x10 : Int32), GG κ Γ 13 (gQ gqi κ Γ r_M_line) 0 0 σ [some (.ref (Γ.2.1 19)), some (.int x1), some (.int x2), some (.int x3), some (.int x4), some (.int x5), some (.int x6), none, some (.int x8), some (.int x9), some (.int x10), none, none] 124 [] (K124 σ x1 x2 x3 x4 x5 x6 x8 x9 x10)) (σ : Mem) (x1 : Int32) (x2 : Int32) (x3 : Int32) (x4 : Int32) (x5 : Int32) (x6 : Int32) (x8 : Int32) (x9 : Int32) (x10 : Int32) : GG κ Γ 13 (gQ gqi κ Γ r_M_line) 0 0 σ [some (.ref (Γ.2.1 19)), some (.int x1), some (.int x2), some (.int x3), some (.int x4), some (.int x5), some (.int x6), none, some (.int x8), some (.int x9), some (.int x10), none, none] 124 [] (f_M_line_124B K124 σ x1 x2 x3 x4 x5 x6 x8 x9 x10) := by
  unfold f_M_line_124B
  refine g_iload hX d_M_line_124 (n := 126) rfl rfl ?_
  refine g_iload hX d_M_line_126 (n := 128) rfl rfl ?_
  refine g_icmp_gt hX 231 d_M_line_128 (n := 131) rfl rfl ?_ ?_
  · refine g_aload_n hX 0 d_M_line_231 (n := 232) rfl rfl rfl ?_
    refine g_iload_n hX 1 d_M_line_232 (n := 233) rfl rfl rfl ?_
    refine g_cVv hX [_] rfl 0 0 (c_M_damageChanged _ Γ x1 σ) gw_M_154 rfl sh_19 rfl d_M_line_233 (n := 236) rfl ⟨by decide, by decide⟩ ⟨by decide, by decide⟩ (Nat.le_of_ble_eq_true rfl) rfl rfl (fun u1 => ?_)
    refine g_aload_n hX 0 d_M_line_236 (n := 237) rfl rfl rfl ?_
    refine g_geta hX 26 gf_M_29 d_M_line_237 (n := 240) rfl sh_19 rfl ?_
    refine g_iload_n hX 1 d_M_line_240 (n := 241) rfl rfl rfl ?_
    refine g_iload_n hX 2 d_M_line_241 (n := 242) rfl rfl rfl ?_
    refine g_iast hX d_M_line_242 (n := 243) rfl sh_26 ?_
    refine g_mem (fun u2 => ?_)
    refine g_aload_n hX 0 d_M_line_243 (n := 244) rfl rfl rfl ?_
    refine g_geta hX 27 gf_M_32 d_M_line_244 (n := 247) rfl sh_19 rfl ?_
    refine g_iload_n hX 1 d_M_line_247 (n := 248) rfl rfl rfl ?_
    refine g_iload_n hX 3 d_M_line_248 (n := 249) rfl rfl rfl ?_
    refine g_iast hX d_M_line_249 (n := 250) rfl sh_27 ?_
    refine g_mem (fun u3 => ?_)
    refine g_iload hX d_M_line_250 (n := 252) rfl rfl ?_
    exact g_iret hX d_M_line_252 (by decide) (by decide)
  · refine g_iload hX d_M_line_131 (n := 133) rfl rfl ?_
    refine g_if_ne hX 140 d_M_line_133 (n := 136) rfl rfl ?_ ?_
    · refine g_iconst hX 2 d_M_line_140 (n := 141) rfl k_iconst_2 ?_
      refine g_iload hX d_M_line_141 (n := 143) rfl rfl ?_
      refine g_imul hX d_M_line_143 (n := 144) rfl ?_
      refine g_iload hX d_M_line_144 (n := 146) rfl rfl ?_
      refine g_imul hX d_M_line_146 (n := 147) rfl ?_
      refine g_iload hX d_M_line_147 (n := 149) rfl rfl ?_
      refine g_iadd hX d_M_line_149 (n := 150) rfl ?_
      refine g_iconst hX 2 d_M_line_150 (n := 151) rfl k_iconst_2 ?_
      refine g_iload hX d_M_line_151 (n := 153) rfl rfl ?_
      refine g_imul hX d_M_line_153 (n := 154) rfl ?_
      refine g_cSi hX [_, _] rfl 0 0 (c_M_div _ Γ (((2 * x10) * x5) + x8) (2 * x8) σ) gw_M_157 rfl d_M_line_154 (n := 157) rfl ⟨by decide, by decide⟩ ⟨by decide, by decide⟩ (Nat.le_of_ble_eq_true rfl) rfl rfl (fun r5 u4 => ?_)
      exact (m_M_line_157 hX K124 hK124 u4 x1 x2 x3 x4 x5 x6 x8 x9 x10 r5)
    · refine g_iconst hX 0 d_M_line_136 (n := 137) rfl k_iconst_0 ?_
      refine g_goto hX 157 d_M_line_137 rfl ?_
      exact (m_M_line_157 hX K124 hK124 σ x1 x2 x3 x4 x5 x6 x8 x9 x10 0)
def f_M_line_124 (n : Nat) : Mem → Int32 → Int32 → Int32 → Int32 → Int32 → Int32 → Int32 → Int32 → Int32 → Option (Int32 × Mem) := gfix (fun _ _ _ _ _ _ _ _ _ _ => none) (fun K124 => f_M_line_124B K124) n
theorem m_M_line_124 {κ : GC} {Γ : GA} (hX : Gx κ Γ 13 b_M_line "PaneScreenModel" r_M_line (some .int)) (n : Nat) : ∀ (σ : Mem) (x1 : Int32) (x2 : Int32) (x3 : Int32) (x4 : Int32) (x5 : Int32) (x6 : Int32) (x8 : Int32) (x9 : Int32) (x10 : Int32), GG κ Γ 13 (gQ gqi κ Γ r_M_line) 0 0 σ [some (.ref (Γ.2.1 19)), some (.int x1), some (.int x2), some (.int x3), some (.int x4), some (.int x5), some (.int x6), none, some (.int x8), some (.int x9), some (.int x10), none, none] 124 [] (f_M_line_124 n σ x1 x2 x3 x4 x5 x6 x8 x9 x10) := by
  induction n with
  | zero => intros; exact g_none
  | succ n ih => intro σ x1 x2 x3 x4 x5 x6 x8 x9 x10; exact m_M_line_124B hX (f_M_line_124 n) ih σ x1 x2 x3 x4 x5 x6 x8 x9 x10
def f_M_line_116 (σ : Mem) (x1 : Int32) (x2 : Int32) (x3 : Int32) (x4 : Int32) (x5 : Int32) (x6 : Int32) (s0 : Int32) : Option (Int32 × Mem) :=
  f_M_line_124 gN σ x1 x2 x3 x4 x5 x6 s0 0 0
set_option maxRecDepth 100000 in
theorem m_M_line_116 {κ : GC} {Γ : GA} (hX : Gx κ Γ 13 b_M_line "PaneScreenModel" r_M_line (some .int)) (σ : Mem) (x1 : Int32) (x2 : Int32) (x3 : Int32) (x4 : Int32) (x5 : Int32) (x6 : Int32) (s0 : Int32) : GG κ Γ 13 (gQ gqi κ Γ r_M_line) 0 0 σ [some (.ref (Γ.2.1 19)), some (.int x1), some (.int x2), some (.int x3), some (.int x4), some (.int x5), some (.int x6), none, none, none, none, none, none] 116 [.int s0] (f_M_line_116 σ x1 x2 x3 x4 x5 x6 s0) := by
  unfold f_M_line_116
  refine g_istore hX [_, _, _, _, _, _, _, _, _, _, _, _, _] d_M_line_116 (n := 118) rfl (by decide) rfl ?_
  refine g_iconst hX 0 d_M_line_118 (n := 119) rfl k_iconst_0 ?_
  refine g_istore hX [_, _, _, _, _, _, _, _, _, _, _, _, _] d_M_line_119 (n := 121) rfl (by decide) rfl ?_
  refine g_iconst hX 0 d_M_line_121 (n := 122) rfl k_iconst_0 ?_
  refine g_istore hX [_, _, _, _, _, _, _, _, _, _, _, _, _] d_M_line_122 (n := 124) rfl (by decide) rfl ?_
  exact (m_M_line_124 hX gN σ x1 x2 x3 x4 x5 x6 s0 0 0)
def f_M_line_100 (σ : Mem) (x1 : Int32) (x2 : Int32) (x3 : Int32) (x4 : Int32) (x5 : Int32) (x6 : Int32) (x7 : Int32) (s0 : Int32) : Option (Int32 × Mem) :=
  if x7 ≤ s0 then
    f_M_line_116 σ x1 x2 x3 x4 x5 x6 s0
  else
    f_M_line_116 σ x1 x2 x3 x4 x5 x6 x7
set_option maxRecDepth 100000 in
theorem m_M_line_100 {κ : GC} {Γ : GA} (hX : Gx κ Γ 13 b_M_line "PaneScreenModel" r_M_line (some .int)) (σ : Mem) (x1 : Int32) (x2 : Int32) (x3 : Int32) (x4 : Int32) (x5 : Int32) (x6 : Int32) (x7 : Int32) (s0 : Int32) : GG κ Γ 13 (gQ gqi κ Γ r_M_line) 0 0 σ [some (.ref (Γ.2.1 19)), some (.int x1), some (.int x2), some (.int x3), some (.int x4), some (.int x5), some (.int x6), some (.int x7), none, none, none, none, none] 100 [.int s0] (f_M_line_100 σ x1 x2 x3 x4 x5 x6 x7 s0) := by
  unfold f_M_line_100
  refine g_istore hX [_, _, _, _, _, _, _, _, _, _, _, _, _] d_M_line_100 (n := 102) rfl (by decide) rfl ?_
  refine g_iload hX d_M_line_102 (n := 104) rfl rfl ?_
  refine g_iload hX d_M_line_104 (n := 106) rfl rfl ?_
  refine g_icmp_le hX 114 d_M_line_106 (n := 109) rfl rfl ?_ ?_
  · refine g_iload hX d_M_line_114 (n := 116) rfl rfl ?_
    exact (g_sub (lw := [some (.ref (Γ.2.1 19)), some (.int x1), some (.int x2), some (.int x3), some (.int x4), some (.int x5), some (.int x6), none, none, none, none, none, none]) (And.intro rfl (And.intro rfl (And.intro rfl (And.intro rfl (And.intro rfl (And.intro rfl (And.intro rfl (True.intro)))))))) (m_M_line_116 hX σ x1 x2 x3 x4 x5 x6 s0))
  · refine g_iload hX d_M_line_109 (n := 111) rfl rfl ?_
    refine g_goto hX 116 d_M_line_111 rfl ?_
    exact (g_sub (lw := [some (.ref (Γ.2.1 19)), some (.int x1), some (.int x2), some (.int x3), some (.int x4), some (.int x5), some (.int x6), none, none, none, none, none, none]) (And.intro rfl (And.intro rfl (And.intro rfl (And.intro rfl (And.intro rfl (And.intro rfl (And.intro rfl (True.intro)))))))) (m_M_line_116 hX σ x1 x2 x3 x4 x5 x6 x7))
def f_M_line_85 (σ : Mem) (x1 : Int32) (x2 : Int32) (x3 : Int32) (x4 : Int32) (x5 : Int32) (x6 : Int32) (s0 : Int32) : Option (Int32 × Mem) :=
  if 0 ≤ x6 then
    f_M_line_100 σ x1 x2 x3 x4 x5 x6 s0 x6
  else
    f_M_line_100 σ x1 x2 x3 x4 x5 x6 s0 (-x6)
set_option maxRecDepth 100000 in
theorem m_M_line_85 {κ : GC} {Γ : GA} (hX : Gx κ Γ 13 b_M_line "PaneScreenModel" r_M_line (some .int)) (σ : Mem) (x1 : Int32) (x2 : Int32) (x3 : Int32) (x4 : Int32) (x5 : Int32) (x6 : Int32) (s0 : Int32) : GG κ Γ 13 (gQ gqi κ Γ r_M_line) 0 0 σ [some (.ref (Γ.2.1 19)), some (.int x1), some (.int x2), some (.int x3), some (.int x4), some (.int x5), some (.int x6), none, none, none, none, none, none] 85 [.int s0] (f_M_line_85 σ x1 x2 x3 x4 x5 x6 s0) := by
  unfold f_M_line_85
  refine g_istore hX [_, _, _, _, _, _, _, _, _, _, _, _, _] d_M_line_85 (n := 87) rfl (by decide) rfl ?_
  refine g_iload hX d_M_line_87 (n := 89) rfl rfl ?_
  refine g_if_ge hX 98 d_M_line_89 (n := 92) rfl rfl ?_ ?_
  · refine g_iload hX d_M_line_98 (n := 100) rfl rfl ?_
    exact (m_M_line_100 hX σ x1 x2 x3 x4 x5 x6 s0 x6)
  · refine g_iload hX d_M_line_92 (n := 94) rfl rfl ?_
    refine g_ineg hX d_M_line_94 (n := 95) rfl ?_
    refine g_goto hX 100 d_M_line_95 rfl ?_
    exact (m_M_line_100 hX σ x1 x2 x3 x4 x5 x6 s0 (-x6))
def f_M_line_40 (σ : Mem) (x1 : Int32) (x2 : Int32) (x3 : Int32) (x4 : Int32) (s0 : Int32) : Option (Int32 × Mem) :=
  gbm (m2 σ 19 0 s0) fun u1 =>
  if (u1 19 0) ≤ 0 then
    if gin x1 8 = true then
      gbi (x2 - (u1 26 x1.toNatClampNeg)) fun y2 =>
      if gin x1 8 = true then
        gbi (x3 - (u1 27 x1.toNatClampNeg)) fun y3 =>
        if 0 ≤ y2 then
          f_M_line_85 u1 x1 x2 x3 x4 y2 y3 y2
        else
          f_M_line_85 u1 x1 x2 x3 x4 y2 y3 (-y2)
      else none
    else none
  else
    some (0, u1)
set_option maxRecDepth 100000 in
theorem m_M_line_40 {κ : GC} {Γ : GA} (hX : Gx κ Γ 13 b_M_line "PaneScreenModel" r_M_line (some .int)) (σ : Mem) (x1 : Int32) (x2 : Int32) (x3 : Int32) (x4 : Int32) (s0 : Int32) : GG κ Γ 13 (gQ gqi κ Γ r_M_line) 0 0 σ [some (.ref (Γ.2.1 19)), some (.int x1), some (.int x2), some (.int x3), some (.int x4), none, none, none, none, none, none, none, none] 40 [.int s0, .ref (Γ.2.1 19)] (f_M_line_40 σ x1 x2 x3 x4 s0) := by
  unfold f_M_line_40
  refine g_puti hX gp_M_75 d_M_line_40 (n := 43) rfl sh_19 rfl ?_
  refine g_mem (fun u1 => ?_)
  refine g_aload_n hX 0 d_M_line_43 (n := 44) rfl rfl rfl ?_
  refine g_geti hX gf_M_75 d_M_line_44 (n := 47) rfl sh_19 rfl ?_
  refine g_if_le hX 52 d_M_line_47 (n := 50) rfl rfl ?_ ?_
  · refine g_iload_n hX 2 d_M_line_52 (n := 53) rfl rfl rfl ?_
    refine g_aload_n hX 0 d_M_line_53 (n := 54) rfl rfl rfl ?_
    refine g_geta hX 26 gf_M_29 d_M_line_54 (n := 57) rfl sh_19 rfl ?_
    refine g_iload_n hX 1 d_M_line_57 (n := 58) rfl rfl rfl ?_
    refine g_iald hX d_M_line_58 (n := 59) rfl sh_26 ?_
    refine g_isub hX d_M_line_59 (n := 60) rfl ?_
    refine g_top (fun y2 => ?_)
    refine g_istore hX [_, _, _, _, _, _, _, _, _, _, _, _, _] d_M_line_60 (n := 62) rfl (by decide) rfl ?_
    refine g_iload_n hX 3 d_M_line_62 (n := 63) rfl rfl rfl ?_
    refine g_aload_n hX 0 d_M_line_63 (n := 64) rfl rfl rfl ?_
    refine g_geta hX 27 gf_M_32 d_M_line_64 (n := 67) rfl sh_19 rfl ?_
    refine g_iload_n hX 1 d_M_line_67 (n := 68) rfl rfl rfl ?_
    refine g_iald hX d_M_line_68 (n := 69) rfl sh_27 ?_
    refine g_isub hX d_M_line_69 (n := 70) rfl ?_
    refine g_top (fun y3 => ?_)
    refine g_istore hX [_, _, _, _, _, _, _, _, _, _, _, _, _] d_M_line_70 (n := 72) rfl (by decide) rfl ?_
    refine g_iload hX d_M_line_72 (n := 74) rfl rfl ?_
    refine g_if_ge hX 83 d_M_line_74 (n := 77) rfl rfl ?_ ?_
    · refine g_iload hX d_M_line_83 (n := 85) rfl rfl ?_
      exact (m_M_line_85 hX u1 x1 x2 x3 x4 y2 y3 y2)
    · refine g_iload hX d_M_line_77 (n := 79) rfl rfl ?_
      refine g_ineg hX d_M_line_79 (n := 80) rfl ?_
      refine g_goto hX 85 d_M_line_80 rfl ?_
      exact (m_M_line_85 hX u1 x1 x2 x3 x4 y2 y3 (-y2))
  · refine g_iconst hX 0 d_M_line_50 (n := 51) rfl k_iconst_0 ?_
    exact g_iret hX d_M_line_51 (by decide) (by decide)
def f_M_line_35 (σ : Mem) (x1 : Int32) (x2 : Int32) (x3 : Int32) (x4 : Int32) : Option (Int32 × Mem) :=
  f_M_line_40 σ x1 x2 x3 x4 2
set_option maxRecDepth 100000 in
theorem m_M_line_35 {κ : GC} {Γ : GA} (hX : Gx κ Γ 13 b_M_line "PaneScreenModel" r_M_line (some .int)) (σ : Mem) (x1 : Int32) (x2 : Int32) (x3 : Int32) (x4 : Int32) : GG κ Γ 13 (gQ gqi κ Γ r_M_line) 0 0 σ [some (.ref (Γ.2.1 19)), some (.int x1), some (.int x2), some (.int x3), some (.int x4), none, none, none, none, none, none, none, none] 35 [.ref (Γ.2.1 19)] (f_M_line_35 σ x1 x2 x3 x4) := by
  unfold f_M_line_35
  refine g_iconst hX 2 d_M_line_35 (n := 36) rfl k_iconst_2 ?_
  refine g_goto hX 40 d_M_line_36 rfl ?_
  exact (m_M_line_40 hX σ x1 x2 x3 x4 2)
def f_M_line_0 (σ : Mem) (x1 : Int32) (x2 : Int32) (x3 : Int32) (x4 : Int32) : Option (Int32 × Mem) :=
  gb (f_M_isOpen x1 σ) fun r2 u1 =>
  if r2 = 0 then
    f_M_line_40 u1 x1 x2 x3 x4 1
  else
    gb (f_M_near x2 u1) fun r4 u3 =>
    if r4 = 0 then
      f_M_line_35 u3 x1 x2 x3 x4
    else
      gb (f_M_near x3 u3) fun r6 u5 =>
      if r6 = 0 then
        f_M_line_35 u5 x1 x2 x3 x4
      else
        gb (f_M_colour x4 u5) fun r8 u7 =>
        if r8 = 0 then
          f_M_line_35 u7 x1 x2 x3 x4
        else
          f_M_line_40 u7 x1 x2 x3 x4 0
set_option maxRecDepth 100000 in
theorem m_M_line_0 {κ : GC} {Γ : GA} (hX : Gx κ Γ 13 b_M_line "PaneScreenModel" r_M_line (some .int)) (σ : Mem) (x1 : Int32) (x2 : Int32) (x3 : Int32) (x4 : Int32) : GG κ Γ 13 (gQ gqi κ Γ r_M_line) 0 0 σ [some (.ref (Γ.2.1 19)), some (.int x1), some (.int x2), some (.int x3), some (.int x4), none, none, none, none, none, none, none, none] 0 [] (f_M_line_0 σ x1 x2 x3 x4) := by
  unfold f_M_line_0
  refine g_aload_n hX 0 d_M_line_0 (n := 1) rfl rfl rfl ?_
  refine g_aload_n hX 0 d_M_line_1 (n := 2) rfl rfl rfl ?_
  refine g_iload_n hX 1 d_M_line_2 (n := 3) rfl rfl rfl ?_
  refine g_cVi hX [_] rfl 0 0 (c_M_isOpen _ Γ x1 σ) gw_M_127 rfl sh_19 rfl d_M_line_3 (n := 6) rfl ⟨by decide, by decide⟩ ⟨by decide, by decide⟩ (Nat.le_of_ble_eq_true rfl) rfl rfl (fun r2 u1 => ?_)
  refine g_if_ne hX 13 d_M_line_6 (n := 9) rfl rfl ?_ ?_
  · refine g_iload_n hX 2 d_M_line_13 (n := 14) rfl rfl rfl ?_
    refine g_cSi hX [_] rfl 0 0 (c_M_near _ Γ x2 u1) gw_M_109 rfl d_M_line_14 (n := 17) rfl ⟨by decide, by decide⟩ ⟨by decide, by decide⟩ (Nat.le_of_ble_eq_true rfl) rfl rfl (fun r4 u3 => ?_)
    refine g_if_eq hX 35 d_M_line_17 (n := 20) rfl rfl ?_ ?_
    · exact (m_M_line_35 hX u3 x1 x2 x3 x4)
    · refine g_iload_n hX 3 d_M_line_20 (n := 21) rfl rfl rfl ?_
      refine g_cSi hX [_] rfl 0 0 (c_M_near _ Γ x3 u3) gw_M_109 rfl d_M_line_21 (n := 24) rfl ⟨by decide, by decide⟩ ⟨by decide, by decide⟩ (Nat.le_of_ble_eq_true rfl) rfl rfl (fun r6 u5 => ?_)
      refine g_if_eq hX 35 d_M_line_24 (n := 27) rfl rfl ?_ ?_
      · exact (m_M_line_35 hX u5 x1 x2 x3 x4)
      · refine g_iload hX d_M_line_27 (n := 29) rfl rfl ?_
        refine g_cSi hX [_] rfl 0 0 (c_M_colour _ Γ x4 u5) gw_M_147 rfl d_M_line_29 (n := 32) rfl ⟨by decide, by decide⟩ ⟨by decide, by decide⟩ (Nat.le_of_ble_eq_true rfl) rfl rfl (fun r8 u7 => ?_)
        refine g_if_ne hX 39 d_M_line_32 (n := 35) rfl rfl ?_ ?_
        · refine g_iconst hX 0 d_M_line_39 (n := 40) rfl k_iconst_0 ?_
          exact (m_M_line_40 hX u7 x1 x2 x3 x4 0)
        · exact (m_M_line_35 hX u7 x1 x2 x3 x4)
  · refine g_iconst hX 1 d_M_line_9 (n := 10) rfl k_iconst_1 ?_
    refine g_goto hX 40 d_M_line_10 rfl ?_
    exact (m_M_line_40 hX u1 x1 x2 x3 x4 1)
def f_M_line (x1 : Int32) (x2 : Int32) (x3 : Int32) (x4 : Int32) (σ : Mem) : Option (Int32 × Mem) := f_M_line_0 σ x1 x2 x3 x4
theorem c_M_line (l : Launch) (Γ : GA) (x1 : Int32) (x2 : Int32) (x3 : Int32) (x4 : Int32) (σ : Mem) : gM gqi l y_M_line b_M_line 13 (some .int) r_M_line [.ref (Γ.2.1 19), .int x1, .int x2, .int x3, .int x4] Γ σ (f_M_line x1 x2 x3 x4 σ) :=
  gM.of [some (.ref (Γ.2.1 19)), some (.int x1), some (.int x2), some (.int x3), some (.int x4), none, none, none, none, none, none, none, none] (by decide) (Nat.le_of_ble_eq_true rfl) rfl rfl (fun κ hX _ => m_M_line_0 hX σ x1 x2 x3 x4)
/-! M_scroll -/
theorem d_M_scroll_0 : decode b_M_scroll 0 = .ok (.aload_n 0, 1) := by decide +kernel
theorem d_M_scroll_1 : decode b_M_scroll 1 = .ok (.aload_n 0, 1) := by decide +kernel
theorem d_M_scroll_2 : decode b_M_scroll 2 = .ok (.iload_n 1, 1) := by decide +kernel
theorem d_M_scroll_3 : decode b_M_scroll 3 = .ok (.invokevirtual 127, 3) := by decide +kernel
theorem d_M_scroll_6 : decode b_M_scroll 6 = .ok (.ifCond .ne 7, 3) := by decide +kernel
theorem d_M_scroll_9 : decode b_M_scroll 9 = .ok (.iconst 1, 1) := by decide +kernel
theorem d_M_scroll_10 : decode b_M_scroll 10 = .ok (.goto 22, 3) := by decide +kernel
theorem d_M_scroll_13 : decode b_M_scroll 13 = .ok (.iload_n 2, 1) := by decide +kernel
theorem d_M_scroll_14 : decode b_M_scroll 14 = .ok (.invokestatic 109, 3) := by decide +kernel
theorem d_M_scroll_17 : decode b_M_scroll 17 = .ok (.ifCond .eq 10, 3) := by decide +kernel
theorem d_M_scroll_20 : decode b_M_scroll 20 = .ok (.iload_n 3, 1) := by decide +kernel
theorem d_M_scroll_21 : decode b_M_scroll 21 = .ok (.invokestatic 109, 3) := by decide +kernel
theorem d_M_scroll_24 : decode b_M_scroll 24 = .ok (.ifCond .ne 7, 3) := by decide +kernel
theorem d_M_scroll_27 : decode b_M_scroll 27 = .ok (.iconst 2, 1) := by decide +kernel
theorem d_M_scroll_28 : decode b_M_scroll 28 = .ok (.goto 4, 3) := by decide +kernel
theorem d_M_scroll_31 : decode b_M_scroll 31 = .ok (.iconst 0, 1) := by decide +kernel
theorem d_M_scroll_32 : decode b_M_scroll 32 = .ok (.putfield 75, 3) := by decide +kernel
theorem d_M_scroll_35 : decode b_M_scroll 35 = .ok (.aload_n 0, 1) := by decide +kernel
theorem d_M_scroll_36 : decode b_M_scroll 36 = .ok (.getfield 75, 3) := by decide +kernel
theorem d_M_scroll_39 : decode b_M_scroll 39 = .ok (.ifCond .le 4, 3) := by decide +kernel
theorem d_M_scroll_42 : decode b_M_scroll 42 = .ok (.return_, 1) := by decide +kernel
theorem d_M_scroll_43 : decode b_M_scroll 43 = .ok (.iconst 0, 1) := by decide +kernel
theorem d_M_scroll_44 : decode b_M_scroll 44 = .ok (.istore 4, 2) := by decide +kernel
theorem d_M_scroll_46 : decode b_M_scroll 46 = .ok (.iload 4, 2) := by decide +kernel
theorem d_M_scroll_48 : decode b_M_scroll 48 = .ok (.sipush 384, 3) := by decide +kernel
theorem d_M_scroll_51 : decode b_M_scroll 51 = .ok (.if_icmp .ge 29, 3) := by decide +kernel
theorem d_M_scroll_54 : decode b_M_scroll 54 = .ok (.aload_n 0, 1) := by decide +kernel
theorem d_M_scroll_55 : decode b_M_scroll 55 = .ok (.getfield 44, 3) := by decide +kernel
theorem d_M_scroll_58 : decode b_M_scroll 58 = .ok (.iload 4, 2) := by decide +kernel
theorem d_M_scroll_60 : decode b_M_scroll 60 = .ok (.aload_n 0, 1) := by decide +kernel
theorem d_M_scroll_61 : decode b_M_scroll 61 = .ok (.getfield 41, 3) := by decide +kernel
theorem d_M_scroll_64 : decode b_M_scroll 64 = .ok (.sipush 384, 3) := by decide +kernel
theorem d_M_scroll_67 : decode b_M_scroll 67 = .ok (.iload_n 1, 1) := by decide +kernel
theorem d_M_scroll_68 : decode b_M_scroll 68 = .ok (.imul, 1) := by decide +kernel
theorem d_M_scroll_69 : decode b_M_scroll 69 = .ok (.iload 4, 2) := by decide +kernel
theorem d_M_scroll_71 : decode b_M_scroll 71 = .ok (.iadd, 1) := by decide +kernel
theorem d_M_scroll_72 : decode b_M_scroll 72 = .ok (.iaload, 1) := by decide +kernel
theorem d_M_scroll_73 : decode b_M_scroll 73 = .ok (.iastore, 1) := by decide +kernel
theorem d_M_scroll_74 : decode b_M_scroll 74 = .ok (.iinc 4 1, 3) := by decide +kernel
theorem d_M_scroll_77 : decode b_M_scroll 77 = .ok (.goto (-31), 3) := by decide +kernel
theorem d_M_scroll_80 : decode b_M_scroll 80 = .ok (.iconst 0, 1) := by decide +kernel
theorem d_M_scroll_81 : decode b_M_scroll 81 = .ok (.istore 4, 2) := by decide +kernel
theorem d_M_scroll_83 : decode b_M_scroll 83 = .ok (.iload 4, 2) := by decide +kernel
theorem d_M_scroll_85 : decode b_M_scroll 85 = .ok (.aload_n 0, 1) := by decide +kernel
theorem d_M_scroll_86 : decode b_M_scroll 86 = .ok (.getfield 26, 3) := by decide +kernel
theorem d_M_scroll_89 : decode b_M_scroll 89 = .ok (.iload_n 1, 1) := by decide +kernel
theorem d_M_scroll_90 : decode b_M_scroll 90 = .ok (.iaload, 1) := by decide +kernel
theorem d_M_scroll_91 : decode b_M_scroll 91 = .ok (.if_icmp .ge 89, 3) := by decide +kernel
theorem d_M_scroll_94 : decode b_M_scroll 94 = .ok (.iconst 0, 1) := by decide +kernel
theorem d_M_scroll_95 : decode b_M_scroll 95 = .ok (.istore 5, 2) := by decide +kernel
theorem d_M_scroll_97 : decode b_M_scroll 97 = .ok (.iload 5, 2) := by decide +kernel
theorem d_M_scroll_99 : decode b_M_scroll 99 = .ok (.aload_n 0, 1) := by decide +kernel
theorem d_M_scroll_100 : decode b_M_scroll 100 = .ok (.getfield 23, 3) := by decide +kernel
theorem d_M_scroll_103 : decode b_M_scroll 103 = .ok (.iload_n 1, 1) := by decide +kernel
theorem d_M_scroll_104 : decode b_M_scroll 104 = .ok (.iaload, 1) := by decide +kernel
theorem d_M_scroll_105 : decode b_M_scroll 105 = .ok (.if_icmp .ge 69, 3) := by decide +kernel
theorem d_M_scroll_108 : decode b_M_scroll 108 = .ok (.aload_n 0, 1) := by decide +kernel
theorem d_M_scroll_109 : decode b_M_scroll 109 = .ok (.iload_n 1, 1) := by decide +kernel
theorem d_M_scroll_110 : decode b_M_scroll 110 = .ok (.iload 5, 2) := by decide +kernel
theorem d_M_scroll_112 : decode b_M_scroll 112 = .ok (.iload_n 2, 1) := by decide +kernel
theorem d_M_scroll_113 : decode b_M_scroll 113 = .ok (.iadd, 1) := by decide +kernel
theorem d_M_scroll_114 : decode b_M_scroll 114 = .ok (.iload 4, 2) := by decide +kernel
theorem d_M_scroll_116 : decode b_M_scroll 116 = .ok (.iload_n 3, 1) := by decide +kernel
theorem d_M_scroll_117 : decode b_M_scroll 117 = .ok (.iadd, 1) := by decide +kernel
theorem d_M_scroll_118 : decode b_M_scroll 118 = .ok (.invokevirtual 85, 3) := by decide +kernel
theorem d_M_scroll_121 : decode b_M_scroll 121 = .ok (.istore 6, 2) := by decide +kernel
theorem d_M_scroll_123 : decode b_M_scroll 123 = .ok (.aload_n 0, 1) := by decide +kernel
theorem d_M_scroll_124 : decode b_M_scroll 124 = .ok (.getfield 41, 3) := by decide +kernel
theorem d_M_scroll_127 : decode b_M_scroll 127 = .ok (.sipush 384, 3) := by decide +kernel
theorem d_M_scroll_130 : decode b_M_scroll 130 = .ok (.iload_n 1, 1) := by decide +kernel
theorem d_M_scroll_131 : decode b_M_scroll 131 = .ok (.imul, 1) := by decide +kernel
theorem d_M_scroll_132 : decode b_M_scroll 132 = .ok (.bipush 24, 2) := by decide +kernel
theorem d_M_scroll_134 : decode b_M_scroll 134 = .ok (.iload 4, 2) := by decide +kernel
theorem d_M_scroll_136 : decode b_M_scroll 136 = .ok (.imul, 1) := by decide +kernel
theorem d_M_scroll_137 : decode b_M_scroll 137 = .ok (.iadd, 1) := by decide +kernel
theorem d_M_scroll_138 : decode b_M_scroll 138 = .ok (.iload 5, 2) := by decide +kernel
theorem d_M_scroll_140 : decode b_M_scroll 140 = .ok (.iadd, 1) := by decide +kernel
theorem d_M_scroll_141 : decode b_M_scroll 141 = .ok (.iload 6, 2) := by decide +kernel
theorem d_M_scroll_143 : decode b_M_scroll 143 = .ok (.ifCond .eq 23, 3) := by decide +kernel
theorem d_M_scroll_146 : decode b_M_scroll 146 = .ok (.aload_n 0, 1) := by decide +kernel
theorem d_M_scroll_147 : decode b_M_scroll 147 = .ok (.getfield 44, 3) := by decide +kernel
theorem d_M_scroll_150 : decode b_M_scroll 150 = .ok (.bipush 24, 2) := by decide +kernel
theorem d_M_scroll_152 : decode b_M_scroll 152 = .ok (.iload 4, 2) := by decide +kernel
theorem d_M_scroll_154 : decode b_M_scroll 154 = .ok (.iload_n 3, 1) := by decide +kernel
theorem d_M_scroll_155 : decode b_M_scroll 155 = .ok (.iadd, 1) := by decide +kernel
theorem d_M_scroll_156 : decode b_M_scroll 156 = .ok (.imul, 1) := by decide +kernel
theorem d_M_scroll_157 : decode b_M_scroll 157 = .ok (.iload 5, 2) := by decide +kernel
theorem d_M_scroll_159 : decode b_M_scroll 159 = .ok (.iadd, 1) := by decide +kernel
theorem d_M_scroll_160 : decode b_M_scroll 160 = .ok (.iload_n 2, 1) := by decide +kernel
theorem d_M_scroll_161 : decode b_M_scroll 161 = .ok (.iadd, 1) := by decide +kernel
theorem d_M_scroll_162 : decode b_M_scroll 162 = .ok (.iaload, 1) := by decide +kernel
theorem d_M_scroll_163 : decode b_M_scroll 163 = .ok (.goto 4, 3) := by decide +kernel
theorem d_M_scroll_166 : decode b_M_scroll 166 = .ok (.iconst 0, 1) := by decide +kernel
theorem d_M_scroll_167 : decode b_M_scroll 167 = .ok (.iastore, 1) := by decide +kernel
theorem d_M_scroll_168 : decode b_M_scroll 168 = .ok (.iinc 5 1, 3) := by decide +kernel
theorem d_M_scroll_171 : decode b_M_scroll 171 = .ok (.goto (-74), 3) := by decide +kernel
theorem d_M_scroll_174 : decode b_M_scroll 174 = .ok (.iinc 4 1, 3) := by decide +kernel
theorem d_M_scroll_177 : decode b_M_scroll 177 = .ok (.goto (-94), 3) := by decide +kernel
theorem d_M_scroll_180 : decode b_M_scroll 180 = .ok (.aload_n 0, 1) := by decide +kernel
theorem d_M_scroll_181 : decode b_M_scroll 181 = .ok (.iload_n 1, 1) := by decide +kernel
theorem d_M_scroll_182 : decode b_M_scroll 182 = .ok (.invokevirtual 123, 3) := by decide +kernel
theorem d_M_scroll_185 : decode b_M_scroll 185 = .ok (.return_, 1) := by decide +kernel
abbrev r_M_scroll : Room := ⟨2, 0, 0, 50⟩
def f_M_scroll_167 (K83 : Mem → Int32 → Int32 → Int32 → Int32 → Option Mem) (K97 : Mem → Int32 → Int32 → Int32 → Int32 → Int32 → Option Mem) (σ : Mem) (x1 : Int32) (x2 : Int32) (x3 : Int32) (x4 : Int32) (x5 : Int32) (s0 : Int32) (s1 : Int32) : Option Mem :=
  if gin s1 3072 = true then
    gbm (m2 σ 30 s1.toNatClampNeg s0) fun u1 =>
    K97 u1 x1 x2 x3 x4 (x5 + 1)
  else none
set_option maxRecDepth 100000 in
theorem m_M_scroll_167 {κ : GC} {Γ : GA} (hX : Gx κ Γ 7 b_M_scroll "PaneScreenModel" r_M_scroll none) (K83 : Mem → Int32 → Int32 → Int32 → Int32 → Option Mem) (hK83 : ∀ (σ : Mem) (x1 : Int32) (x2 : Int32) (x3 : Int32) (x4 : Int32), GG κ Γ 7 (gQ gqv κ Γ r_M_scroll) 0 0 σ [some (.ref (Γ.2.1 19)), some (.int x1), some (.int x2), some (.int x3), some (.int x4), none, none] 83 [] (K83 σ x1 x2 x3 x4)) (K97 : Mem → Int32 → Int32 → Int32 → Int32 → Int32 → Option Mem) (hK97 : ∀ (σ : Mem) (x1 : Int32) (x2 : Int32) (x3 : Int32) (x4 : Int32) (x5 : Int32), GG κ Γ 7 (gQ gqv κ Γ r_M_scroll) 0 0 σ [some (.ref (Γ.2.1 19)), some (.int x1), some (.int x2), some (.int x3), some (.int x4), some (.int x5), none] 97 [] (K97 σ x1 x2 x3 x4 x5)) (σ : Mem) (x1 : Int32) (x2 : Int32) (x3 : Int32) (x4 : Int32) (x5 : Int32) (s0 : Int32) (s1 : Int32) : GG κ Γ 7 (gQ gqv κ Γ r_M_scroll) 0 0 σ [some (.ref (Γ.2.1 19)), some (.int x1), some (.int x2), some (.int x3), some (.int x4), some (.int x5), none] 167 [.int s0, .int s1, .ref (Γ.2.1 30)] (f_M_scroll_167 K83 K97 σ x1 x2 x3 x4 x5 s0 s1) := by
  unfold f_M_scroll_167
  refine g_iast hX d_M_scroll_167 (n := 168) rfl sh_30 ?_
  refine g_mem (fun u1 => ?_)
  refine g_iinc hX 1 _ [_, _, _, _, _, _, _] d_M_scroll_168 (n := 171) rfl rfl k_iconst_1 rfl (by decide) rfl ?_
  refine g_goto hX 97 d_M_scroll_171 rfl ?_
  exact (hK97 u1 x1 x2 x3 x4 (x5 + 1))
def f_M_scroll_97B (K83 : Mem → Int32 → Int32 → Int32 → Int32 → Option Mem) (K97 : Mem → Int32 → Int32 → Int32 → Int32 → Int32 → Option Mem) (σ : Mem) (x1 : Int32) (x2 : Int32) (x3 : Int32) (x4 : Int32) (x5 : Int32) : Option Mem :=
  if gin x1 8 = true then
    if (σ 24 x1.toNatClampNeg) ≤ x5 then
      K83 σ x1 x2 x3 (x4 + 1)
    else
      gb (f_M_inPicture x1 (x5 + x2) (x4 + x3) σ) fun r2 u1 =>
      if r2 = 0 then
        f_M_scroll_167 K83 K97 u1 x1 x2 x3 x4 x5 0 (((384 * x1) + (24 * x4)) + x5)
      else
        if gin (((24 * (x4 + x3)) + x5) + x2) 384 = true then
          f_M_scroll_167 K83 K97 u1 x1 x2 x3 x4 x5 (u1 31 (((24 * (x4 + x3)) + x5) + x2).toNatClampNeg) (((384 * x1) + (24 * x4)) + x5)
        else none
  else none
set_option maxRecDepth 100000 in
theorem m_M_scroll_97B {κ : GC} {Γ : GA} (hX : Gx κ Γ 7 b_M_scroll "PaneScreenModel" r_M_scroll none) (K83 : Mem → Int32 → Int32 → Int32 → Int32 → Option Mem) (hK83 : ∀ (σ : Mem) (x1 : Int32) (x2 : Int32) (x3 : Int32) (x4 : Int32), GG κ Γ 7 (gQ gqv κ Γ r_M_scroll) 0 0 σ [some (.ref (Γ.2.1 19)), some (.int x1), some (.int x2), some (.int x3), some (.int x4), none, none] 83 [] (K83 σ x1 x2 x3 x4)) (K97 : Mem → Int32 → Int32 → Int32 → Int32 → Int32 → Option Mem) (hK97 : ∀ (σ : Mem) (x1 : Int32) (x2 : Int32) (x3 : Int32) (x4 : Int32) (x5 : Int32), GG κ Γ 7 (gQ gqv κ Γ r_M_scroll) 0 0 σ [some (.ref (Γ.2.1 19)), some (.int x1), some (.int x2), some (.int x3), some (.int x4), some (.int x5), none] 97 [] (K97 σ x1 x2 x3 x4 x5)) (σ : Mem) (x1 : Int32) (x2 : Int32) (x3 : Int32) (x4 : Int32) (x5 : Int32) : GG κ Γ 7 (gQ gqv κ Γ r_M_scroll) 0 0 σ [some (.ref (Γ.2.1 19)), some (.int x1), some (.int x2), some (.int x3), some (.int x4), some (.int x5), none] 97 [] (f_M_scroll_97B K83 K97 σ x1 x2 x3 x4 x5) := by
  unfold f_M_scroll_97B
  refine g_iload hX d_M_scroll_97 (n := 99) rfl rfl ?_
  refine g_aload_n hX 0 d_M_scroll_99 (n := 100) rfl rfl rfl ?_
  refine g_geta hX 24 gf_M_23 d_M_scroll_100 (n := 103) rfl sh_19 rfl ?_
  refine g_iload_n hX 1 d_M_scroll_103 (n := 104) rfl rfl rfl ?_
  refine g_iald hX d_M_scroll_104 (n := 105) rfl sh_24 ?_
  refine g_icmp_ge hX 174 d_M_scroll_105 (n := 108) rfl rfl ?_ ?_
  · refine g_iinc hX 1 _ [_, _, _, _, _, _, _] d_M_scroll_174 (n := 177) rfl rfl k_iconst_1 rfl (by decide) rfl ?_
    refine g_goto hX 83 d_M_scroll_177 rfl ?_
    exact (g_sub (lw := [some (.ref (Γ.2.1 19)), some (.int x1), some (.int x2), some (.int x3), some (.int (x4 + 1)), none, none]) (And.intro rfl (And.intro rfl (And.intro rfl (And.intro rfl (And.intro rfl (True.intro)))))) (hK83 σ x1 x2 x3 (x4 + 1)))
  · refine g_aload_n hX 0 d_M_scroll_108 (n := 109) rfl rfl rfl ?_
    refine g_iload_n hX 1 d_M_scroll_109 (n := 110) rfl rfl rfl ?_
    refine g_iload hX d_M_scroll_110 (n := 112) rfl rfl ?_
    refine g_iload_n hX 2 d_M_scroll_112 (n := 113) rfl rfl rfl ?_
    refine g_iadd hX d_M_scroll_113 (n := 114) rfl ?_
    refine g_iload hX d_M_scroll_114 (n := 116) rfl rfl ?_
    refine g_iload_n hX 3 d_M_scroll_116 (n := 117) rfl rfl rfl ?_
    refine g_iadd hX d_M_scroll_117 (n := 118) rfl ?_
    refine g_cVi hX [_, _, _] rfl 0 0 (c_M_inPicture _ Γ x1 (x5 + x2) (x4 + x3) σ) gw_M_85 rfl sh_19 rfl d_M_scroll_118 (n := 121) rfl ⟨by decide, by decide⟩ ⟨by decide, by decide⟩ (Nat.le_of_ble_eq_true rfl) rfl rfl (fun r2 u1 => ?_)
    refine g_istore hX [_, _, _, _, _, _, _] d_M_scroll_121 (n := 123) rfl (by decide) rfl ?_
    refine g_aload_n hX 0 d_M_scroll_123 (n := 124) rfl rfl rfl ?_
    refine g_geta hX 30 gf_M_41 d_M_scroll_124 (n := 127) rfl sh_19 rfl ?_
    refine g_sipush hX 384 d_M_scroll_127 (n := 130) rfl k_sipush_384 ?_
    refine g_iload_n hX 1 d_M_scroll_130 (n := 131) rfl rfl rfl ?_
    refine g_imul hX d_M_scroll_131 (n := 132) rfl ?_
    refine g_bipush hX 24 d_M_scroll_132 (n := 134) rfl k_bipush_24 ?_
    refine g_iload hX d_M_scroll_134 (n := 136) rfl rfl ?_
    refine g_imul hX d_M_scroll_136 (n := 137) rfl ?_
    refine g_iadd hX d_M_scroll_137 (n := 138) rfl ?_
    refine g_iload hX d_M_scroll_138 (n := 140) rfl rfl ?_
    refine g_iadd hX d_M_scroll_140 (n := 141) rfl ?_
    refine g_iload hX d_M_scroll_141 (n := 143) rfl rfl ?_
    refine g_if_eq hX 166 d_M_scroll_143 (n := 146) rfl rfl ?_ ?_
    · refine g_iconst hX 0 d_M_scroll_166 (n := 167) rfl k_iconst_0 ?_
      exact (g_sub (lw := [some (.ref (Γ.2.1 19)), some (.int x1), some (.int x2), some (.int x3), some (.int x4), some (.int x5), none]) (And.intro rfl (And.intro rfl (And.intro rfl (And.intro rfl (And.intro rfl (And.intro rfl (True.intro))))))) (m_M_scroll_167 hX K83 hK83 K97 hK97 u1 x1 x2 x3 x4 x5 0 (((384 * x1) + (24 * x4)) + x5)))
    · refine g_aload_n hX 0 d_M_scroll_146 (n := 147) rfl rfl rfl ?_
      refine g_geta hX 31 gf_M_44 d_M_scroll_147 (n := 150) rfl sh_19 rfl ?_
      refine g_bipush hX 24 d_M_scroll_150 (n := 152) rfl k_bipush_24 ?_
      refine g_iload hX d_M_scroll_152 (n := 154) rfl rfl ?_
      refine g_iload_n hX 3 d_M_scroll_154 (n := 155) rfl rfl rfl ?_
      refine g_iadd hX d_M_scroll_155 (n := 156) rfl ?_
      refine g_imul hX d_M_scroll_156 (n := 157) rfl ?_
      refine g_iload hX d_M_scroll_157 (n := 159) rfl rfl ?_
      refine g_iadd hX d_M_scroll_159 (n := 160) rfl ?_
      refine g_iload_n hX 2 d_M_scroll_160 (n := 161) rfl rfl rfl ?_
      refine g_iadd hX d_M_scroll_161 (n := 162) rfl ?_
      refine g_iald hX d_M_scroll_162 (n := 163) rfl sh_31 ?_
      refine g_goto hX 167 d_M_scroll_163 rfl ?_
      exact (g_sub (lw := [some (.ref (Γ.2.1 19)), some (.int x1), some (.int x2), some (.int x3), some (.int x4), some (.int x5), none]) (And.intro rfl (And.intro rfl (And.intro rfl (And.intro rfl (And.intro rfl (And.intro rfl (True.intro))))))) (m_M_scroll_167 hX K83 hK83 K97 hK97 u1 x1 x2 x3 x4 x5 (u1 31 (((24 * (x4 + x3)) + x5) + x2).toNatClampNeg) (((384 * x1) + (24 * x4)) + x5)))
def f_M_scroll_97 (K83 : Mem → Int32 → Int32 → Int32 → Int32 → Option Mem) (n : Nat) : Mem → Int32 → Int32 → Int32 → Int32 → Int32 → Option Mem := gfix (fun _ _ _ _ _ _ => none) (fun K97 => f_M_scroll_97B K83 K97) n
theorem m_M_scroll_97 {κ : GC} {Γ : GA} (hX : Gx κ Γ 7 b_M_scroll "PaneScreenModel" r_M_scroll none) (K83 : Mem → Int32 → Int32 → Int32 → Int32 → Option Mem) (hK83 : ∀ (σ : Mem) (x1 : Int32) (x2 : Int32) (x3 : Int32) (x4 : Int32), GG κ Γ 7 (gQ gqv κ Γ r_M_scroll) 0 0 σ [some (.ref (Γ.2.1 19)), some (.int x1), some (.int x2), some (.int x3), some (.int x4), none, none] 83 [] (K83 σ x1 x2 x3 x4)) (n : Nat) : ∀ (σ : Mem) (x1 : Int32) (x2 : Int32) (x3 : Int32) (x4 : Int32) (x5 : Int32), GG κ Γ 7 (gQ gqv κ Γ r_M_scroll) 0 0 σ [some (.ref (Γ.2.1 19)), some (.int x1), some (.int x2), some (.int x3), some (.int x4), some (.int x5), none] 97 [] (f_M_scroll_97 K83 n σ x1 x2 x3 x4 x5) := by
  induction n with
  | zero => intros; exact g_none
  | succ n ih => intro σ x1 x2 x3 x4 x5; exact m_M_scroll_97B hX K83 hK83 (f_M_scroll_97 K83 n) ih σ x1 x2 x3 x4 x5
def f_M_scroll_83B (K83 : Mem → Int32 → Int32 → Int32 → Int32 → Option Mem) (σ : Mem) (x1 : Int32) (x2 : Int32) (x3 : Int32) (x4 : Int32) : Option Mem :=
  if gin x1 8 = true then
    if (σ 25 x1.toNatClampNeg) ≤ x4 then
      gbv (f_M_damageFrame x1 σ) fun u1 =>
      some u1
    else
      f_M_scroll_97 K83 gN σ x1 x2 x3 x4 0
  else none
set_option maxRecDepth 100000 in
theorem m_M_scroll_83B {κ : GC} {Γ : GA} (hX : Gx κ Γ 7 b_M_scroll "PaneScreenModel" r_M_scroll none) (K83 : Mem → Int32 → Int32 → Int32 → Int32 → Option Mem) (hK83 : ∀ (σ : Mem) (x1 : Int32) (x2 : Int32) (x3 : Int32) (x4 : Int32), GG κ Γ 7 (gQ gqv κ Γ r_M_scroll) 0 0 σ [some (.ref (Γ.2.1 19)), some (.int x1), some (.int x2), some (.int x3), some (.int x4), none, none] 83 [] (K83 σ x1 x2 x3 x4)) (σ : Mem) (x1 : Int32) (x2 : Int32) (x3 : Int32) (x4 : Int32) : GG κ Γ 7 (gQ gqv κ Γ r_M_scroll) 0 0 σ [some (.ref (Γ.2.1 19)), some (.int x1), some (.int x2), some (.int x3), some (.int x4), none, none] 83 [] (f_M_scroll_83B K83 σ x1 x2 x3 x4) := by
  unfold f_M_scroll_83B
  refine g_iload hX d_M_scroll_83 (n := 85) rfl rfl ?_
  refine g_aload_n hX 0 d_M_scroll_85 (n := 86) rfl rfl rfl ?_
  refine g_geta hX 25 gf_M_26 d_M_scroll_86 (n := 89) rfl sh_19 rfl ?_
  refine g_iload_n hX 1 d_M_scroll_89 (n := 90) rfl rfl rfl ?_
  refine g_iald hX d_M_scroll_90 (n := 91) rfl sh_25 ?_
  refine g_icmp_ge hX 180 d_M_scroll_91 (n := 94) rfl rfl ?_ ?_
  · refine g_aload_n hX 0 d_M_scroll_180 (n := 181) rfl rfl rfl ?_
    refine g_iload_n hX 1 d_M_scroll_181 (n := 182) rfl rfl rfl ?_
    refine g_cVv hX [_] rfl 0 0 (c_M_damageFrame _ Γ x1 σ) gw_M_123 rfl sh_19 rfl d_M_scroll_182 (n := 185) rfl ⟨by decide, by decide⟩ ⟨by decide, by decide⟩ (Nat.le_of_ble_eq_true rfl) rfl rfl (fun u1 => ?_)
    exact g_vret hX d_M_scroll_185 (by decide) (by decide)
  · refine g_iconst hX 0 d_M_scroll_94 (n := 95) rfl k_iconst_0 ?_
    refine g_istore hX [_, _, _, _, _, _, _] d_M_scroll_95 (n := 97) rfl (by decide) rfl ?_
    exact (m_M_scroll_97 hX K83 hK83 gN σ x1 x2 x3 x4 0)
def f_M_scroll_83 (n : Nat) : Mem → Int32 → Int32 → Int32 → Int32 → Option Mem := gfix (fun _ _ _ _ _ => none) (fun K83 => f_M_scroll_83B K83) n
theorem m_M_scroll_83 {κ : GC} {Γ : GA} (hX : Gx κ Γ 7 b_M_scroll "PaneScreenModel" r_M_scroll none) (n : Nat) : ∀ (σ : Mem) (x1 : Int32) (x2 : Int32) (x3 : Int32) (x4 : Int32), GG κ Γ 7 (gQ gqv κ Γ r_M_scroll) 0 0 σ [some (.ref (Γ.2.1 19)), some (.int x1), some (.int x2), some (.int x3), some (.int x4), none, none] 83 [] (f_M_scroll_83 n σ x1 x2 x3 x4) := by
  induction n with
  | zero => intros; exact g_none
  | succ n ih => intro σ x1 x2 x3 x4; exact m_M_scroll_83B hX (f_M_scroll_83 n) ih σ x1 x2 x3 x4
def f_M_scroll_46B (K46 : Mem → Int32 → Int32 → Int32 → Int32 → Option Mem) (σ : Mem) (x1 : Int32) (x2 : Int32) (x3 : Int32) (x4 : Int32) : Option Mem :=
  if 384 ≤ x4 then
    f_M_scroll_83 gN σ x1 x2 x3 0
  else
    if gin ((384 * x1) + x4) 3072 = true then
      if gin x4 384 = true then
        gbm (m2 σ 31 x4.toNatClampNeg (σ 30 ((384 * x1) + x4).toNatClampNeg)) fun u1 =>
        K46 u1 x1 x2 x3 (x4 + 1)
      else none
    else none
set_option maxRecDepth 100000 in
theorem m_M_scroll_46B {κ : GC} {Γ : GA} (hX : Gx κ Γ 7 b_M_scroll "PaneScreenModel" r_M_scroll none) (K46 : Mem → Int32 → Int32 → Int32 → Int32 → Option Mem) (hK46 : ∀ (σ : Mem) (x1 : Int32) (x2 : Int32) (x3 : Int32) (x4 : Int32), GG κ Γ 7 (gQ gqv κ Γ r_M_scroll) 0 0 σ [some (.ref (Γ.2.1 19)), some (.int x1), some (.int x2), some (.int x3), some (.int x4), none, none] 46 [] (K46 σ x1 x2 x3 x4)) (σ : Mem) (x1 : Int32) (x2 : Int32) (x3 : Int32) (x4 : Int32) : GG κ Γ 7 (gQ gqv κ Γ r_M_scroll) 0 0 σ [some (.ref (Γ.2.1 19)), some (.int x1), some (.int x2), some (.int x3), some (.int x4), none, none] 46 [] (f_M_scroll_46B K46 σ x1 x2 x3 x4) := by
  unfold f_M_scroll_46B
  refine g_iload hX d_M_scroll_46 (n := 48) rfl rfl ?_
  refine g_sipush hX 384 d_M_scroll_48 (n := 51) rfl k_sipush_384 ?_
  refine g_icmp_ge hX 80 d_M_scroll_51 (n := 54) rfl rfl ?_ ?_
  · refine g_iconst hX 0 d_M_scroll_80 (n := 81) rfl k_iconst_0 ?_
    refine g_istore hX [_, _, _, _, _, _, _] d_M_scroll_81 (n := 83) rfl (by decide) rfl ?_
    exact (m_M_scroll_83 hX gN σ x1 x2 x3 0)
  · refine g_aload_n hX 0 d_M_scroll_54 (n := 55) rfl rfl rfl ?_
    refine g_geta hX 31 gf_M_44 d_M_scroll_55 (n := 58) rfl sh_19 rfl ?_
    refine g_iload hX d_M_scroll_58 (n := 60) rfl rfl ?_
    refine g_aload_n hX 0 d_M_scroll_60 (n := 61) rfl rfl rfl ?_
    refine g_geta hX 30 gf_M_41 d_M_scroll_61 (n := 64) rfl sh_19 rfl ?_
    refine g_sipush hX 384 d_M_scroll_64 (n := 67) rfl k_sipush_384 ?_
    refine g_iload_n hX 1 d_M_scroll_67 (n := 68) rfl rfl rfl ?_
    refine g_imul hX d_M_scroll_68 (n := 69) rfl ?_
    refine g_iload hX d_M_scroll_69 (n := 71) rfl rfl ?_
    refine g_iadd hX d_M_scroll_71 (n := 72) rfl ?_
    refine g_iald hX d_M_scroll_72 (n := 73) rfl sh_30 ?_
    refine g_iast hX d_M_scroll_73 (n := 74) rfl sh_31 ?_
    refine g_mem (fun u1 => ?_)
    refine g_iinc hX 1 _ [_, _, _, _, _, _, _] d_M_scroll_74 (n := 77) rfl rfl k_iconst_1 rfl (by decide) rfl ?_
    refine g_goto hX 46 d_M_scroll_77 rfl ?_
    exact (hK46 u1 x1 x2 x3 (x4 + 1))
def f_M_scroll_46 (n : Nat) : Mem → Int32 → Int32 → Int32 → Int32 → Option Mem := gfix (fun _ _ _ _ _ => none) (fun K46 => f_M_scroll_46B K46) n
theorem m_M_scroll_46 {κ : GC} {Γ : GA} (hX : Gx κ Γ 7 b_M_scroll "PaneScreenModel" r_M_scroll none) (n : Nat) : ∀ (σ : Mem) (x1 : Int32) (x2 : Int32) (x3 : Int32) (x4 : Int32), GG κ Γ 7 (gQ gqv κ Γ r_M_scroll) 0 0 σ [some (.ref (Γ.2.1 19)), some (.int x1), some (.int x2), some (.int x3), some (.int x4), none, none] 46 [] (f_M_scroll_46 n σ x1 x2 x3 x4) := by
  induction n with
  | zero => intros; exact g_none
  | succ n ih => intro σ x1 x2 x3 x4; exact m_M_scroll_46B hX (f_M_scroll_46 n) ih σ x1 x2 x3 x4
def f_M_scroll_32 (σ : Mem) (x1 : Int32) (x2 : Int32) (x3 : Int32) (s0 : Int32) : Option Mem :=
  gbm (m2 σ 19 0 s0) fun u1 =>
  if (u1 19 0) ≤ 0 then
    f_M_scroll_46 gN u1 x1 x2 x3 0
  else
    some u1
set_option maxRecDepth 100000 in
theorem m_M_scroll_32 {κ : GC} {Γ : GA} (hX : Gx κ Γ 7 b_M_scroll "PaneScreenModel" r_M_scroll none) (σ : Mem) (x1 : Int32) (x2 : Int32) (x3 : Int32) (s0 : Int32) : GG κ Γ 7 (gQ gqv κ Γ r_M_scroll) 0 0 σ [some (.ref (Γ.2.1 19)), some (.int x1), some (.int x2), some (.int x3), none, none, none] 32 [.int s0, .ref (Γ.2.1 19)] (f_M_scroll_32 σ x1 x2 x3 s0) := by
  unfold f_M_scroll_32
  refine g_puti hX gp_M_75 d_M_scroll_32 (n := 35) rfl sh_19 rfl ?_
  refine g_mem (fun u1 => ?_)
  refine g_aload_n hX 0 d_M_scroll_35 (n := 36) rfl rfl rfl ?_
  refine g_geti hX gf_M_75 d_M_scroll_36 (n := 39) rfl sh_19 rfl ?_
  refine g_if_le hX 43 d_M_scroll_39 (n := 42) rfl rfl ?_ ?_
  · refine g_iconst hX 0 d_M_scroll_43 (n := 44) rfl k_iconst_0 ?_
    refine g_istore hX [_, _, _, _, _, _, _] d_M_scroll_44 (n := 46) rfl (by decide) rfl ?_
    exact (m_M_scroll_46 hX gN u1 x1 x2 x3 0)
  · exact g_vret hX d_M_scroll_42 (by decide) (by decide)
def f_M_scroll_27 (σ : Mem) (x1 : Int32) (x2 : Int32) (x3 : Int32) : Option Mem :=
  f_M_scroll_32 σ x1 x2 x3 2
set_option maxRecDepth 100000 in
theorem m_M_scroll_27 {κ : GC} {Γ : GA} (hX : Gx κ Γ 7 b_M_scroll "PaneScreenModel" r_M_scroll none) (σ : Mem) (x1 : Int32) (x2 : Int32) (x3 : Int32) : GG κ Γ 7 (gQ gqv κ Γ r_M_scroll) 0 0 σ [some (.ref (Γ.2.1 19)), some (.int x1), some (.int x2), some (.int x3), none, none, none] 27 [.ref (Γ.2.1 19)] (f_M_scroll_27 σ x1 x2 x3) := by
  unfold f_M_scroll_27
  refine g_iconst hX 2 d_M_scroll_27 (n := 28) rfl k_iconst_2 ?_
  refine g_goto hX 32 d_M_scroll_28 rfl ?_
  exact (m_M_scroll_32 hX σ x1 x2 x3 2)
def f_M_scroll_0 (σ : Mem) (x1 : Int32) (x2 : Int32) (x3 : Int32) : Option Mem :=
  gb (f_M_isOpen x1 σ) fun r2 u1 =>
  if r2 = 0 then
    f_M_scroll_32 u1 x1 x2 x3 1
  else
    gb (f_M_near x2 u1) fun r4 u3 =>
    if r4 = 0 then
      f_M_scroll_27 u3 x1 x2 x3
    else
      gb (f_M_near x3 u3) fun r6 u5 =>
      if r6 = 0 then
        f_M_scroll_27 u5 x1 x2 x3
      else
        f_M_scroll_32 u5 x1 x2 x3 0
set_option maxRecDepth 100000 in
theorem m_M_scroll_0 {κ : GC} {Γ : GA} (hX : Gx κ Γ 7 b_M_scroll "PaneScreenModel" r_M_scroll none) (σ : Mem) (x1 : Int32) (x2 : Int32) (x3 : Int32) : GG κ Γ 7 (gQ gqv κ Γ r_M_scroll) 0 0 σ [some (.ref (Γ.2.1 19)), some (.int x1), some (.int x2), some (.int x3), none, none, none] 0 [] (f_M_scroll_0 σ x1 x2 x3) := by
  unfold f_M_scroll_0
  refine g_aload_n hX 0 d_M_scroll_0 (n := 1) rfl rfl rfl ?_
  refine g_aload_n hX 0 d_M_scroll_1 (n := 2) rfl rfl rfl ?_
  refine g_iload_n hX 1 d_M_scroll_2 (n := 3) rfl rfl rfl ?_
  refine g_cVi hX [_] rfl 0 0 (c_M_isOpen _ Γ x1 σ) gw_M_127 rfl sh_19 rfl d_M_scroll_3 (n := 6) rfl ⟨by decide, by decide⟩ ⟨by decide, by decide⟩ (Nat.le_of_ble_eq_true rfl) rfl rfl (fun r2 u1 => ?_)
  refine g_if_ne hX 13 d_M_scroll_6 (n := 9) rfl rfl ?_ ?_
  · refine g_iload_n hX 2 d_M_scroll_13 (n := 14) rfl rfl rfl ?_
    refine g_cSi hX [_] rfl 0 0 (c_M_near _ Γ x2 u1) gw_M_109 rfl d_M_scroll_14 (n := 17) rfl ⟨by decide, by decide⟩ ⟨by decide, by decide⟩ (Nat.le_of_ble_eq_true rfl) rfl rfl (fun r4 u3 => ?_)
    refine g_if_eq hX 27 d_M_scroll_17 (n := 20) rfl rfl ?_ ?_
    · exact (m_M_scroll_27 hX u3 x1 x2 x3)
    · refine g_iload_n hX 3 d_M_scroll_20 (n := 21) rfl rfl rfl ?_
      refine g_cSi hX [_] rfl 0 0 (c_M_near _ Γ x3 u3) gw_M_109 rfl d_M_scroll_21 (n := 24) rfl ⟨by decide, by decide⟩ ⟨by decide, by decide⟩ (Nat.le_of_ble_eq_true rfl) rfl rfl (fun r6 u5 => ?_)
      refine g_if_ne hX 31 d_M_scroll_24 (n := 27) rfl rfl ?_ ?_
      · refine g_iconst hX 0 d_M_scroll_31 (n := 32) rfl k_iconst_0 ?_
        exact (m_M_scroll_32 hX u5 x1 x2 x3 0)
      · exact (m_M_scroll_27 hX u5 x1 x2 x3)
  · refine g_iconst hX 1 d_M_scroll_9 (n := 10) rfl k_iconst_1 ?_
    refine g_goto hX 32 d_M_scroll_10 rfl ?_
    exact (m_M_scroll_32 hX u1 x1 x2 x3 1)
def f_M_scroll (x1 : Int32) (x2 : Int32) (x3 : Int32) (σ : Mem) : Option Mem := f_M_scroll_0 σ x1 x2 x3
theorem c_M_scroll (l : Launch) (Γ : GA) (x1 : Int32) (x2 : Int32) (x3 : Int32) (σ : Mem) : gM gqv l y_M_scroll b_M_scroll 7 none r_M_scroll [.ref (Γ.2.1 19), .int x1, .int x2, .int x3] Γ σ (f_M_scroll x1 x2 x3 σ) :=
  gM.of [some (.ref (Γ.2.1 19)), some (.int x1), some (.int x2), some (.int x3), none, none, none] (by decide) (Nat.le_of_ble_eq_true rfl) rfl rfl (fun κ hX _ => m_M_scroll_0 hX σ x1 x2 x3)
