/-! S_requireColour -/
theorem d_S_requireColour_0 : decode b_S_requireColour 0 = .ok (.iload_n 0, 1) := by decide +kernel
theorem d_S_requireColour_1 : decode b_S_requireColour 1 = .ok (.ifCond .lt 10, 3) := by decide +kernel
theorem d_S_requireColour_4 : decode b_S_requireColour 4 = .ok (.iload_n 0, 1) := by decide +kernel
theorem d_S_requireColour_5 : decode b_S_requireColour 5 = .ok (.sipush 255, 3) := by decide +kernel
theorem d_S_requireColour_8 : decode b_S_requireColour 8 = .ok (.if_icmp .le 11, 3) := by decide +kernel
theorem d_S_requireColour_11 : decode b_S_requireColour 11 = .ok (.new 217, 3) := by decide +kernel
theorem d_S_requireColour_14 : decode b_S_requireColour 14 = .ok (.dup, 1) := by decide +kernel
theorem d_S_requireColour_15 : decode b_S_requireColour 15 = .ok (.invokespecial 219, 3) := by decide +kernel
theorem d_S_requireColour_18 : decode b_S_requireColour 18 = .ok (.athrow, 1) := by decide +kernel
theorem d_S_requireColour_19 : decode b_S_requireColour 19 = .ok (.return_, 1) := by decide +kernel
abbrev r_S_requireColour : Room := ⟨6, 1, 6, 81⟩
def f_S_requireColour_11 (σ : Mem) : Option ((Unit ⊕ String) × Mem) :=
  some (.inr "java/lang/IllegalArgumentException", σ)
set_option maxRecDepth 100000 in
theorem m_S_requireColour_11 {κ : GC} {Γ : GA} (hX : Gx κ Γ 1 b_S_requireColour "PaneScreen" r_S_requireColour none) (hE : ∀ x ∈ κ.2.2.2.2.2.2.2.2.2.exceptionTable.toList, False) (hT : κ.2.1.stackTraces = false) (σ : Mem) : GG κ Γ 1 (gQX gxv κ Γ r_S_requireColour) 0 0 σ [none] 11 [] (f_S_requireColour_11 σ) := by
  unfold f_S_requireColour_11
  exact g_throw hX hE hT gt_S_217 d_S_requireColour_11 d_S_requireColour_14 d_S_requireColour_15 d_S_requireColour_18 (by decide) (by decide) (by decide) (by decide)
def f_S_requireColour_0 (σ : Mem) (x0 : Int32) : Option ((Unit ⊕ String) × Mem) :=
  if x0 < 0 then
    f_S_requireColour_11 σ
  else
    if x0 ≤ 255 then
      some (.inl (), σ)
    else
      f_S_requireColour_11 σ
set_option maxRecDepth 100000 in
theorem m_S_requireColour_0 {κ : GC} {Γ : GA} (hX : Gx κ Γ 1 b_S_requireColour "PaneScreen" r_S_requireColour none) (hE : ∀ x ∈ κ.2.2.2.2.2.2.2.2.2.exceptionTable.toList, False) (hT : κ.2.1.stackTraces = false) (σ : Mem) (x0 : Int32) : GG κ Γ 1 (gQX gxv κ Γ r_S_requireColour) 0 0 σ [some (.int x0)] 0 [] (f_S_requireColour_0 σ x0) := by
  unfold f_S_requireColour_0
  refine g_iload_n hX 0 d_S_requireColour_0 (n := 1) rfl rfl rfl ?_
  refine g_if_lt hX 11 d_S_requireColour_1 (n := 4) rfl rfl ?_ ?_
  · exact (g_sub (lw := [none]) (True.intro) (m_S_requireColour_11 hX hE hT σ))
  · refine g_iload_n hX 0 d_S_requireColour_4 (n := 5) rfl rfl rfl ?_
    refine g_sipush hX 255 d_S_requireColour_5 (n := 8) rfl k_sipush_255 ?_
    refine g_icmp_le hX 19 d_S_requireColour_8 (n := 11) rfl rfl ?_ ?_
    · exact g_vxret hX d_S_requireColour_19 (by decide) (by decide)
    · exact (g_sub (lw := [none]) (True.intro) (m_S_requireColour_11 hX hE hT σ))
def f_S_requireColour (x0 : Int32) (σ : Mem) : Option ((Unit ⊕ String) × Mem) := f_S_requireColour_0 σ x0
theorem c_S_requireColour (l : Launch) (hT : l.stackTraces = false) (Γ : GA) (x0 : Int32) (σ : Mem) : gX gxv l y_S_requireColour b_S_requireColour 1 none r_S_requireColour [.int x0] Γ σ (f_S_requireColour x0 σ) :=
  gX.of [some (.int x0)] (by decide) (Nat.le_of_ble_eq_true rfl) rfl rfl (fun κ hX hκ hE => m_S_requireColour_0 hX hE (by rw [hκ]; exact hT) σ x0)
/-! P_has -/
theorem d_P_has_0 : decode b_P_has 0 = .ok (.iload_n 1, 1) := by decide +kernel
theorem d_P_has_1 : decode b_P_has 1 = .ok (.ifCond .lt 27, 3) := by decide +kernel
theorem d_P_has_4 : decode b_P_has 4 = .ok (.iload_n 1, 1) := by decide +kernel
theorem d_P_has_5 : decode b_P_has 5 = .ok (.aload_n 0, 1) := by decide +kernel
theorem d_P_has_6 : decode b_P_has 6 = .ok (.getfield 17, 3) := by decide +kernel
theorem d_P_has_9 : decode b_P_has 9 = .ok (.if_icmp .ge 19, 3) := by decide +kernel
theorem d_P_has_12 : decode b_P_has 12 = .ok (.iload_n 2, 1) := by decide +kernel
theorem d_P_has_13 : decode b_P_has 13 = .ok (.ifCond .lt 15, 3) := by decide +kernel
theorem d_P_has_16 : decode b_P_has 16 = .ok (.iload_n 2, 1) := by decide +kernel
theorem d_P_has_17 : decode b_P_has 17 = .ok (.aload_n 0, 1) := by decide +kernel
theorem d_P_has_18 : decode b_P_has 18 = .ok (.getfield 20, 3) := by decide +kernel
theorem d_P_has_21 : decode b_P_has 21 = .ok (.if_icmp .ge 7, 3) := by decide +kernel
theorem d_P_has_24 : decode b_P_has 24 = .ok (.iconst 1, 1) := by decide +kernel
theorem d_P_has_25 : decode b_P_has 25 = .ok (.goto 4, 3) := by decide +kernel
theorem d_P_has_28 : decode b_P_has 28 = .ok (.iconst 0, 1) := by decide +kernel
theorem d_P_has_29 : decode b_P_has 29 = .ok (.ireturn, 1) := by decide +kernel
abbrev r_P_has : Room := ⟨0, 0, 0, 0⟩
def f_P_has_29 (σ : Mem) (s0 : Int32) : Option (Int32 × Mem) :=
  if s0 &&& 1 = s0 then some (s0, σ) else none
set_option maxRecDepth 100000 in
theorem m_P_has_29 {κ : GC} {Γ : GA} (hX : Gx κ Γ 3 b_P_has "PaneScreen$Pane" r_P_has (some .boolean)) (σ : Mem) (s0 : Int32) : GG κ Γ 3 (gQ gqi κ Γ r_P_has) 0 0 σ [none, none, none] 29 [.int s0] (f_P_has_29 σ s0) := by
  unfold f_P_has_29
  exact g_iretZ hX d_P_has_29 (by decide) (by decide)
def f_P_has_28 (σ : Mem) : Option (Int32 × Mem) :=
  f_P_has_29 σ 0
set_option maxRecDepth 100000 in
theorem m_P_has_28 {κ : GC} {Γ : GA} (hX : Gx κ Γ 3 b_P_has "PaneScreen$Pane" r_P_has (some .boolean)) (σ : Mem) : GG κ Γ 3 (gQ gqi κ Γ r_P_has) 0 0 σ [none, none, none] 28 [] (f_P_has_28 σ) := by
  unfold f_P_has_28
  refine g_iconst hX 0 d_P_has_28 (n := 29) rfl k_iconst_0 ?_
  exact (m_P_has_29 hX σ 0)
def f_P_has_0 (σ : Mem) (q0 : Nat) (x1 : Int32) (x2 : Int32) : Option (Int32 × Mem) :=
  if x1 < 0 then
    f_P_has_28 σ
  else
    if (σ q0 3) ≤ x1 then
      f_P_has_28 σ
    else
      if x2 < 0 then
        f_P_has_28 σ
      else
        if (σ q0 4) ≤ x2 then
          f_P_has_28 σ
        else
          f_P_has_29 σ 1
set_option maxRecDepth 100000 in
theorem m_P_has_0 {κ : GC} {Γ : GA} (hX : Gx κ Γ 3 b_P_has "PaneScreen$Pane" r_P_has (some .boolean)) (σ : Mem) (q0 : Nat) (x1 : Int32) (x2 : Int32) (hq0 : gPn q0) : GG κ Γ 3 (gQ gqi κ Γ r_P_has) 0 0 σ [some (.ref (Γ.2.1 q0)), some (.int x1), some (.int x2)] 0 [] (f_P_has_0 σ q0 x1 x2) := by
  unfold f_P_has_0
  refine g_iload_n hX 1 d_P_has_0 (n := 1) rfl rfl rfl ?_
  refine g_if_lt hX 28 d_P_has_1 (n := 4) rfl rfl ?_ ?_
  · exact (g_sub (lw := [none, none, none]) (True.intro) (m_P_has_28 hX σ))
  · refine g_iload_n hX 1 d_P_has_4 (n := 5) rfl rfl rfl ?_
    refine g_aload_n hX 0 d_P_has_5 (n := 6) rfl rfl rfl ?_
    refine g_geti hX gf_P_17 d_P_has_6 (n := 9) rfl hq0 rfl ?_
    refine g_icmp_ge hX 28 d_P_has_9 (n := 12) rfl rfl ?_ ?_
    · exact (g_sub (lw := [none, none, none]) (True.intro) (m_P_has_28 hX σ))
    · refine g_iload_n hX 2 d_P_has_12 (n := 13) rfl rfl rfl ?_
      refine g_if_lt hX 28 d_P_has_13 (n := 16) rfl rfl ?_ ?_
      · exact (g_sub (lw := [none, none, none]) (True.intro) (m_P_has_28 hX σ))
      · refine g_iload_n hX 2 d_P_has_16 (n := 17) rfl rfl rfl ?_
        refine g_aload_n hX 0 d_P_has_17 (n := 18) rfl rfl rfl ?_
        refine g_geti hX gf_P_20 d_P_has_18 (n := 21) rfl hq0 rfl ?_
        refine g_icmp_ge hX 28 d_P_has_21 (n := 24) rfl rfl ?_ ?_
        · exact (g_sub (lw := [none, none, none]) (True.intro) (m_P_has_28 hX σ))
        · refine g_iconst hX 1 d_P_has_24 (n := 25) rfl k_iconst_1 ?_
          refine g_goto hX 29 d_P_has_25 rfl ?_
          exact (g_sub (lw := [none, none, none]) (True.intro) (m_P_has_29 hX σ 1))
def f_P_has (q0 : Nat) (x1 : Int32) (x2 : Int32) (σ : Mem) : Option (Int32 × Mem) := f_P_has_0 σ q0 x1 x2
theorem c_P_has (l : Launch) (Γ : GA) (q0 : Nat) (x1 : Int32) (x2 : Int32) (hq0 : gPn q0) (σ : Mem) : gM gqi l y_P_has b_P_has 3 (some .boolean) r_P_has [.ref (Γ.2.1 q0), .int x1, .int x2] Γ σ (f_P_has q0 x1 x2 σ) :=
  gM.of [some (.ref (Γ.2.1 q0)), some (.int x1), some (.int x2)] (by decide) (Nat.le_of_ble_eq_true rfl) rfl rfl (fun κ hX _ => m_P_has_0 hX σ q0 x1 x2 hq0)
/-! P_cell -/
theorem d_P_cell_0 : decode b_P_cell 0 = .ok (.aload_n 0, 1) := by decide +kernel
theorem d_P_cell_1 : decode b_P_cell 1 = .ok (.getfield 13, 3) := by decide +kernel
theorem d_P_cell_4 : decode b_P_cell 4 = .ok (.iload_n 2, 1) := by decide +kernel
theorem d_P_cell_5 : decode b_P_cell 5 = .ok (.aload_n 0, 1) := by decide +kernel
theorem d_P_cell_6 : decode b_P_cell 6 = .ok (.getfield 17, 3) := by decide +kernel
theorem d_P_cell_9 : decode b_P_cell 9 = .ok (.imul, 1) := by decide +kernel
theorem d_P_cell_10 : decode b_P_cell 10 = .ok (.iadd, 1) := by decide +kernel
theorem d_P_cell_11 : decode b_P_cell 11 = .ok (.iload_n 1, 1) := by decide +kernel
theorem d_P_cell_12 : decode b_P_cell 12 = .ok (.iadd, 1) := by decide +kernel
theorem d_P_cell_13 : decode b_P_cell 13 = .ok (.ireturn, 1) := by decide +kernel
abbrev r_P_cell : Room := ⟨0, 0, 0, 0⟩
def f_P_cell_0 (σ : Mem) (q0 : Nat) (x1 : Int32) (x2 : Int32) : Option (Int32 × Mem) :=
  some ((((σ q0 5) + (x2 * (σ q0 3))) + x1), σ)
set_option maxRecDepth 100000 in
theorem m_P_cell_0 {κ : GC} {Γ : GA} (hX : Gx κ Γ 3 b_P_cell "PaneScreen$Pane" r_P_cell (some .int)) (σ : Mem) (q0 : Nat) (x1 : Int32) (x2 : Int32) (hq0 : gPn q0) : GG κ Γ 3 (gQ gqi κ Γ r_P_cell) 0 0 σ [some (.ref (Γ.2.1 q0)), some (.int x1), some (.int x2)] 0 [] (f_P_cell_0 σ q0 x1 x2) := by
  unfold f_P_cell_0
  refine g_aload_n hX 0 d_P_cell_0 (n := 1) rfl rfl rfl ?_
  refine g_geti hX gf_P_13 d_P_cell_1 (n := 4) rfl hq0 rfl ?_
  refine g_iload_n hX 2 d_P_cell_4 (n := 5) rfl rfl rfl ?_
  refine g_aload_n hX 0 d_P_cell_5 (n := 6) rfl rfl rfl ?_
  refine g_geti hX gf_P_17 d_P_cell_6 (n := 9) rfl hq0 rfl ?_
  refine g_imul hX d_P_cell_9 (n := 10) rfl ?_
  refine g_iadd hX d_P_cell_10 (n := 11) rfl ?_
  refine g_iload_n hX 1 d_P_cell_11 (n := 12) rfl rfl rfl ?_
  refine g_iadd hX d_P_cell_12 (n := 13) rfl ?_
  exact g_iret hX d_P_cell_13 (by decide) (by decide)
def f_P_cell (q0 : Nat) (x1 : Int32) (x2 : Int32) (σ : Mem) : Option (Int32 × Mem) := f_P_cell_0 σ q0 x1 x2
theorem c_P_cell (l : Launch) (Γ : GA) (q0 : Nat) (x1 : Int32) (x2 : Int32) (hq0 : gPn q0) (σ : Mem) : gM gqi l y_P_cell b_P_cell 3 (some .int) r_P_cell [.ref (Γ.2.1 q0), .int x1, .int x2] Γ σ (f_P_cell q0 x1 x2 σ) :=
  gM.of [some (.ref (Γ.2.1 q0)), some (.int x1), some (.int x2)] (by decide) (Nat.le_of_ble_eq_true rfl) rfl rfl (fun κ hX _ => m_P_cell_0 hX σ q0 x1 x2 hq0)
/-! S_plot -/
theorem d_S_plot_0 : decode b_S_plot 0 = .ok (.aload_n 0, 1) := by decide +kernel
theorem d_S_plot_1 : decode b_S_plot 1 = .ok (.iload_n 1, 1) := by decide +kernel
theorem d_S_plot_2 : decode b_S_plot 2 = .ok (.invokevirtual 91, 3) := by decide +kernel
theorem d_S_plot_5 : decode b_S_plot 5 = .ok (.astore 5, 2) := by decide +kernel
theorem d_S_plot_7 : decode b_S_plot 7 = .ok (.iload 4, 2) := by decide +kernel
theorem d_S_plot_9 : decode b_S_plot 9 = .ok (.invokestatic 123, 3) := by decide +kernel
theorem d_S_plot_12 : decode b_S_plot 12 = .ok (.aload 5, 2) := by decide +kernel
theorem d_S_plot_14 : decode b_S_plot 14 = .ok (.iload_n 2, 1) := by decide +kernel
theorem d_S_plot_15 : decode b_S_plot 15 = .ok (.iload_n 3, 1) := by decide +kernel
theorem d_S_plot_16 : decode b_S_plot 16 = .ok (.invokevirtual 126, 3) := by decide +kernel
theorem d_S_plot_19 : decode b_S_plot 19 = .ok (.ifCond .ne 5, 3) := by decide +kernel
theorem d_S_plot_22 : decode b_S_plot 22 = .ok (.iconst 0, 1) := by decide +kernel
theorem d_S_plot_23 : decode b_S_plot 23 = .ok (.ireturn, 1) := by decide +kernel
theorem d_S_plot_24 : decode b_S_plot 24 = .ok (.aload_n 0, 1) := by decide +kernel
theorem d_S_plot_25 : decode b_S_plot 25 = .ok (.getfield 30, 3) := by decide +kernel
theorem d_S_plot_28 : decode b_S_plot 28 = .ok (.getfield 130, 3) := by decide +kernel
theorem d_S_plot_31 : decode b_S_plot 31 = .ok (.aload 5, 2) := by decide +kernel
theorem d_S_plot_33 : decode b_S_plot 33 = .ok (.iload_n 2, 1) := by decide +kernel
theorem d_S_plot_34 : decode b_S_plot 34 = .ok (.iload_n 3, 1) := by decide +kernel
theorem d_S_plot_35 : decode b_S_plot 35 = .ok (.invokevirtual 133, 3) := by decide +kernel
theorem d_S_plot_38 : decode b_S_plot 38 = .ok (.iload 4, 2) := by decide +kernel
theorem d_S_plot_40 : decode b_S_plot 40 = .ok (.iastore, 1) := by decide +kernel
theorem d_S_plot_41 : decode b_S_plot 41 = .ok (.aload_n 0, 1) := by decide +kernel
theorem d_S_plot_42 : decode b_S_plot 42 = .ok (.aload 5, 2) := by decide +kernel
theorem d_S_plot_44 : decode b_S_plot 44 = .ok (.iload_n 2, 1) := by decide +kernel
theorem d_S_plot_45 : decode b_S_plot 45 = .ok (.iload_n 3, 1) := by decide +kernel
theorem d_S_plot_46 : decode b_S_plot 46 = .ok (.iload_n 2, 1) := by decide +kernel
theorem d_S_plot_47 : decode b_S_plot 47 = .ok (.iconst 1, 1) := by decide +kernel
theorem d_S_plot_48 : decode b_S_plot 48 = .ok (.iadd, 1) := by decide +kernel
theorem d_S_plot_49 : decode b_S_plot 49 = .ok (.iload_n 3, 1) := by decide +kernel
theorem d_S_plot_50 : decode b_S_plot 50 = .ok (.iconst 1, 1) := by decide +kernel
theorem d_S_plot_51 : decode b_S_plot 51 = .ok (.iadd, 1) := by decide +kernel
theorem d_S_plot_52 : decode b_S_plot 52 = .ok (.invokevirtual 137, 3) := by decide +kernel
theorem d_S_plot_55 : decode b_S_plot 55 = .ok (.iconst 1, 1) := by decide +kernel
theorem d_S_plot_56 : decode b_S_plot 56 = .ok (.ireturn, 1) := by decide +kernel
abbrev r_S_plot : Room := ⟨7, 2, 12, 107⟩
def f_S_plot_0 (σ : Mem) (x1 : Int32) (x2 : Int32) (x3 : Int32) (x4 : Int32) : Option ((Int32 ⊕ String) × Mem) :=
  gbx (f_S_openPane x1 σ) (fun p2 u1 =>
    if gpn p2 = true then
      gbx (f_S_requireColour x4 u1) (fun _ u3 =>
        gb (f_P_has p2 x2 x3 u3) fun r5 u4 =>
        if r5 = 0 then
          some (.inl 0, u4)
        else
          gb (f_P_cell p2 x2 x3 u4) fun r7 u6 =>
          if gin r7 400 = true then
            gbm (m2 u6 6 r7.toNatClampNeg x4) fun u8 =>
            gbv (f_S_damagePart p2 x2 x3 (x2 + 1) (x3 + 1) u8) fun u9 =>
            some (.inl 1, u9)
          else none
        ) (fun E u => some (.inr E, u))
    else none) (fun E u => some (.inr E, u))
set_option maxRecDepth 100000 in
theorem m_S_plot_0 {κ : GC} {Γ : GA} (hX : Gx κ Γ 6 b_S_plot "PaneScreen" r_S_plot (some .boolean)) (hE : ∀ x ∈ κ.2.2.2.2.2.2.2.2.2.exceptionTable.toList, False) (hT : κ.2.1.stackTraces = false) (σ : Mem) (x1 : Int32) (x2 : Int32) (x3 : Int32) (x4 : Int32) : GG κ Γ 6 (gQX gxi κ Γ r_S_plot) 0 0 σ [some (.ref (Γ.2.1 0)), some (.int x1), some (.int x2), some (.int x3), some (.int x4), none] 0 [] (f_S_plot_0 σ x1 x2 x3 x4) := by
  unfold f_S_plot_0
  refine g_aload_n hX 0 d_S_plot_0 (n := 1) rfl rfl rfl ?_
  refine g_iload_n hX 1 d_S_plot_1 (n := 2) rfl rfl rfl ?_
  refine g_xVr hX hE [_] rfl 1 6 (c_S_openPane _ hT Γ x1 σ) gw_S_91 rfl sh_0 rfl d_S_plot_2 (n := 5) rfl ⟨by decide, by decide⟩ ⟨by decide, by decide⟩ (Nat.le_of_ble_eq_true rfl) rfl rfl (fun p2 u1 => ?_)
  refine g_pane (fun hp2 => ?_)
  refine g_astore hX [_, _, _, _, _, _] d_S_plot_5 (n := 7) rfl (by decide) rfl ?_
  refine g_iload hX d_S_plot_7 (n := 9) rfl rfl ?_
  refine g_xSv hX hE [_] rfl 2 12 (c_S_requireColour _ hT Γ x4 u1) gw_S_123 rfl d_S_plot_9 (n := 12) rfl ⟨by decide, by decide⟩ ⟨by decide, by decide⟩ (Nat.le_of_ble_eq_true rfl) rfl rfl (fun _ u3 => ?_)
  refine g_aload hX d_S_plot_12 (n := 14) rfl rfl ?_
  refine g_iload_n hX 2 d_S_plot_14 (n := 15) rfl rfl rfl ?_
  refine g_iload_n hX 3 d_S_plot_15 (n := 16) rfl rfl rfl ?_
  refine g_cVi hX [_, _] rfl 2 12 (c_P_has _ Γ p2 x2 x3 hp2 u3) gw_S_126 rfl hp2 rfl d_S_plot_16 (n := 19) rfl ⟨by decide, by decide⟩ ⟨by decide, by decide⟩ (Nat.le_of_ble_eq_true rfl) rfl rfl (fun r5 u4 => ?_)
  refine g_if_ne hX 24 d_S_plot_19 (n := 22) rfl rfl ?_ ?_
  · refine g_aload_n hX 0 d_S_plot_24 (n := 25) rfl rfl rfl ?_
    refine g_geta hX 5 gf_S_30 d_S_plot_25 (n := 28) rfl sh_0 rfl ?_
    refine g_geta hX 6 gf_S_130 d_S_plot_28 (n := 31) rfl sh_5 rfl ?_
    refine g_aload hX d_S_plot_31 (n := 33) rfl rfl ?_
    refine g_iload_n hX 2 d_S_plot_33 (n := 34) rfl rfl rfl ?_
    refine g_iload_n hX 3 d_S_plot_34 (n := 35) rfl rfl rfl ?_
    refine g_cVi hX [_, _] rfl 2 12 (c_P_cell _ Γ p2 x2 x3 hp2 u4) gw_S_133 rfl hp2 rfl d_S_plot_35 (n := 38) rfl ⟨by decide, by decide⟩ ⟨by decide, by decide⟩ (Nat.le_of_ble_eq_true rfl) rfl rfl (fun r7 u6 => ?_)
    refine g_iload hX d_S_plot_38 (n := 40) rfl rfl ?_
    refine g_iast hX d_S_plot_40 (n := 41) rfl sh_6 ?_
    refine g_mem (fun u8 => ?_)
    refine g_aload_n hX 0 d_S_plot_41 (n := 42) rfl rfl rfl ?_
    refine g_aload hX d_S_plot_42 (n := 44) rfl rfl ?_
    refine g_iload_n hX 2 d_S_plot_44 (n := 45) rfl rfl rfl ?_
    refine g_iload_n hX 3 d_S_plot_45 (n := 46) rfl rfl rfl ?_
    refine g_iload_n hX 2 d_S_plot_46 (n := 47) rfl rfl rfl ?_
    refine g_iconst hX 1 d_S_plot_47 (n := 48) rfl k_iconst_1 ?_
    refine g_iadd hX d_S_plot_48 (n := 49) rfl ?_
    refine g_iload_n hX 3 d_S_plot_49 (n := 50) rfl rfl rfl ?_
    refine g_iconst hX 1 d_S_plot_50 (n := 51) rfl k_iconst_1 ?_
    refine g_iadd hX d_S_plot_51 (n := 52) rfl ?_
    refine g_cVv hX [_, _, _, _, _] rfl 2 12 (c_S_damagePart _ Γ p2 x2 x3 (x2 + 1) (x3 + 1) hp2 u8) gw_S_137 rfl sh_0 rfl d_S_plot_52 (n := 55) rfl ⟨by decide, by decide⟩ ⟨by decide, by decide⟩ (Nat.le_of_ble_eq_true rfl) rfl rfl (fun u9 => ?_)
    refine g_iconst hX 1 d_S_plot_55 (n := 56) rfl k_iconst_1 ?_
    exact g_ixretz hX rfl d_S_plot_56 (by decide) (by decide)
  · refine g_iconst hX 0 d_S_plot_22 (n := 23) rfl k_iconst_0 ?_
    exact g_ixretz hX rfl d_S_plot_23 (by decide) (by decide)
def f_S_plot (x1 : Int32) (x2 : Int32) (x3 : Int32) (x4 : Int32) (σ : Mem) : Option ((Int32 ⊕ String) × Mem) := f_S_plot_0 σ x1 x2 x3 x4
theorem c_S_plot (l : Launch) (hT : l.stackTraces = false) (Γ : GA) (x1 : Int32) (x2 : Int32) (x3 : Int32) (x4 : Int32) (σ : Mem) : gX gxi l y_S_plot b_S_plot 6 (some .boolean) r_S_plot [.ref (Γ.2.1 0), .int x1, .int x2, .int x3, .int x4] Γ σ (f_S_plot x1 x2 x3 x4 σ) :=
  gX.of [some (.ref (Γ.2.1 0)), some (.int x1), some (.int x2), some (.int x3), some (.int x4), none] (by decide) (Nat.le_of_ble_eq_true rfl) rfl rfl (fun κ hX hκ hE => m_S_plot_0 hX hE (by rw [hκ]; exact hT) σ x1 x2 x3 x4)
/-! S_requireExtent -/
theorem d_S_requireExtent_0 : decode b_S_requireExtent 0 = .ok (.iload_n 0, 1) := by decide +kernel
theorem d_S_requireExtent_1 : decode b_S_requireExtent 1 = .ok (.ifCond .lt 10, 3) := by decide +kernel
theorem d_S_requireExtent_4 : decode b_S_requireExtent 4 = .ok (.iload_n 0, 1) := by decide +kernel
theorem d_S_requireExtent_5 : decode b_S_requireExtent 5 = .ok (.sipush 1023, 3) := by decide +kernel
theorem d_S_requireExtent_8 : decode b_S_requireExtent 8 = .ok (.if_icmp .le 11, 3) := by decide +kernel
theorem d_S_requireExtent_11 : decode b_S_requireExtent 11 = .ok (.new 217, 3) := by decide +kernel
theorem d_S_requireExtent_14 : decode b_S_requireExtent 14 = .ok (.dup, 1) := by decide +kernel
theorem d_S_requireExtent_15 : decode b_S_requireExtent 15 = .ok (.invokespecial 219, 3) := by decide +kernel
theorem d_S_requireExtent_18 : decode b_S_requireExtent 18 = .ok (.athrow, 1) := by decide +kernel
theorem d_S_requireExtent_19 : decode b_S_requireExtent 19 = .ok (.return_, 1) := by decide +kernel
abbrev r_S_requireExtent : Room := ⟨6, 1, 6, 81⟩
def f_S_requireExtent_11 (σ : Mem) : Option ((Unit ⊕ String) × Mem) :=
  some (.inr "java/lang/IllegalArgumentException", σ)
set_option maxRecDepth 100000 in
theorem m_S_requireExtent_11 {κ : GC} {Γ : GA} (hX : Gx κ Γ 1 b_S_requireExtent "PaneScreen" r_S_requireExtent none) (hE : ∀ x ∈ κ.2.2.2.2.2.2.2.2.2.exceptionTable.toList, False) (hT : κ.2.1.stackTraces = false) (σ : Mem) : GG κ Γ 1 (gQX gxv κ Γ r_S_requireExtent) 0 0 σ [none] 11 [] (f_S_requireExtent_11 σ) := by
  unfold f_S_requireExtent_11
  exact g_throw hX hE hT gt_S_217 d_S_requireExtent_11 d_S_requireExtent_14 d_S_requireExtent_15 d_S_requireExtent_18 (by decide) (by decide) (by decide) (by decide)
def f_S_requireExtent_0 (σ : Mem) (x0 : Int32) : Option ((Unit ⊕ String) × Mem) :=
  if x0 < 0 then
    f_S_requireExtent_11 σ
  else
    if x0 ≤ 1023 then
      some (.inl (), σ)
    else
      f_S_requireExtent_11 σ
set_option maxRecDepth 100000 in
theorem m_S_requireExtent_0 {κ : GC} {Γ : GA} (hX : Gx κ Γ 1 b_S_requireExtent "PaneScreen" r_S_requireExtent none) (hE : ∀ x ∈ κ.2.2.2.2.2.2.2.2.2.exceptionTable.toList, False) (hT : κ.2.1.stackTraces = false) (σ : Mem) (x0 : Int32) : GG κ Γ 1 (gQX gxv κ Γ r_S_requireExtent) 0 0 σ [some (.int x0)] 0 [] (f_S_requireExtent_0 σ x0) := by
  unfold f_S_requireExtent_0
  refine g_iload_n hX 0 d_S_requireExtent_0 (n := 1) rfl rfl rfl ?_
  refine g_if_lt hX 11 d_S_requireExtent_1 (n := 4) rfl rfl ?_ ?_
  · exact (g_sub (lw := [none]) (True.intro) (m_S_requireExtent_11 hX hE hT σ))
  · refine g_iload_n hX 0 d_S_requireExtent_4 (n := 5) rfl rfl rfl ?_
    refine g_sipush hX 1023 d_S_requireExtent_5 (n := 8) rfl k_sipush_1023 ?_
    refine g_icmp_le hX 19 d_S_requireExtent_8 (n := 11) rfl rfl ?_ ?_
    · exact g_vxret hX d_S_requireExtent_19 (by decide) (by decide)
    · exact (g_sub (lw := [none]) (True.intro) (m_S_requireExtent_11 hX hE hT σ))
def f_S_requireExtent (x0 : Int32) (σ : Mem) : Option ((Unit ⊕ String) × Mem) := f_S_requireExtent_0 σ x0
theorem c_S_requireExtent (l : Launch) (hT : l.stackTraces = false) (Γ : GA) (x0 : Int32) (σ : Mem) : gX gxv l y_S_requireExtent b_S_requireExtent 1 none r_S_requireExtent [.int x0] Γ σ (f_S_requireExtent x0 σ) :=
  gX.of [some (.int x0)] (by decide) (Nat.le_of_ble_eq_true rfl) rfl rfl (fun κ hX hκ hE => m_S_requireExtent_0 hX hE (by rw [hκ]; exact hT) σ x0)
/-! S_fill -/
theorem d_S_fill_0 : decode b_S_fill 0 = .ok (.aload_n 0, 1) := by decide +kernel
theorem d_S_fill_1 : decode b_S_fill 1 = .ok (.iload_n 1, 1) := by decide +kernel
theorem d_S_fill_2 : decode b_S_fill 2 = .ok (.invokevirtual 91, 3) := by decide +kernel
theorem d_S_fill_5 : decode b_S_fill 5 = .ok (.astore 6, 2) := by decide +kernel
theorem d_S_fill_7 : decode b_S_fill 7 = .ok (.iload_n 2, 1) := by decide +kernel
theorem d_S_fill_8 : decode b_S_fill 8 = .ok (.iload_n 3, 1) := by decide +kernel
theorem d_S_fill_9 : decode b_S_fill 9 = .ok (.invokestatic 55, 3) := by decide +kernel
theorem d_S_fill_12 : decode b_S_fill 12 = .ok (.iload 4, 2) := by decide +kernel
theorem d_S_fill_14 : decode b_S_fill 14 = .ok (.invokestatic 141, 3) := by decide +kernel
theorem d_S_fill_17 : decode b_S_fill 17 = .ok (.iload 5, 2) := by decide +kernel
theorem d_S_fill_19 : decode b_S_fill 19 = .ok (.invokestatic 123, 3) := by decide +kernel
theorem d_S_fill_22 : decode b_S_fill 22 = .ok (.iload_n 2, 1) := by decide +kernel
theorem d_S_fill_23 : decode b_S_fill 23 = .ok (.iconst 0, 1) := by decide +kernel
theorem d_S_fill_24 : decode b_S_fill 24 = .ok (.invokestatic 144, 3) := by decide +kernel
theorem d_S_fill_27 : decode b_S_fill 27 = .ok (.istore 7, 2) := by decide +kernel
theorem d_S_fill_29 : decode b_S_fill 29 = .ok (.iload_n 3, 1) := by decide +kernel
theorem d_S_fill_30 : decode b_S_fill 30 = .ok (.iconst 0, 1) := by decide +kernel
theorem d_S_fill_31 : decode b_S_fill 31 = .ok (.invokestatic 144, 3) := by decide +kernel
theorem d_S_fill_34 : decode b_S_fill 34 = .ok (.istore 8, 2) := by decide +kernel
theorem d_S_fill_36 : decode b_S_fill 36 = .ok (.iload_n 2, 1) := by decide +kernel
theorem d_S_fill_37 : decode b_S_fill 37 = .ok (.iload 4, 2) := by decide +kernel
theorem d_S_fill_39 : decode b_S_fill 39 = .ok (.bipush 32, 2) := by decide +kernel
theorem d_S_fill_41 : decode b_S_fill 41 = .ok (.irem, 1) := by decide +kernel
theorem d_S_fill_42 : decode b_S_fill 42 = .ok (.iadd, 1) := by decide +kernel
theorem d_S_fill_43 : decode b_S_fill 43 = .ok (.aload 6, 2) := by decide +kernel
theorem d_S_fill_45 : decode b_S_fill 45 = .ok (.getfield 98, 3) := by decide +kernel
theorem d_S_fill_48 : decode b_S_fill 48 = .ok (.invokestatic 149, 3) := by decide +kernel
theorem d_S_fill_51 : decode b_S_fill 51 = .ok (.istore 9, 2) := by decide +kernel
theorem d_S_fill_53 : decode b_S_fill 53 = .ok (.iload_n 3, 1) := by decide +kernel
theorem d_S_fill_54 : decode b_S_fill 54 = .ok (.iload 4, 2) := by decide +kernel
theorem d_S_fill_56 : decode b_S_fill 56 = .ok (.bipush 32, 2) := by decide +kernel
theorem d_S_fill_58 : decode b_S_fill 58 = .ok (.idiv, 1) := by decide +kernel
theorem d_S_fill_59 : decode b_S_fill 59 = .ok (.iadd, 1) := by decide +kernel
theorem d_S_fill_60 : decode b_S_fill 60 = .ok (.aload 6, 2) := by decide +kernel
theorem d_S_fill_62 : decode b_S_fill 62 = .ok (.getfield 101, 3) := by decide +kernel
theorem d_S_fill_65 : decode b_S_fill 65 = .ok (.invokestatic 149, 3) := by decide +kernel
theorem d_S_fill_68 : decode b_S_fill 68 = .ok (.istore 10, 2) := by decide +kernel
theorem d_S_fill_70 : decode b_S_fill 70 = .ok (.iload 7, 2) := by decide +kernel
theorem d_S_fill_72 : decode b_S_fill 72 = .ok (.iload 9, 2) := by decide +kernel
theorem d_S_fill_74 : decode b_S_fill 74 = .ok (.if_icmp .ge 10, 3) := by decide +kernel
theorem d_S_fill_77 : decode b_S_fill 77 = .ok (.iload 8, 2) := by decide +kernel
theorem d_S_fill_79 : decode b_S_fill 79 = .ok (.iload 10, 2) := by decide +kernel
theorem d_S_fill_81 : decode b_S_fill 81 = .ok (.if_icmp .lt 5, 3) := by decide +kernel
theorem d_S_fill_84 : decode b_S_fill 84 = .ok (.iconst 0, 1) := by decide +kernel
theorem d_S_fill_85 : decode b_S_fill 85 = .ok (.ireturn, 1) := by decide +kernel
theorem d_S_fill_86 : decode b_S_fill 86 = .ok (.iload 8, 2) := by decide +kernel
theorem d_S_fill_88 : decode b_S_fill 88 = .ok (.istore 11, 2) := by decide +kernel
theorem d_S_fill_90 : decode b_S_fill 90 = .ok (.iload 11, 2) := by decide +kernel
theorem d_S_fill_92 : decode b_S_fill 92 = .ok (.iload 10, 2) := by decide +kernel
theorem d_S_fill_94 : decode b_S_fill 94 = .ok (.if_icmp .ge 45, 3) := by decide +kernel
theorem d_S_fill_97 : decode b_S_fill 97 = .ok (.iload 7, 2) := by decide +kernel
theorem d_S_fill_99 : decode b_S_fill 99 = .ok (.istore 12, 2) := by decide +kernel
theorem d_S_fill_101 : decode b_S_fill 101 = .ok (.iload 12, 2) := by decide +kernel
theorem d_S_fill_103 : decode b_S_fill 103 = .ok (.iload 9, 2) := by decide +kernel
theorem d_S_fill_105 : decode b_S_fill 105 = .ok (.if_icmp .ge 28, 3) := by decide +kernel
theorem d_S_fill_108 : decode b_S_fill 108 = .ok (.aload_n 0, 1) := by decide +kernel
theorem d_S_fill_109 : decode b_S_fill 109 = .ok (.getfield 30, 3) := by decide +kernel
theorem d_S_fill_112 : decode b_S_fill 112 = .ok (.getfield 130, 3) := by decide +kernel
theorem d_S_fill_115 : decode b_S_fill 115 = .ok (.aload 6, 2) := by decide +kernel
theorem d_S_fill_117 : decode b_S_fill 117 = .ok (.iload 12, 2) := by decide +kernel
theorem d_S_fill_119 : decode b_S_fill 119 = .ok (.iload 11, 2) := by decide +kernel
theorem d_S_fill_121 : decode b_S_fill 121 = .ok (.invokevirtual 133, 3) := by decide +kernel
theorem d_S_fill_124 : decode b_S_fill 124 = .ok (.iload 5, 2) := by decide +kernel
theorem d_S_fill_126 : decode b_S_fill 126 = .ok (.iastore, 1) := by decide +kernel
theorem d_S_fill_127 : decode b_S_fill 127 = .ok (.iinc 12 1, 3) := by decide +kernel
theorem d_S_fill_130 : decode b_S_fill 130 = .ok (.goto (-29), 3) := by decide +kernel
theorem d_S_fill_133 : decode b_S_fill 133 = .ok (.iinc 11 1, 3) := by decide +kernel
theorem d_S_fill_136 : decode b_S_fill 136 = .ok (.goto (-46), 3) := by decide +kernel
theorem d_S_fill_139 : decode b_S_fill 139 = .ok (.aload_n 0, 1) := by decide +kernel
theorem d_S_fill_140 : decode b_S_fill 140 = .ok (.aload 6, 2) := by decide +kernel
theorem d_S_fill_142 : decode b_S_fill 142 = .ok (.iload 7, 2) := by decide +kernel
theorem d_S_fill_144 : decode b_S_fill 144 = .ok (.iload 8, 2) := by decide +kernel
theorem d_S_fill_146 : decode b_S_fill 146 = .ok (.iload 9, 2) := by decide +kernel
theorem d_S_fill_148 : decode b_S_fill 148 = .ok (.iload 10, 2) := by decide +kernel
theorem d_S_fill_150 : decode b_S_fill 150 = .ok (.invokevirtual 137, 3) := by decide +kernel
theorem d_S_fill_153 : decode b_S_fill 153 = .ok (.iload 9, 2) := by decide +kernel
theorem d_S_fill_155 : decode b_S_fill 155 = .ok (.iload 7, 2) := by decide +kernel
theorem d_S_fill_157 : decode b_S_fill 157 = .ok (.isub, 1) := by decide +kernel
theorem d_S_fill_158 : decode b_S_fill 158 = .ok (.iload 10, 2) := by decide +kernel
theorem d_S_fill_160 : decode b_S_fill 160 = .ok (.iload 8, 2) := by decide +kernel
theorem d_S_fill_162 : decode b_S_fill 162 = .ok (.isub, 1) := by decide +kernel
theorem d_S_fill_163 : decode b_S_fill 163 = .ok (.imul, 1) := by decide +kernel
theorem d_S_fill_164 : decode b_S_fill 164 = .ok (.ireturn, 1) := by decide +kernel
abbrev r_S_fill : Room := ⟨7, 4, 24, 107⟩
def f_S_fill_84 (σ : Mem) : Option ((Int32 ⊕ String) × Mem) :=
  some (.inl 0, σ)
set_option maxRecDepth 100000 in
theorem m_S_fill_84 {κ : GC} {Γ : GA} (hX : Gx κ Γ 13 b_S_fill "PaneScreen" r_S_fill (some .int)) (hE : ∀ x ∈ κ.2.2.2.2.2.2.2.2.2.exceptionTable.toList, False) (hT : κ.2.1.stackTraces = false) (σ : Mem) : GG κ Γ 13 (gQX gxi κ Γ r_S_fill) 4 24 σ [none, none, none, none, none, none, none, none, none, none, none, none, none] 84 [] (f_S_fill_84 σ) := by
  unfold f_S_fill_84
  refine g_iconst hX 0 d_S_fill_84 (n := 85) rfl k_iconst_0 ?_
  exact g_ixret hX d_S_fill_85 (by decide) (by decide)
def f_S_fill_101B (K90 : Mem → Int32 → Nat → Int32 → Int32 → Int32 → Int32 → Int32 → Option ((Int32 ⊕ String) × Mem)) (K101 : Mem → Int32 → Nat → Int32 → Int32 → Int32 → Int32 → Int32 → Int32 → Option ((Int32 ⊕ String) × Mem)) (σ : Mem) (x5 : Int32) (q6 : Nat) (x7 : Int32) (x8 : Int32) (x9 : Int32) (x10 : Int32) (x11 : Int32) (x12 : Int32) : Option ((Int32 ⊕ String) × Mem) :=
  if x9 ≤ x12 then
    K90 σ x5 q6 x7 x8 x9 x10 (x11 + 1)
  else
    gb (f_P_cell q6 x12 x11 σ) fun r2 u1 =>
    if gin r2 400 = true then
      gbm (m2 u1 6 r2.toNatClampNeg x5) fun u3 =>
      K101 u3 x5 q6 x7 x8 x9 x10 x11 (x12 + 1)
    else none
set_option maxRecDepth 100000 in
theorem m_S_fill_101B {κ : GC} {Γ : GA} (hX : Gx κ Γ 13 b_S_fill "PaneScreen" r_S_fill (some .int)) (hE : ∀ x ∈ κ.2.2.2.2.2.2.2.2.2.exceptionTable.toList, False) (hT : κ.2.1.stackTraces = false) (K90 : Mem → Int32 → Nat → Int32 → Int32 → Int32 → Int32 → Int32 → Option ((Int32 ⊕ String) × Mem)) (hK90 : ∀ (σ : Mem) (x5 : Int32) (q6 : Nat) (x7 : Int32) (x8 : Int32) (x9 : Int32) (x10 : Int32) (x11 : Int32), gPn q6 → GG κ Γ 13 (gQX gxi κ Γ r_S_fill) 4 24 σ [some (.ref (Γ.2.1 0)), none, none, none, none, some (.int x5), some (.ref (Γ.2.1 q6)), some (.int x7), some (.int x8), some (.int x9), some (.int x10), some (.int x11), none] 90 [] (K90 σ x5 q6 x7 x8 x9 x10 x11)) (K101 : Mem → Int32 → Nat → Int32 → Int32 → Int32 → Int32 → Int32 → Int32 → Option ((Int32 ⊕ String) × Mem)) (hK101 : ∀ (σ : Mem) (x5 : Int32) (q6 : Nat) (x7 : Int32) (x8 : Int32) (x9 : Int32) (x10 : Int32) (x11 : Int32) (x12 : Int32), gPn q6 → GG κ Γ 13 (gQX gxi κ Γ r_S_fill) 4 24 σ [some (.ref (Γ.2.1 0)), none, none, none, none, some (.int x5), some (.ref (Γ.2.1 q6)), some (.int x7), some (.int x8), some (.int x9), some (.int x10), some (.int x11), some (.int x12)] 101 [] (K101 σ x5 q6 x7 x8 x9 x10 x11 x12)) (σ : Mem) (x5 : Int32) (q6 : Nat) (x7 : Int32) (x8 : Int32) (x9 : Int32) (x10 : Int32) (x11 : Int32) (x12 : Int32) (hq6 : gPn q6) : GG κ Γ 13 (gQX gxi κ Γ r_S_fill) 4 24 σ [some (.ref (Γ.2.1 0)), none, none, none, none, some (.int x5), some (.ref (Γ.2.1 q6)), some (.int x7), some (.int x8), some (.int x9), some (.int x10), some (.int x11), some (.int x12)] 101 [] (f_S_fill_101B K90 K101 σ x5 q6 x7 x8 x9 x10 x11 x12) := by
  unfold f_S_fill_101B
  refine g_iload hX d_S_fill_101 (n := 103) rfl rfl ?_
  refine g_iload hX d_S_fill_103 (n := 105) rfl rfl ?_
  refine g_icmp_ge hX 133 d_S_fill_105 (n := 108) rfl rfl ?_ ?_
  · refine g_iinc hX 1 _ [_, _, _, _, _, _, _, _, _, _, _, _, _] d_S_fill_133 (n := 136) rfl rfl k_iconst_1 rfl (by decide) rfl ?_
    refine g_goto hX 90 d_S_fill_136 rfl ?_
    exact (g_sub (lw := [some (.ref (Γ.2.1 0)), none, none, none, none, some (.int x5), some (.ref (Γ.2.1 q6)), some (.int x7), some (.int x8), some (.int x9), some (.int x10), some (.int (x11 + 1)), none]) (And.intro rfl (And.intro rfl (And.intro rfl (And.intro rfl (And.intro rfl (And.intro rfl (And.intro rfl (And.intro rfl (True.intro))))))))) (hK90 σ x5 q6 x7 x8 x9 x10 (x11 + 1) hq6))
  · refine g_aload_n hX 0 d_S_fill_108 (n := 109) rfl rfl rfl ?_
    refine g_geta hX 5 gf_S_30 d_S_fill_109 (n := 112) rfl sh_0 rfl ?_
    refine g_geta hX 6 gf_S_130 d_S_fill_112 (n := 115) rfl sh_5 rfl ?_
    refine g_aload hX d_S_fill_115 (n := 117) rfl rfl ?_
    refine g_iload hX d_S_fill_117 (n := 119) rfl rfl ?_
    refine g_iload hX d_S_fill_119 (n := 121) rfl rfl ?_
    refine g_cVi hX [_, _] rfl 4 24 (c_P_cell _ Γ q6 x12 x11 hq6 σ) gw_S_133 rfl hq6 rfl d_S_fill_121 (n := 124) rfl ⟨by decide, by decide⟩ ⟨by decide, by decide⟩ (Nat.le_of_ble_eq_true rfl) rfl rfl (fun r2 u1 => ?_)
    refine g_iload hX d_S_fill_124 (n := 126) rfl rfl ?_
    refine g_iast hX d_S_fill_126 (n := 127) rfl sh_6 ?_
    refine g_mem (fun u3 => ?_)
    refine g_iinc hX 1 _ [_, _, _, _, _, _, _, _, _, _, _, _, _] d_S_fill_127 (n := 130) rfl rfl k_iconst_1 rfl (by decide) rfl ?_
    refine g_goto hX 101 d_S_fill_130 rfl ?_
    exact (hK101 u3 x5 q6 x7 x8 x9 x10 x11 (x12 + 1) hq6)
def f_S_fill_101 (K90 : Mem → Int32 → Nat → Int32 → Int32 → Int32 → Int32 → Int32 → Option ((Int32 ⊕ String) × Mem)) (n : Nat) : Mem → Int32 → Nat → Int32 → Int32 → Int32 → Int32 → Int32 → Int32 → Option ((Int32 ⊕ String) × Mem) := gfix (fun _ _ _ _ _ _ _ _ _ => none) (fun K101 => f_S_fill_101B K90 K101) n
theorem m_S_fill_101 {κ : GC} {Γ : GA} (hX : Gx κ Γ 13 b_S_fill "PaneScreen" r_S_fill (some .int)) (hE : ∀ x ∈ κ.2.2.2.2.2.2.2.2.2.exceptionTable.toList, False) (hT : κ.2.1.stackTraces = false) (K90 : Mem → Int32 → Nat → Int32 → Int32 → Int32 → Int32 → Int32 → Option ((Int32 ⊕ String) × Mem)) (hK90 : ∀ (σ : Mem) (x5 : Int32) (q6 : Nat) (x7 : Int32) (x8 : Int32) (x9 : Int32) (x10 : Int32) (x11 : Int32), gPn q6 → GG κ Γ 13 (gQX gxi κ Γ r_S_fill) 4 24 σ [some (.ref (Γ.2.1 0)), none, none, none, none, some (.int x5), some (.ref (Γ.2.1 q6)), some (.int x7), some (.int x8), some (.int x9), some (.int x10), some (.int x11), none] 90 [] (K90 σ x5 q6 x7 x8 x9 x10 x11)) (n : Nat) : ∀ (σ : Mem) (x5 : Int32) (q6 : Nat) (x7 : Int32) (x8 : Int32) (x9 : Int32) (x10 : Int32) (x11 : Int32) (x12 : Int32), gPn q6 → GG κ Γ 13 (gQX gxi κ Γ r_S_fill) 4 24 σ [some (.ref (Γ.2.1 0)), none, none, none, none, some (.int x5), some (.ref (Γ.2.1 q6)), some (.int x7), some (.int x8), some (.int x9), some (.int x10), some (.int x11), some (.int x12)] 101 [] (f_S_fill_101 K90 n σ x5 q6 x7 x8 x9 x10 x11 x12) := by
  induction n with
  | zero => intros; exact g_none
  | succ n ih => intro σ x5 q6 x7 x8 x9 x10 x11 x12 hq6; exact m_S_fill_101B hX hE hT K90 hK90 (f_S_fill_101 K90 n) ih σ x5 q6 x7 x8 x9 x10 x11 x12 hq6
def f_S_fill_90B (K90 : Mem → Int32 → Nat → Int32 → Int32 → Int32 → Int32 → Int32 → Option ((Int32 ⊕ String) × Mem)) (σ : Mem) (x5 : Int32) (q6 : Nat) (x7 : Int32) (x8 : Int32) (x9 : Int32) (x10 : Int32) (x11 : Int32) : Option ((Int32 ⊕ String) × Mem) :=
  if x10 ≤ x11 then
    gbv (f_S_damagePart q6 x7 x8 x9 x10 σ) fun u1 =>
    some (.inl ((x9 - x7) * (x10 - x8)), u1)
  else
    f_S_fill_101 K90 gN σ x5 q6 x7 x8 x9 x10 x11 x7
set_option maxRecDepth 100000 in
theorem m_S_fill_90B {κ : GC} {Γ : GA} (hX : Gx κ Γ 13 b_S_fill "PaneScreen" r_S_fill (some .int)) (hE : ∀ x ∈ κ.2.2.2.2.2.2.2.2.2.exceptionTable.toList, False) (hT : κ.2.1.stackTraces = false) (K90 : Mem → Int32 → Nat → Int32 → Int32 → Int32 → Int32 → Int32 → Option ((Int32 ⊕ String) × Mem)) (hK90 : ∀ (σ : Mem) (x5 : Int32) (q6 : Nat) (x7 : Int32) (x8 : Int32) (x9 : Int32) (x10 : Int32) (x11 : Int32), gPn q6 → GG κ Γ 13 (gQX gxi κ Γ r_S_fill) 4 24 σ [some (.ref (Γ.2.1 0)), none, none, none, none, some (.int x5), some (.ref (Γ.2.1 q6)), some (.int x7), some (.int x8), some (.int x9), some (.int x10), some (.int x11), none] 90 [] (K90 σ x5 q6 x7 x8 x9 x10 x11)) (σ : Mem) (x5 : Int32) (q6 : Nat) (x7 : Int32) (x8 : Int32) (x9 : Int32) (x10 : Int32) (x11 : Int32) (hq6 : gPn q6) : GG κ Γ 13 (gQX gxi κ Γ r_S_fill) 4 24 σ [some (.ref (Γ.2.1 0)), none, none, none, none, some (.int x5), some (.ref (Γ.2.1 q6)), some (.int x7), some (.int x8), some (.int x9), some (.int x10), some (.int x11), none] 90 [] (f_S_fill_90B K90 σ x5 q6 x7 x8 x9 x10 x11) := by
  unfold f_S_fill_90B
  refine g_iload hX d_S_fill_90 (n := 92) rfl rfl ?_
  refine g_iload hX d_S_fill_92 (n := 94) rfl rfl ?_
  refine g_icmp_ge hX 139 d_S_fill_94 (n := 97) rfl rfl ?_ ?_
  · refine g_aload_n hX 0 d_S_fill_139 (n := 140) rfl rfl rfl ?_
    refine g_aload hX d_S_fill_140 (n := 142) rfl rfl ?_
    refine g_iload hX d_S_fill_142 (n := 144) rfl rfl ?_
    refine g_iload hX d_S_fill_144 (n := 146) rfl rfl ?_
    refine g_iload hX d_S_fill_146 (n := 148) rfl rfl ?_
    refine g_iload hX d_S_fill_148 (n := 150) rfl rfl ?_
    refine g_cVv hX [_, _, _, _, _] rfl 4 24 (c_S_damagePart _ Γ q6 x7 x8 x9 x10 hq6 σ) gw_S_137 rfl sh_0 rfl d_S_fill_150 (n := 153) rfl ⟨by decide, by decide⟩ ⟨by decide, by decide⟩ (Nat.le_of_ble_eq_true rfl) rfl rfl (fun u1 => ?_)
    refine g_iload hX d_S_fill_153 (n := 155) rfl rfl ?_
    refine g_iload hX d_S_fill_155 (n := 157) rfl rfl ?_
    refine g_isub hX d_S_fill_157 (n := 158) rfl ?_
    refine g_iload hX d_S_fill_158 (n := 160) rfl rfl ?_
    refine g_iload hX d_S_fill_160 (n := 162) rfl rfl ?_
    refine g_isub hX d_S_fill_162 (n := 163) rfl ?_
    refine g_imul hX d_S_fill_163 (n := 164) rfl ?_
    exact g_ixret hX d_S_fill_164 (by decide) (by decide)
  · refine g_iload hX d_S_fill_97 (n := 99) rfl rfl ?_
    refine g_istore hX [_, _, _, _, _, _, _, _, _, _, _, _, _] d_S_fill_99 (n := 101) rfl (by decide) rfl ?_
    exact (m_S_fill_101 hX hE hT K90 hK90 gN σ x5 q6 x7 x8 x9 x10 x11 x7 hq6)
def f_S_fill_90 (n : Nat) : Mem → Int32 → Nat → Int32 → Int32 → Int32 → Int32 → Int32 → Option ((Int32 ⊕ String) × Mem) := gfix (fun _ _ _ _ _ _ _ _ => none) (fun K90 => f_S_fill_90B K90) n
theorem m_S_fill_90 {κ : GC} {Γ : GA} (hX : Gx κ Γ 13 b_S_fill "PaneScreen" r_S_fill (some .int)) (hE : ∀ x ∈ κ.2.2.2.2.2.2.2.2.2.exceptionTable.toList, False) (hT : κ.2.1.stackTraces = false) (n : Nat) : ∀ (σ : Mem) (x5 : Int32) (q6 : Nat) (x7 : Int32) (x8 : Int32) (x9 : Int32) (x10 : Int32) (x11 : Int32), gPn q6 → GG κ Γ 13 (gQX gxi κ Γ r_S_fill) 4 24 σ [some (.ref (Γ.2.1 0)), none, none, none, none, some (.int x5), some (.ref (Γ.2.1 q6)), some (.int x7), some (.int x8), some (.int x9), some (.int x10), some (.int x11), none] 90 [] (f_S_fill_90 n σ x5 q6 x7 x8 x9 x10 x11) := by
  induction n with
  | zero => intros; exact g_none
  | succ n ih => intro σ x5 q6 x7 x8 x9 x10 x11 hq6; exact m_S_fill_90B hX hE hT (f_S_fill_90 n) ih σ x5 q6 x7 x8 x9 x10 x11 hq6
def f_S_fill_0 (σ : Mem) (x1 : Int32) (x2 : Int32) (x3 : Int32) (x4 : Int32) (x5 : Int32) : Option ((Int32 ⊕ String) × Mem) :=
  gbx (f_S_openPane x1 σ) (fun p2 u1 =>
    if gpn p2 = true then
      gbx (f_S_requireNear x2 x3 u1) (fun _ u3 =>
        gbx (f_S_requireExtent x4 u3) (fun _ u4 =>
          gbx (f_S_requireColour x5 u4) (fun _ u5 =>
            gbi (mmax x2 0) fun y6 =>
            gbi (mmax x3 0) fun y7 =>
            gbi (mmin (x2 + (x4 - x4 / 32 * 32)) (u5 p2 3)) fun y8 =>
            gbi (mmin (x3 + (x4 / 32)) (u5 p2 4)) fun y9 =>
            if y8 ≤ y6 then
              f_S_fill_84 u5
            else
              if y7 < y9 then
                f_S_fill_90 gN u5 x5 p2 y6 y7 y8 y9 y7
              else
                f_S_fill_84 u5
            ) (fun E u => some (.inr E, u))
          ) (fun E u => some (.inr E, u))
        ) (fun E u => some (.inr E, u))
    else none) (fun E u => some (.inr E, u))
set_option maxRecDepth 100000 in
theorem m_S_fill_0 {κ : GC} {Γ : GA} (hX : Gx κ Γ 13 b_S_fill "PaneScreen" r_S_fill (some .int)) (hE : ∀ x ∈ κ.2.2.2.2.2.2.2.2.2.exceptionTable.toList, False) (hT : κ.2.1.stackTraces = false) (σ : Mem) (x1 : Int32) (x2 : Int32) (x3 : Int32) (x4 : Int32) (x5 : Int32) : GG κ Γ 13 (gQX gxi κ Γ r_S_fill) 0 0 σ [some (.ref (Γ.2.1 0)), some (.int x1), some (.int x2), some (.int x3), some (.int x4), some (.int x5), none, none, none, none, none, none, none] 0 [] (f_S_fill_0 σ x1 x2 x3 x4 x5) := by
  unfold f_S_fill_0
  refine g_aload_n hX 0 d_S_fill_0 (n := 1) rfl rfl rfl ?_
  refine g_iload_n hX 1 d_S_fill_1 (n := 2) rfl rfl rfl ?_
  refine g_xVr hX hE [_] rfl 1 6 (c_S_openPane _ hT Γ x1 σ) gw_S_91 rfl sh_0 rfl d_S_fill_2 (n := 5) rfl ⟨by decide, by decide⟩ ⟨by decide, by decide⟩ (Nat.le_of_ble_eq_true rfl) rfl rfl (fun p2 u1 => ?_)
  refine g_pane (fun hp2 => ?_)
  refine g_astore hX [_, _, _, _, _, _, _, _, _, _, _, _, _] d_S_fill_5 (n := 7) rfl (by decide) rfl ?_
  refine g_iload_n hX 2 d_S_fill_7 (n := 8) rfl rfl rfl ?_
  refine g_iload_n hX 3 d_S_fill_8 (n := 9) rfl rfl rfl ?_
  refine g_xSv hX hE [_, _] rfl 2 12 (c_S_requireNear _ hT Γ x2 x3 u1) gw_S_55 rfl d_S_fill_9 (n := 12) rfl ⟨by decide, by decide⟩ ⟨by decide, by decide⟩ (Nat.le_of_ble_eq_true rfl) rfl rfl (fun _ u3 => ?_)
  refine g_iload hX d_S_fill_12 (n := 14) rfl rfl ?_
  refine g_xSv hX hE [_] rfl 3 18 (c_S_requireExtent _ hT Γ x4 u3) gw_S_141 rfl d_S_fill_14 (n := 17) rfl ⟨by decide, by decide⟩ ⟨by decide, by decide⟩ (Nat.le_of_ble_eq_true rfl) rfl rfl (fun _ u4 => ?_)
  refine g_iload hX d_S_fill_17 (n := 19) rfl rfl ?_
  refine g_xSv hX hE [_] rfl 4 24 (c_S_requireColour _ hT Γ x5 u4) gw_S_123 rfl d_S_fill_19 (n := 22) rfl ⟨by decide, by decide⟩ ⟨by decide, by decide⟩ (Nat.le_of_ble_eq_true rfl) rfl rfl (fun _ u5 => ?_)
  refine g_iload_n hX 2 d_S_fill_22 (n := 23) rfl rfl rfl ?_
  refine g_iconst hX 0 d_S_fill_23 (n := 24) rfl k_iconst_0 ?_
  refine g_mmax hX gm_S_144 gms_max gmi gmc_max d_S_fill_24 (n := 27) rfl (by decide) (Nat.le_of_ble_eq_true rfl) (by decide) (by decide) ?_
  refine g_top (fun y6 => ?_)
  refine g_istore hX [_, _, _, _, _, _, _, _, _, _, _, _, _] d_S_fill_27 (n := 29) rfl (by decide) rfl ?_
  refine g_iload_n hX 3 d_S_fill_29 (n := 30) rfl rfl rfl ?_
  refine g_iconst hX 0 d_S_fill_30 (n := 31) rfl k_iconst_0 ?_
  refine g_mmax hX gm_S_144 gms_max gmi gmc_max d_S_fill_31 (n := 34) rfl (by decide) (Nat.le_of_ble_eq_true rfl) (by decide) (by decide) ?_
  refine g_top (fun y7 => ?_)
  refine g_istore hX [_, _, _, _, _, _, _, _, _, _, _, _, _] d_S_fill_34 (n := 36) rfl (by decide) rfl ?_
  refine g_iload_n hX 2 d_S_fill_36 (n := 37) rfl rfl rfl ?_
  refine g_iload hX d_S_fill_37 (n := 39) rfl rfl ?_
  refine g_bipush hX 32 d_S_fill_39 (n := 41) rfl k_bipush_32 ?_
  refine g_iremK hX (by decide) d_S_fill_41 (n := 42) rfl ?_
  refine g_iadd hX d_S_fill_42 (n := 43) rfl ?_
  refine g_aload hX d_S_fill_43 (n := 45) rfl rfl ?_
  refine g_geti hX gf_S_98 d_S_fill_45 (n := 48) rfl hp2 rfl ?_
  refine g_mmin hX gm_S_149 gms_min gmi gmc_min d_S_fill_48 (n := 51) rfl (by decide) (Nat.le_of_ble_eq_true rfl) (by decide) (by decide) ?_
  refine g_top (fun y8 => ?_)
  refine g_istore hX [_, _, _, _, _, _, _, _, _, _, _, _, _] d_S_fill_51 (n := 53) rfl (by decide) rfl ?_
  refine g_iload_n hX 3 d_S_fill_53 (n := 54) rfl rfl rfl ?_
  refine g_iload hX d_S_fill_54 (n := 56) rfl rfl ?_
  refine g_bipush hX 32 d_S_fill_56 (n := 58) rfl k_bipush_32 ?_
  refine g_idivK hX (by decide) d_S_fill_58 (n := 59) rfl ?_
  refine g_iadd hX d_S_fill_59 (n := 60) rfl ?_
  refine g_aload hX d_S_fill_60 (n := 62) rfl rfl ?_
  refine g_geti hX gf_S_101 d_S_fill_62 (n := 65) rfl hp2 rfl ?_
  refine g_mmin hX gm_S_149 gms_min gmi gmc_min d_S_fill_65 (n := 68) rfl (by decide) (Nat.le_of_ble_eq_true rfl) (by decide) (by decide) ?_
  refine g_top (fun y9 => ?_)
  refine g_istore hX [_, _, _, _, _, _, _, _, _, _, _, _, _] d_S_fill_68 (n := 70) rfl (by decide) rfl ?_
  refine g_iload hX d_S_fill_70 (n := 72) rfl rfl ?_
  refine g_iload hX d_S_fill_72 (n := 74) rfl rfl ?_
  refine g_icmp_ge hX 84 d_S_fill_74 (n := 77) rfl rfl ?_ ?_
  · exact (g_sub (lw := [none, none, none, none, none, none, none, none, none, none, none, none, none]) (True.intro) (m_S_fill_84 hX hE hT u5))
  · refine g_iload hX d_S_fill_77 (n := 79) rfl rfl ?_
    refine g_iload hX d_S_fill_79 (n := 81) rfl rfl ?_
    refine g_icmp_lt hX 86 d_S_fill_81 (n := 84) rfl rfl ?_ ?_
    · refine g_iload hX d_S_fill_86 (n := 88) rfl rfl ?_
      refine g_istore hX [_, _, _, _, _, _, _, _, _, _, _, _, _] d_S_fill_88 (n := 90) rfl (by decide) rfl ?_
      exact (g_sub (lw := [some (.ref (Γ.2.1 0)), none, none, none, none, some (.int x5), some (.ref (Γ.2.1 p2)), some (.int y6), some (.int y7), some (.int y8), some (.int y9), some (.int y7), none]) (And.intro rfl (And.intro rfl (And.intro rfl (And.intro rfl (And.intro rfl (And.intro rfl (And.intro rfl (And.intro rfl (True.intro))))))))) (m_S_fill_90 hX hE hT gN u5 x5 p2 y6 y7 y8 y9 y7 hp2))
    · exact (g_sub (lw := [none, none, none, none, none, none, none, none, none, none, none, none, none]) (True.intro) (m_S_fill_84 hX hE hT u5))
def f_S_fill (x1 : Int32) (x2 : Int32) (x3 : Int32) (x4 : Int32) (x5 : Int32) (σ : Mem) : Option ((Int32 ⊕ String) × Mem) := f_S_fill_0 σ x1 x2 x3 x4 x5
theorem c_S_fill (l : Launch) (hT : l.stackTraces = false) (Γ : GA) (x1 : Int32) (x2 : Int32) (x3 : Int32) (x4 : Int32) (x5 : Int32) (σ : Mem) : gX gxi l y_S_fill b_S_fill 13 (some .int) r_S_fill [.ref (Γ.2.1 0), .int x1, .int x2, .int x3, .int x4, .int x5] Γ σ (f_S_fill x1 x2 x3 x4 x5 σ) :=
  gX.of [some (.ref (Γ.2.1 0)), some (.int x1), some (.int x2), some (.int x3), some (.int x4), some (.int x5), none, none, none, none, none, none, none] (by decide) (Nat.le_of_ble_eq_true rfl) rfl rfl (fun κ hX hκ hE => m_S_fill_0 hX hE (by rw [hκ]; exact hT) σ x1 x2 x3 x4 x5)
/-! S_pen -/
theorem d_S_pen_0 : decode b_S_pen 0 = .ok (.aload_n 0, 1) := by decide +kernel
theorem d_S_pen_1 : decode b_S_pen 1 = .ok (.iload_n 1, 1) := by decide +kernel
theorem d_S_pen_2 : decode b_S_pen 2 = .ok (.invokevirtual 91, 3) := by decide +kernel
theorem d_S_pen_5 : decode b_S_pen 5 = .ok (.astore 4, 2) := by decide +kernel
theorem d_S_pen_7 : decode b_S_pen 7 = .ok (.iload_n 2, 1) := by decide +kernel
theorem d_S_pen_8 : decode b_S_pen 8 = .ok (.iload_n 3, 1) := by decide +kernel
theorem d_S_pen_9 : decode b_S_pen 9 = .ok (.invokestatic 55, 3) := by decide +kernel
theorem d_S_pen_12 : decode b_S_pen 12 = .ok (.aload 4, 2) := by decide +kernel
theorem d_S_pen_14 : decode b_S_pen 14 = .ok (.iload_n 2, 1) := by decide +kernel
theorem d_S_pen_15 : decode b_S_pen 15 = .ok (.iload_n 3, 1) := by decide +kernel
theorem d_S_pen_16 : decode b_S_pen 16 = .ok (.invokevirtual 152, 3) := by decide +kernel
theorem d_S_pen_19 : decode b_S_pen 19 = .ok (.return_, 1) := by decide +kernel
abbrev r_S_pen : Room := ⟨7, 2, 12, 102⟩
def f_S_pen_0 (σ : Mem) (x1 : Int32) (x2 : Int32) (x3 : Int32) : Option ((Unit ⊕ String) × Mem) :=
  gbx (f_S_openPane x1 σ) (fun p2 u1 =>
    if gpn p2 = true then
      gbx (f_S_requireNear x2 x3 u1) (fun _ u3 =>
        gbv (f_P_putPen p2 x2 x3 u3) fun u4 =>
        some (.inl (), u4)
        ) (fun E u => some (.inr E, u))
    else none) (fun E u => some (.inr E, u))
set_option maxRecDepth 100000 in
theorem m_S_pen_0 {κ : GC} {Γ : GA} (hX : Gx κ Γ 5 b_S_pen "PaneScreen" r_S_pen none) (hE : ∀ x ∈ κ.2.2.2.2.2.2.2.2.2.exceptionTable.toList, False) (hT : κ.2.1.stackTraces = false) (σ : Mem) (x1 : Int32) (x2 : Int32) (x3 : Int32) : GG κ Γ 5 (gQX gxv κ Γ r_S_pen) 0 0 σ [some (.ref (Γ.2.1 0)), some (.int x1), some (.int x2), some (.int x3), none] 0 [] (f_S_pen_0 σ x1 x2 x3) := by
  unfold f_S_pen_0
  refine g_aload_n hX 0 d_S_pen_0 (n := 1) rfl rfl rfl ?_
  refine g_iload_n hX 1 d_S_pen_1 (n := 2) rfl rfl rfl ?_
  refine g_xVr hX hE [_] rfl 1 6 (c_S_openPane _ hT Γ x1 σ) gw_S_91 rfl sh_0 rfl d_S_pen_2 (n := 5) rfl ⟨by decide, by decide⟩ ⟨by decide, by decide⟩ (Nat.le_of_ble_eq_true rfl) rfl rfl (fun p2 u1 => ?_)
  refine g_pane (fun hp2 => ?_)
  refine g_astore hX [_, _, _, _, _] d_S_pen_5 (n := 7) rfl (by decide) rfl ?_
  refine g_iload_n hX 2 d_S_pen_7 (n := 8) rfl rfl rfl ?_
  refine g_iload_n hX 3 d_S_pen_8 (n := 9) rfl rfl rfl ?_
  refine g_xSv hX hE [_, _] rfl 2 12 (c_S_requireNear _ hT Γ x2 x3 u1) gw_S_55 rfl d_S_pen_9 (n := 12) rfl ⟨by decide, by decide⟩ ⟨by decide, by decide⟩ (Nat.le_of_ble_eq_true rfl) rfl rfl (fun _ u3 => ?_)
  refine g_aload hX d_S_pen_12 (n := 14) rfl rfl ?_
  refine g_iload_n hX 2 d_S_pen_14 (n := 15) rfl rfl rfl ?_
  refine g_iload_n hX 3 d_S_pen_15 (n := 16) rfl rfl rfl ?_
  refine g_cVv hX [_, _] rfl 2 12 (c_P_putPen _ Γ p2 x2 x3 hp2 u3) gw_S_152 rfl hp2 rfl d_S_pen_16 (n := 19) rfl ⟨by decide, by decide⟩ ⟨by decide, by decide⟩ (Nat.le_of_ble_eq_true rfl) rfl rfl (fun u4 => ?_)
  exact g_vxret hX d_S_pen_19 (by decide) (by decide)
def f_S_pen (x1 : Int32) (x2 : Int32) (x3 : Int32) (σ : Mem) : Option ((Unit ⊕ String) × Mem) := f_S_pen_0 σ x1 x2 x3
theorem c_S_pen (l : Launch) (hT : l.stackTraces = false) (Γ : GA) (x1 : Int32) (x2 : Int32) (x3 : Int32) (σ : Mem) : gX gxv l y_S_pen b_S_pen 5 none r_S_pen [.ref (Γ.2.1 0), .int x1, .int x2, .int x3] Γ σ (f_S_pen x1 x2 x3 σ) :=
  gX.of [some (.ref (Γ.2.1 0)), some (.int x1), some (.int x2), some (.int x3), none] (by decide) (Nat.le_of_ble_eq_true rfl) rfl rfl (fun κ hX hκ hE => m_S_pen_0 hX hE (by rw [hκ]; exact hT) σ x1 x2 x3)
/-! S_stepped -/
theorem d_S_stepped_0 : decode b_S_stepped 0 = .ok (.iload_n 2, 1) := by decide +kernel
theorem d_S_stepped_1 : decode b_S_stepped 1 = .ok (.ifCond .ne 5, 3) := by decide +kernel
theorem d_S_stepped_4 : decode b_S_stepped 4 = .ok (.iconst 0, 1) := by decide +kernel
theorem d_S_stepped_5 : decode b_S_stepped 5 = .ok (.ireturn, 1) := by decide +kernel
theorem d_S_stepped_6 : decode b_S_stepped 6 = .ok (.iconst 2, 1) := by decide +kernel
theorem d_S_stepped_7 : decode b_S_stepped 7 = .ok (.iload_n 0, 1) := by decide +kernel
theorem d_S_stepped_8 : decode b_S_stepped 8 = .ok (.imul, 1) := by decide +kernel
theorem d_S_stepped_9 : decode b_S_stepped 9 = .ok (.iload_n 1, 1) := by decide +kernel
theorem d_S_stepped_10 : decode b_S_stepped 10 = .ok (.imul, 1) := by decide +kernel
theorem d_S_stepped_11 : decode b_S_stepped 11 = .ok (.iload_n 2, 1) := by decide +kernel
theorem d_S_stepped_12 : decode b_S_stepped 12 = .ok (.iadd, 1) := by decide +kernel
theorem d_S_stepped_13 : decode b_S_stepped 13 = .ok (.iconst 2, 1) := by decide +kernel
theorem d_S_stepped_14 : decode b_S_stepped 14 = .ok (.iload_n 2, 1) := by decide +kernel
theorem d_S_stepped_15 : decode b_S_stepped 15 = .ok (.imul, 1) := by decide +kernel
theorem d_S_stepped_16 : decode b_S_stepped 16 = .ok (.invokestatic 263, 3) := by decide +kernel
theorem d_S_stepped_19 : decode b_S_stepped 19 = .ok (.ireturn, 1) := by decide +kernel
abbrev r_S_stepped : Room := ⟨1, 0, 0, 22⟩
def f_S_stepped_0 (σ : Mem) (x0 : Int32) (x1 : Int32) (x2 : Int32) : Option (Int32 × Mem) :=
  if x2 = 0 then
    some (0, σ)
  else
    if (2 * x2) = 0 then none else
    some ((mfdiv (((2 * x0) * x1) + x2) (2 * x2)), σ)
set_option maxRecDepth 100000 in
theorem m_S_stepped_0 {κ : GC} {Γ : GA} (hX : Gx κ Γ 3 b_S_stepped "PaneScreen" r_S_stepped (some .int)) (σ : Mem) (x0 : Int32) (x1 : Int32) (x2 : Int32) : GG κ Γ 3 (gQ gqi κ Γ r_S_stepped) 0 0 σ [some (.int x0), some (.int x1), some (.int x2)] 0 [] (f_S_stepped_0 σ x0 x1 x2) := by
  unfold f_S_stepped_0
  refine g_iload_n hX 2 d_S_stepped_0 (n := 1) rfl rfl rfl ?_
  refine g_if_ne hX 6 d_S_stepped_1 (n := 4) rfl rfl ?_ ?_
  · refine g_iconst hX 2 d_S_stepped_6 (n := 7) rfl k_iconst_2 ?_
    refine g_iload_n hX 0 d_S_stepped_7 (n := 8) rfl rfl rfl ?_
    refine g_imul hX d_S_stepped_8 (n := 9) rfl ?_
    refine g_iload_n hX 1 d_S_stepped_9 (n := 10) rfl rfl rfl ?_
    refine g_imul hX d_S_stepped_10 (n := 11) rfl ?_
    refine g_iload_n hX 2 d_S_stepped_11 (n := 12) rfl rfl rfl ?_
    refine g_iadd hX d_S_stepped_12 (n := 13) rfl ?_
    refine g_iconst hX 2 d_S_stepped_13 (n := 14) rfl k_iconst_2 ?_
    refine g_iload_n hX 2 d_S_stepped_14 (n := 15) rfl rfl rfl ?_
    refine g_imul hX d_S_stepped_15 (n := 16) rfl ?_
    refine g_mfdiv hX gm_S_263 gms_floorDiv gmi gmc_floorDiv d_S_stepped_16 (n := 19) rfl (by decide) (Nat.le_of_ble_eq_true rfl) (by decide) (by decide) ?_
    exact g_iret hX d_S_stepped_19 (by decide) (by decide)
  · refine g_iconst hX 0 d_S_stepped_4 (n := 5) rfl k_iconst_0 ?_
    exact g_iret hX d_S_stepped_5 (by decide) (by decide)
def f_S_stepped (x0 : Int32) (x1 : Int32) (x2 : Int32) (σ : Mem) : Option (Int32 × Mem) := f_S_stepped_0 σ x0 x1 x2
theorem c_S_stepped (l : Launch) (Γ : GA) (x0 : Int32) (x1 : Int32) (x2 : Int32) (σ : Mem) : gM gqi l y_S_stepped b_S_stepped 3 (some .int) r_S_stepped [.int x0, .int x1, .int x2] Γ σ (f_S_stepped x0 x1 x2 σ) :=
  gM.of [some (.int x0), some (.int x1), some (.int x2)] (by decide) (Nat.le_of_ble_eq_true rfl) rfl rfl (fun κ hX _ => m_S_stepped_0 hX σ x0 x1 x2)
/-! S_drawFromPen -/
theorem d_S_drawFromPen_0 : decode b_S_drawFromPen 0 = .ok (.iload_n 2, 1) := by decide +kernel
theorem d_S_drawFromPen_1 : decode b_S_drawFromPen 1 = .ok (.aload_n 1, 1) := by decide +kernel
theorem d_S_drawFromPen_2 : decode b_S_drawFromPen 2 = .ok (.getfield 250, 3) := by decide +kernel
theorem d_S_drawFromPen_5 : decode b_S_drawFromPen 5 = .ok (.isub, 1) := by decide +kernel
theorem d_S_drawFromPen_6 : decode b_S_drawFromPen 6 = .ok (.istore 5, 2) := by decide +kernel
theorem d_S_drawFromPen_8 : decode b_S_drawFromPen 8 = .ok (.iload_n 3, 1) := by decide +kernel
theorem d_S_drawFromPen_9 : decode b_S_drawFromPen 9 = .ok (.aload_n 1, 1) := by decide +kernel
theorem d_S_drawFromPen_10 : decode b_S_drawFromPen 10 = .ok (.getfield 253, 3) := by decide +kernel
theorem d_S_drawFromPen_13 : decode b_S_drawFromPen 13 = .ok (.isub, 1) := by decide +kernel
theorem d_S_drawFromPen_14 : decode b_S_drawFromPen 14 = .ok (.istore 6, 2) := by decide +kernel
theorem d_S_drawFromPen_16 : decode b_S_drawFromPen 16 = .ok (.iload 5, 2) := by decide +kernel
theorem d_S_drawFromPen_18 : decode b_S_drawFromPen 18 = .ok (.invokestatic 256, 3) := by decide +kernel
theorem d_S_drawFromPen_21 : decode b_S_drawFromPen 21 = .ok (.iload 6, 2) := by decide +kernel
theorem d_S_drawFromPen_23 : decode b_S_drawFromPen 23 = .ok (.invokestatic 256, 3) := by decide +kernel
theorem d_S_drawFromPen_26 : decode b_S_drawFromPen 26 = .ok (.invokestatic 144, 3) := by decide +kernel
theorem d_S_drawFromPen_29 : decode b_S_drawFromPen 29 = .ok (.istore 7, 2) := by decide +kernel
theorem d_S_drawFromPen_31 : decode b_S_drawFromPen 31 = .ok (.aload_n 1, 1) := by decide +kernel
theorem d_S_drawFromPen_32 : decode b_S_drawFromPen 32 = .ok (.getfield 98, 3) := by decide +kernel
theorem d_S_drawFromPen_35 : decode b_S_drawFromPen 35 = .ok (.istore 8, 2) := by decide +kernel
theorem d_S_drawFromPen_37 : decode b_S_drawFromPen 37 = .ok (.aload_n 1, 1) := by decide +kernel
theorem d_S_drawFromPen_38 : decode b_S_drawFromPen 38 = .ok (.getfield 101, 3) := by decide +kernel
theorem d_S_drawFromPen_41 : decode b_S_drawFromPen 41 = .ok (.istore 9, 2) := by decide +kernel
theorem d_S_drawFromPen_43 : decode b_S_drawFromPen 43 = .ok (.iconst 0, 1) := by decide +kernel
theorem d_S_drawFromPen_44 : decode b_S_drawFromPen 44 = .ok (.istore 10, 2) := by decide +kernel
theorem d_S_drawFromPen_46 : decode b_S_drawFromPen 46 = .ok (.iconst 0, 1) := by decide +kernel
theorem d_S_drawFromPen_47 : decode b_S_drawFromPen 47 = .ok (.istore 11, 2) := by decide +kernel
theorem d_S_drawFromPen_49 : decode b_S_drawFromPen 49 = .ok (.iconst 0, 1) := by decide +kernel
theorem d_S_drawFromPen_50 : decode b_S_drawFromPen 50 = .ok (.istore 12, 2) := by decide +kernel
theorem d_S_drawFromPen_52 : decode b_S_drawFromPen 52 = .ok (.iconst 0, 1) := by decide +kernel
theorem d_S_drawFromPen_53 : decode b_S_drawFromPen 53 = .ok (.istore 13, 2) := by decide +kernel
theorem d_S_drawFromPen_55 : decode b_S_drawFromPen 55 = .ok (.iload 13, 2) := by decide +kernel
theorem d_S_drawFromPen_57 : decode b_S_drawFromPen 57 = .ok (.iload 7, 2) := by decide +kernel
theorem d_S_drawFromPen_59 : decode b_S_drawFromPen 59 = .ok (.if_icmp .gt 113, 3) := by decide +kernel
theorem d_S_drawFromPen_62 : decode b_S_drawFromPen 62 = .ok (.aload_n 1, 1) := by decide +kernel
theorem d_S_drawFromPen_63 : decode b_S_drawFromPen 63 = .ok (.getfield 250, 3) := by decide +kernel
theorem d_S_drawFromPen_66 : decode b_S_drawFromPen 66 = .ok (.iload 13, 2) := by decide +kernel
theorem d_S_drawFromPen_68 : decode b_S_drawFromPen 68 = .ok (.iload 5, 2) := by decide +kernel
theorem d_S_drawFromPen_70 : decode b_S_drawFromPen 70 = .ok (.iload 7, 2) := by decide +kernel
theorem d_S_drawFromPen_72 : decode b_S_drawFromPen 72 = .ok (.invokestatic 259, 3) := by decide +kernel
theorem d_S_drawFromPen_75 : decode b_S_drawFromPen 75 = .ok (.iadd, 1) := by decide +kernel
theorem d_S_drawFromPen_76 : decode b_S_drawFromPen 76 = .ok (.istore 14, 2) := by decide +kernel
theorem d_S_drawFromPen_78 : decode b_S_drawFromPen 78 = .ok (.aload_n 1, 1) := by decide +kernel
theorem d_S_drawFromPen_79 : decode b_S_drawFromPen 79 = .ok (.getfield 253, 3) := by decide +kernel
theorem d_S_drawFromPen_82 : decode b_S_drawFromPen 82 = .ok (.iload 13, 2) := by decide +kernel
theorem d_S_drawFromPen_84 : decode b_S_drawFromPen 84 = .ok (.iload 6, 2) := by decide +kernel
theorem d_S_drawFromPen_86 : decode b_S_drawFromPen 86 = .ok (.iload 7, 2) := by decide +kernel
theorem d_S_drawFromPen_88 : decode b_S_drawFromPen 88 = .ok (.invokestatic 259, 3) := by decide +kernel
theorem d_S_drawFromPen_91 : decode b_S_drawFromPen 91 = .ok (.iadd, 1) := by decide +kernel
theorem d_S_drawFromPen_92 : decode b_S_drawFromPen 92 = .ok (.istore 15, 2) := by decide +kernel
theorem d_S_drawFromPen_94 : decode b_S_drawFromPen 94 = .ok (.aload_n 1, 1) := by decide +kernel
theorem d_S_drawFromPen_95 : decode b_S_drawFromPen 95 = .ok (.iload 14, 2) := by decide +kernel
theorem d_S_drawFromPen_97 : decode b_S_drawFromPen 97 = .ok (.iload 15, 2) := by decide +kernel
theorem d_S_drawFromPen_99 : decode b_S_drawFromPen 99 = .ok (.invokevirtual 126, 3) := by decide +kernel
theorem d_S_drawFromPen_102 : decode b_S_drawFromPen 102 = .ok (.ifCond .eq 64, 3) := by decide +kernel
theorem d_S_drawFromPen_105 : decode b_S_drawFromPen 105 = .ok (.aload_n 0, 1) := by decide +kernel
theorem d_S_drawFromPen_106 : decode b_S_drawFromPen 106 = .ok (.getfield 30, 3) := by decide +kernel
theorem d_S_drawFromPen_109 : decode b_S_drawFromPen 109 = .ok (.getfield 130, 3) := by decide +kernel
theorem d_S_drawFromPen_112 : decode b_S_drawFromPen 112 = .ok (.aload_n 1, 1) := by decide +kernel
theorem d_S_drawFromPen_113 : decode b_S_drawFromPen 113 = .ok (.iload 14, 2) := by decide +kernel
theorem d_S_drawFromPen_115 : decode b_S_drawFromPen 115 = .ok (.iload 15, 2) := by decide +kernel
theorem d_S_drawFromPen_117 : decode b_S_drawFromPen 117 = .ok (.invokevirtual 133, 3) := by decide +kernel
theorem d_S_drawFromPen_120 : decode b_S_drawFromPen 120 = .ok (.iload 4, 2) := by decide +kernel
theorem d_S_drawFromPen_122 : decode b_S_drawFromPen 122 = .ok (.iastore, 1) := by decide +kernel
theorem d_S_drawFromPen_123 : decode b_S_drawFromPen 123 = .ok (.iload 8, 2) := by decide +kernel
theorem d_S_drawFromPen_125 : decode b_S_drawFromPen 125 = .ok (.iload 14, 2) := by decide +kernel
theorem d_S_drawFromPen_127 : decode b_S_drawFromPen 127 = .ok (.invokestatic 149, 3) := by decide +kernel
theorem d_S_drawFromPen_130 : decode b_S_drawFromPen 130 = .ok (.istore 8, 2) := by decide +kernel
theorem d_S_drawFromPen_132 : decode b_S_drawFromPen 132 = .ok (.iload 9, 2) := by decide +kernel
theorem d_S_drawFromPen_134 : decode b_S_drawFromPen 134 = .ok (.iload 15, 2) := by decide +kernel
theorem d_S_drawFromPen_136 : decode b_S_drawFromPen 136 = .ok (.invokestatic 149, 3) := by decide +kernel
theorem d_S_drawFromPen_139 : decode b_S_drawFromPen 139 = .ok (.istore 9, 2) := by decide +kernel
theorem d_S_drawFromPen_141 : decode b_S_drawFromPen 141 = .ok (.iload 10, 2) := by decide +kernel
theorem d_S_drawFromPen_143 : decode b_S_drawFromPen 143 = .ok (.iload 14, 2) := by decide +kernel
theorem d_S_drawFromPen_145 : decode b_S_drawFromPen 145 = .ok (.iconst 1, 1) := by decide +kernel
theorem d_S_drawFromPen_146 : decode b_S_drawFromPen 146 = .ok (.iadd, 1) := by decide +kernel
theorem d_S_drawFromPen_147 : decode b_S_drawFromPen 147 = .ok (.invokestatic 144, 3) := by decide +kernel
theorem d_S_drawFromPen_150 : decode b_S_drawFromPen 150 = .ok (.istore 10, 2) := by decide +kernel
theorem d_S_drawFromPen_152 : decode b_S_drawFromPen 152 = .ok (.iload 11, 2) := by decide +kernel
theorem d_S_drawFromPen_154 : decode b_S_drawFromPen 154 = .ok (.iload 15, 2) := by decide +kernel
theorem d_S_drawFromPen_156 : decode b_S_drawFromPen 156 = .ok (.iconst 1, 1) := by decide +kernel
theorem d_S_drawFromPen_157 : decode b_S_drawFromPen 157 = .ok (.iadd, 1) := by decide +kernel
theorem d_S_drawFromPen_158 : decode b_S_drawFromPen 158 = .ok (.invokestatic 144, 3) := by decide +kernel
theorem d_S_drawFromPen_161 : decode b_S_drawFromPen 161 = .ok (.istore 11, 2) := by decide +kernel
theorem d_S_drawFromPen_163 : decode b_S_drawFromPen 163 = .ok (.iinc 12 1, 3) := by decide +kernel
theorem d_S_drawFromPen_166 : decode b_S_drawFromPen 166 = .ok (.iinc 13 1, 3) := by decide +kernel
theorem d_S_drawFromPen_169 : decode b_S_drawFromPen 169 = .ok (.goto (-114), 3) := by decide +kernel
theorem d_S_drawFromPen_172 : decode b_S_drawFromPen 172 = .ok (.iload 12, 2) := by decide +kernel
theorem d_S_drawFromPen_174 : decode b_S_drawFromPen 174 = .ok (.ifCond .le 16, 3) := by decide +kernel
theorem d_S_drawFromPen_177 : decode b_S_drawFromPen 177 = .ok (.aload_n 0, 1) := by decide +kernel
theorem d_S_drawFromPen_178 : decode b_S_drawFromPen 178 = .ok (.aload_n 1, 1) := by decide +kernel
theorem d_S_drawFromPen_179 : decode b_S_drawFromPen 179 = .ok (.iload 8, 2) := by decide +kernel
theorem d_S_drawFromPen_181 : decode b_S_drawFromPen 181 = .ok (.iload 9, 2) := by decide +kernel
theorem d_S_drawFromPen_183 : decode b_S_drawFromPen 183 = .ok (.iload 10, 2) := by decide +kernel
theorem d_S_drawFromPen_185 : decode b_S_drawFromPen 185 = .ok (.iload 11, 2) := by decide +kernel
theorem d_S_drawFromPen_187 : decode b_S_drawFromPen 187 = .ok (.invokevirtual 137, 3) := by decide +kernel
theorem d_S_drawFromPen_190 : decode b_S_drawFromPen 190 = .ok (.iload 12, 2) := by decide +kernel
theorem d_S_drawFromPen_192 : decode b_S_drawFromPen 192 = .ok (.ireturn, 1) := by decide +kernel
abbrev r_S_drawFromPen : Room := ⟨4, 0, 0, 107⟩
def f_S_drawFromPen_166 (K55 : Mem → Nat → Int32 → Int32 → Int32 → Int32 → Int32 → Int32 → Int32 → Int32 → Int32 → Int32 → Option (Int32 × Mem)) (σ : Mem) (q1 : Nat) (x4 : Int32) (x5 : Int32) (x6 : Int32) (x7 : Int32) (x8 : Int32) (x9 : Int32) (x10 : Int32) (x11 : Int32) (x12 : Int32) (x13 : Int32) : Option (Int32 × Mem) :=
  K55 σ q1 x4 x5 x6 x7 x8 x9 x10 x11 x12 (x13 + 1)
set_option maxRecDepth 100000 in
theorem m_S_drawFromPen_166 {κ : GC} {Γ : GA} (hX : Gx κ Γ 16 b_S_drawFromPen "PaneScreen" r_S_drawFromPen (some .int)) (K55 : Mem → Nat → Int32 → Int32 → Int32 → Int32 → Int32 → Int32 → Int32 → Int32 → Int32 → Int32 → Option (Int32 × Mem)) (hK55 : ∀ (σ : Mem) (q1 : Nat) (x4 : Int32) (x5 : Int32) (x6 : Int32) (x7 : Int32) (x8 : Int32) (x9 : Int32) (x10 : Int32) (x11 : Int32) (x12 : Int32) (x13 : Int32), gPn q1 → GG κ Γ 16 (gQ gqi κ Γ r_S_drawFromPen) 0 0 σ [some (.ref (Γ.2.1 0)), some (.ref (Γ.2.1 q1)), none, none, some (.int x4), some (.int x5), some (.int x6), some (.int x7), some (.int x8), some (.int x9), some (.int x10), some (.int x11), some (.int x12), some (.int x13), none, none] 55 [] (K55 σ q1 x4 x5 x6 x7 x8 x9 x10 x11 x12 x13)) (σ : Mem) (q1 : Nat) (x4 : Int32) (x5 : Int32) (x6 : Int32) (x7 : Int32) (x8 : Int32) (x9 : Int32) (x10 : Int32) (x11 : Int32) (x12 : Int32) (x13 : Int32) (hq1 : gPn q1) : GG κ Γ 16 (gQ gqi κ Γ r_S_drawFromPen) 0 0 σ [some (.ref (Γ.2.1 0)), some (.ref (Γ.2.1 q1)), none, none, some (.int x4), some (.int x5), some (.int x6), some (.int x7), some (.int x8), some (.int x9), some (.int x10), some (.int x11), some (.int x12), some (.int x13), none, none] 166 [] (f_S_drawFromPen_166 K55 σ q1 x4 x5 x6 x7 x8 x9 x10 x11 x12 x13) := by
  unfold f_S_drawFromPen_166
  refine g_iinc hX 1 _ [_, _, _, _, _, _, _, _, _, _, _, _, _, _, _, _] d_S_drawFromPen_166 (n := 169) rfl rfl k_iconst_1 rfl (by decide) rfl ?_
  refine g_goto hX 55 d_S_drawFromPen_169 rfl ?_
  exact (hK55 σ q1 x4 x5 x6 x7 x8 x9 x10 x11 x12 (x13 + 1) hq1)
def f_S_drawFromPen_190 (σ : Mem) (x12 : Int32) : Option (Int32 × Mem) :=
  some (x12, σ)
set_option maxRecDepth 100000 in
theorem m_S_drawFromPen_190 {κ : GC} {Γ : GA} (hX : Gx κ Γ 16 b_S_drawFromPen "PaneScreen" r_S_drawFromPen (some .int)) (σ : Mem) (x12 : Int32) : GG κ Γ 16 (gQ gqi κ Γ r_S_drawFromPen) 0 0 σ [none, none, none, none, none, none, none, none, none, none, none, none, some (.int x12), none, none, none] 190 [] (f_S_drawFromPen_190 σ x12) := by
  unfold f_S_drawFromPen_190
  refine g_iload hX d_S_drawFromPen_190 (n := 192) rfl rfl ?_
  exact g_iret hX d_S_drawFromPen_192 (by decide) (by decide)
def f_S_drawFromPen_55B (K55 : Mem → Nat → Int32 → Int32 → Int32 → Int32 → Int32 → Int32 → Int32 → Int32 → Int32 → Int32 → Option (Int32 × Mem)) (σ : Mem) (q1 : Nat) (x4 : Int32) (x5 : Int32) (x6 : Int32) (x7 : Int32) (x8 : Int32) (x9 : Int32) (x10 : Int32) (x11 : Int32) (x12 : Int32) (x13 : Int32) : Option (Int32 × Mem) :=
  if x7 < x13 then
    if x12 ≤ 0 then
      f_S_drawFromPen_190 σ x12
    else
      gbv (f_S_damagePart q1 x8 x9 x10 x11 σ) fun u1 =>
      f_S_drawFromPen_190 u1 x12
  else
    gb (f_S_stepped x13 x5 x7 σ) fun r3 u2 =>
    gbi ((σ q1 6) + r3) fun y4 =>
    gb (f_S_stepped x13 x6 x7 u2) fun r6 u5 =>
    gbi ((u2 q1 7) + r6) fun y7 =>
    gb (f_P_has q1 y4 y7 u5) fun r9 u8 =>
    if r9 = 0 then
      f_S_drawFromPen_166 K55 u8 q1 x4 x5 x6 x7 x8 x9 x10 x11 x12 x13
    else
      gb (f_P_cell q1 y4 y7 u8) fun r11 u10 =>
      if gin r11 400 = true then
        gbm (m2 u10 6 r11.toNatClampNeg x4) fun u12 =>
        gbi (mmin x8 y4) fun y13 =>
        gbi (mmin x9 y7) fun y14 =>
        gbi (mmax x10 (y4 + 1)) fun y15 =>
        gbi (mmax x11 (y7 + 1)) fun y16 =>
        f_S_drawFromPen_166 K55 u12 q1 x4 x5 x6 x7 y13 y14 y15 y16 (x12 + 1) x13
      else none
set_option maxRecDepth 100000 in
theorem m_S_drawFromPen_55B {κ : GC} {Γ : GA} (hX : Gx κ Γ 16 b_S_drawFromPen "PaneScreen" r_S_drawFromPen (some .int)) (K55 : Mem → Nat → Int32 → Int32 → Int32 → Int32 → Int32 → Int32 → Int32 → Int32 → Int32 → Int32 → Option (Int32 × Mem)) (hK55 : ∀ (σ : Mem) (q1 : Nat) (x4 : Int32) (x5 : Int32) (x6 : Int32) (x7 : Int32) (x8 : Int32) (x9 : Int32) (x10 : Int32) (x11 : Int32) (x12 : Int32) (x13 : Int32), gPn q1 → GG κ Γ 16 (gQ gqi κ Γ r_S_drawFromPen) 0 0 σ [some (.ref (Γ.2.1 0)), some (.ref (Γ.2.1 q1)), none, none, some (.int x4), some (.int x5), some (.int x6), some (.int x7), some (.int x8), some (.int x9), some (.int x10), some (.int x11), some (.int x12), some (.int x13), none, none] 55 [] (K55 σ q1 x4 x5 x6 x7 x8 x9 x10 x11 x12 x13)) (σ : Mem) (q1 : Nat) (x4 : Int32) (x5 : Int32) (x6 : Int32) (x7 : Int32) (x8 : Int32) (x9 : Int32) (x10 : Int32) (x11 : Int32) (x12 : Int32) (x13 : Int32) (hq1 : gPn q1) : GG κ Γ 16 (gQ gqi κ Γ r_S_drawFromPen) 0 0 σ [some (.ref (Γ.2.1 0)), some (.ref (Γ.2.1 q1)), none, none, some (.int x4), some (.int x5), some (.int x6), some (.int x7), some (.int x8), some (.int x9), some (.int x10), some (.int x11), some (.int x12), some (.int x13), none, none] 55 [] (f_S_drawFromPen_55B K55 σ q1 x4 x5 x6 x7 x8 x9 x10 x11 x12 x13) := by
  unfold f_S_drawFromPen_55B
  refine g_iload hX d_S_drawFromPen_55 (n := 57) rfl rfl ?_
  refine g_iload hX d_S_drawFromPen_57 (n := 59) rfl rfl ?_
  refine g_icmp_gt hX 172 d_S_drawFromPen_59 (n := 62) rfl rfl ?_ ?_
  · refine g_iload hX d_S_drawFromPen_172 (n := 174) rfl rfl ?_
    refine g_if_le hX 190 d_S_drawFromPen_174 (n := 177) rfl rfl ?_ ?_
    · exact (g_sub (lw := [none, none, none, none, none, none, none, none, none, none, none, none, some (.int x12), none, none, none]) (And.intro rfl (True.intro)) (m_S_drawFromPen_190 hX σ x12))
    · refine g_aload_n hX 0 d_S_drawFromPen_177 (n := 178) rfl rfl rfl ?_
      refine g_aload_n hX 1 d_S_drawFromPen_178 (n := 179) rfl rfl rfl ?_
      refine g_iload hX d_S_drawFromPen_179 (n := 181) rfl rfl ?_
      refine g_iload hX d_S_drawFromPen_181 (n := 183) rfl rfl ?_
      refine g_iload hX d_S_drawFromPen_183 (n := 185) rfl rfl ?_
      refine g_iload hX d_S_drawFromPen_185 (n := 187) rfl rfl ?_
      refine g_cVv hX [_, _, _, _, _] rfl 0 0 (c_S_damagePart _ Γ q1 x8 x9 x10 x11 hq1 σ) gw_S_137 rfl sh_0 rfl d_S_drawFromPen_187 (n := 190) rfl ⟨by decide, by decide⟩ ⟨by decide, by decide⟩ (Nat.le_of_ble_eq_true rfl) rfl rfl (fun u1 => ?_)
      exact (g_sub (lw := [none, none, none, none, none, none, none, none, none, none, none, none, some (.int x12), none, none, none]) (And.intro rfl (True.intro)) (m_S_drawFromPen_190 hX u1 x12))
  · refine g_aload_n hX 1 d_S_drawFromPen_62 (n := 63) rfl rfl rfl ?_
    refine g_geti hX gf_S_250 d_S_drawFromPen_63 (n := 66) rfl hq1 rfl ?_
    refine g_iload hX d_S_drawFromPen_66 (n := 68) rfl rfl ?_
    refine g_iload hX d_S_drawFromPen_68 (n := 70) rfl rfl ?_
    refine g_iload hX d_S_drawFromPen_70 (n := 72) rfl rfl ?_
    refine g_cSi hX [_, _, _] rfl 0 0 (c_S_stepped _ Γ x13 x5 x7 σ) gw_S_259 rfl d_S_drawFromPen_72 (n := 75) rfl ⟨by decide, by decide⟩ ⟨by decide, by decide⟩ (Nat.le_of_ble_eq_true rfl) rfl rfl (fun r3 u2 => ?_)
    refine g_iadd hX d_S_drawFromPen_75 (n := 76) rfl ?_
    refine g_top (fun y4 => ?_)
    refine g_istore hX [_, _, _, _, _, _, _, _, _, _, _, _, _, _, _, _] d_S_drawFromPen_76 (n := 78) rfl (by decide) rfl ?_
    refine g_aload_n hX 1 d_S_drawFromPen_78 (n := 79) rfl rfl rfl ?_
    refine g_geti hX gf_S_253 d_S_drawFromPen_79 (n := 82) rfl hq1 rfl ?_
    refine g_iload hX d_S_drawFromPen_82 (n := 84) rfl rfl ?_
    refine g_iload hX d_S_drawFromPen_84 (n := 86) rfl rfl ?_
    refine g_iload hX d_S_drawFromPen_86 (n := 88) rfl rfl ?_
    refine g_cSi hX [_, _, _] rfl 0 0 (c_S_stepped _ Γ x13 x6 x7 u2) gw_S_259 rfl d_S_drawFromPen_88 (n := 91) rfl ⟨by decide, by decide⟩ ⟨by decide, by decide⟩ (Nat.le_of_ble_eq_true rfl) rfl rfl (fun r6 u5 => ?_)
    refine g_iadd hX d_S_drawFromPen_91 (n := 92) rfl ?_
    refine g_top (fun y7 => ?_)
    refine g_istore hX [_, _, _, _, _, _, _, _, _, _, _, _, _, _, _, _] d_S_drawFromPen_92 (n := 94) rfl (by decide) rfl ?_
    refine g_aload_n hX 1 d_S_drawFromPen_94 (n := 95) rfl rfl rfl ?_
    refine g_iload hX d_S_drawFromPen_95 (n := 97) rfl rfl ?_
    refine g_iload hX d_S_drawFromPen_97 (n := 99) rfl rfl ?_
    refine g_cVi hX [_, _] rfl 0 0 (c_P_has _ Γ q1 y4 y7 hq1 u5) gw_S_126 rfl hq1 rfl d_S_drawFromPen_99 (n := 102) rfl ⟨by decide, by decide⟩ ⟨by decide, by decide⟩ (Nat.le_of_ble_eq_true rfl) rfl rfl (fun r9 u8 => ?_)
    refine g_if_eq hX 166 d_S_drawFromPen_102 (n := 105) rfl rfl ?_ ?_
    · exact (g_sub (lw := [some (.ref (Γ.2.1 0)), some (.ref (Γ.2.1 q1)), none, none, some (.int x4), some (.int x5), some (.int x6), some (.int x7), some (.int x8), some (.int x9), some (.int x10), some (.int x11), some (.int x12), some (.int x13), none, none]) (And.intro rfl (And.intro rfl (And.intro rfl (And.intro rfl (And.intro rfl (And.intro rfl (And.intro rfl (And.intro rfl (And.intro rfl (And.intro rfl (And.intro rfl (And.intro rfl (True.intro))))))))))))) (m_S_drawFromPen_166 hX K55 hK55 u8 q1 x4 x5 x6 x7 x8 x9 x10 x11 x12 x13 hq1))
    · refine g_aload_n hX 0 d_S_drawFromPen_105 (n := 106) rfl rfl rfl ?_
      refine g_geta hX 5 gf_S_30 d_S_drawFromPen_106 (n := 109) rfl sh_0 rfl ?_
      refine g_geta hX 6 gf_S_130 d_S_drawFromPen_109 (n := 112) rfl sh_5 rfl ?_
      refine g_aload_n hX 1 d_S_drawFromPen_112 (n := 113) rfl rfl rfl ?_
      refine g_iload hX d_S_drawFromPen_113 (n := 115) rfl rfl ?_
      refine g_iload hX d_S_drawFromPen_115 (n := 117) rfl rfl ?_
      refine g_cVi hX [_, _] rfl 0 0 (c_P_cell _ Γ q1 y4 y7 hq1 u8) gw_S_133 rfl hq1 rfl d_S_drawFromPen_117 (n := 120) rfl ⟨by decide, by decide⟩ ⟨by decide, by decide⟩ (Nat.le_of_ble_eq_true rfl) rfl rfl (fun r11 u10 => ?_)
      refine g_iload hX d_S_drawFromPen_120 (n := 122) rfl rfl ?_
      refine g_iast hX d_S_drawFromPen_122 (n := 123) rfl sh_6 ?_
      refine g_mem (fun u12 => ?_)
      refine g_iload hX d_S_drawFromPen_123 (n := 125) rfl rfl ?_
      refine g_iload hX d_S_drawFromPen_125 (n := 127) rfl rfl ?_
      refine g_mmin hX gm_S_149 gms_min gmi gmc_min d_S_drawFromPen_127 (n := 130) rfl (by decide) (Nat.le_of_ble_eq_true rfl) (by decide) (by decide) ?_
      refine g_top (fun y13 => ?_)
      refine g_istore hX [_, _, _, _, _, _, _, _, _, _, _, _, _, _, _, _] d_S_drawFromPen_130 (n := 132) rfl (by decide) rfl ?_
      refine g_iload hX d_S_drawFromPen_132 (n := 134) rfl rfl ?_
      refine g_iload hX d_S_drawFromPen_134 (n := 136) rfl rfl ?_
      refine g_mmin hX gm_S_149 gms_min gmi gmc_min d_S_drawFromPen_136 (n := 139) rfl (by decide) (Nat.le_of_ble_eq_true rfl) (by decide) (by decide) ?_
      refine g_top (fun y14 => ?_)
      refine g_istore hX [_, _, _, _, _, _, _, _, _, _, _, _, _, _, _, _] d_S_drawFromPen_139 (n := 141) rfl (by decide) rfl ?_
      refine g_iload hX d_S_drawFromPen_141 (n := 143) rfl rfl ?_
      refine g_iload hX d_S_drawFromPen_143 (n := 145) rfl rfl ?_
      refine g_iconst hX 1 d_S_drawFromPen_145 (n := 146) rfl k_iconst_1 ?_
      refine g_iadd hX d_S_drawFromPen_146 (n := 147) rfl ?_
      refine g_mmax hX gm_S_144 gms_max gmi gmc_max d_S_drawFromPen_147 (n := 150) rfl (by decide) (Nat.le_of_ble_eq_true rfl) (by decide) (by decide) ?_
      refine g_top (fun y15 => ?_)
      refine g_istore hX [_, _, _, _, _, _, _, _, _, _, _, _, _, _, _, _] d_S_drawFromPen_150 (n := 152) rfl (by decide) rfl ?_
      refine g_iload hX d_S_drawFromPen_152 (n := 154) rfl rfl ?_
      refine g_iload hX d_S_drawFromPen_154 (n := 156) rfl rfl ?_
      refine g_iconst hX 1 d_S_drawFromPen_156 (n := 157) rfl k_iconst_1 ?_
      refine g_iadd hX d_S_drawFromPen_157 (n := 158) rfl ?_
      refine g_mmax hX gm_S_144 gms_max gmi gmc_max d_S_drawFromPen_158 (n := 161) rfl (by decide) (Nat.le_of_ble_eq_true rfl) (by decide) (by decide) ?_
      refine g_top (fun y16 => ?_)
      refine g_istore hX [_, _, _, _, _, _, _, _, _, _, _, _, _, _, _, _] d_S_drawFromPen_161 (n := 163) rfl (by decide) rfl ?_
      refine g_iinc hX 1 _ [_, _, _, _, _, _, _, _, _, _, _, _, _, _, _, _] d_S_drawFromPen_163 (n := 166) rfl rfl k_iconst_1 rfl (by decide) rfl ?_
      exact (g_sub (lw := [some (.ref (Γ.2.1 0)), some (.ref (Γ.2.1 q1)), none, none, some (.int x4), some (.int x5), some (.int x6), some (.int x7), some (.int y13), some (.int y14), some (.int y15), some (.int y16), some (.int (x12 + 1)), some (.int x13), none, none]) (And.intro rfl (And.intro rfl (And.intro rfl (And.intro rfl (And.intro rfl (And.intro rfl (And.intro rfl (And.intro rfl (And.intro rfl (And.intro rfl (And.intro rfl (And.intro rfl (True.intro))))))))))))) (m_S_drawFromPen_166 hX K55 hK55 u12 q1 x4 x5 x6 x7 y13 y14 y15 y16 (x12 + 1) x13 hq1))
def f_S_drawFromPen_55 (n : Nat) : Mem → Nat → Int32 → Int32 → Int32 → Int32 → Int32 → Int32 → Int32 → Int32 → Int32 → Int32 → Option (Int32 × Mem) := gfix (fun _ _ _ _ _ _ _ _ _ _ _ _ => none) (fun K55 => f_S_drawFromPen_55B K55) n
theorem m_S_drawFromPen_55 {κ : GC} {Γ : GA} (hX : Gx κ Γ 16 b_S_drawFromPen "PaneScreen" r_S_drawFromPen (some .int)) (n : Nat) : ∀ (σ : Mem) (q1 : Nat) (x4 : Int32) (x5 : Int32) (x6 : Int32) (x7 : Int32) (x8 : Int32) (x9 : Int32) (x10 : Int32) (x11 : Int32) (x12 : Int32) (x13 : Int32), gPn q1 → GG κ Γ 16 (gQ gqi κ Γ r_S_drawFromPen) 0 0 σ [some (.ref (Γ.2.1 0)), some (.ref (Γ.2.1 q1)), none, none, some (.int x4), some (.int x5), some (.int x6), some (.int x7), some (.int x8), some (.int x9), some (.int x10), some (.int x11), some (.int x12), some (.int x13), none, none] 55 [] (f_S_drawFromPen_55 n σ q1 x4 x5 x6 x7 x8 x9 x10 x11 x12 x13) := by
  induction n with
  | zero => intros; exact g_none
  | succ n ih => intro σ q1 x4 x5 x6 x7 x8 x9 x10 x11 x12 x13 hq1; exact m_S_drawFromPen_55B hX (f_S_drawFromPen_55 n) ih σ q1 x4 x5 x6 x7 x8 x9 x10 x11 x12 x13 hq1
def f_S_drawFromPen_0 (σ : Mem) (q1 : Nat) (x2 : Int32) (x3 : Int32) (x4 : Int32) : Option (Int32 × Mem) :=
  gbi (x2 - (σ q1 6)) fun y1 =>
  gbi (x3 - (σ q1 7)) fun y2 =>
  gbi (mmax (mabs y1) (mabs y2)) fun y3 =>
  gbi (σ q1 3) fun y4 =>
  gbi (σ q1 4) fun y5 =>
  f_S_drawFromPen_55 gN σ q1 x4 y1 y2 y3 y4 y5 0 0 0 0
set_option maxRecDepth 100000 in
theorem m_S_drawFromPen_0 {κ : GC} {Γ : GA} (hX : Gx κ Γ 16 b_S_drawFromPen "PaneScreen" r_S_drawFromPen (some .int)) (σ : Mem) (q1 : Nat) (x2 : Int32) (x3 : Int32) (x4 : Int32) (hq1 : gPn q1) : GG κ Γ 16 (gQ gqi κ Γ r_S_drawFromPen) 0 0 σ [some (.ref (Γ.2.1 0)), some (.ref (Γ.2.1 q1)), some (.int x2), some (.int x3), some (.int x4), none, none, none, none, none, none, none, none, none, none, none] 0 [] (f_S_drawFromPen_0 σ q1 x2 x3 x4) := by
  unfold f_S_drawFromPen_0
  refine g_iload_n hX 2 d_S_drawFromPen_0 (n := 1) rfl rfl rfl ?_
  refine g_aload_n hX 1 d_S_drawFromPen_1 (n := 2) rfl rfl rfl ?_
  refine g_geti hX gf_S_250 d_S_drawFromPen_2 (n := 5) rfl hq1 rfl ?_
  refine g_isub hX d_S_drawFromPen_5 (n := 6) rfl ?_
  refine g_top (fun y1 => ?_)
  refine g_istore hX [_, _, _, _, _, _, _, _, _, _, _, _, _, _, _, _] d_S_drawFromPen_6 (n := 8) rfl (by decide) rfl ?_
  refine g_iload_n hX 3 d_S_drawFromPen_8 (n := 9) rfl rfl rfl ?_
  refine g_aload_n hX 1 d_S_drawFromPen_9 (n := 10) rfl rfl rfl ?_
  refine g_geti hX gf_S_253 d_S_drawFromPen_10 (n := 13) rfl hq1 rfl ?_
  refine g_isub hX d_S_drawFromPen_13 (n := 14) rfl ?_
  refine g_top (fun y2 => ?_)
  refine g_istore hX [_, _, _, _, _, _, _, _, _, _, _, _, _, _, _, _] d_S_drawFromPen_14 (n := 16) rfl (by decide) rfl ?_
  refine g_iload hX d_S_drawFromPen_16 (n := 18) rfl rfl ?_
  refine g_mabs hX gm_S_256 gms_abs gmi gmc_abs d_S_drawFromPen_18 (n := 21) rfl (by decide) (Nat.le_of_ble_eq_true rfl) (by decide) (by decide) ?_
  refine g_iload hX d_S_drawFromPen_21 (n := 23) rfl rfl ?_
  refine g_mabs hX gm_S_256 gms_abs gmi gmc_abs d_S_drawFromPen_23 (n := 26) rfl (by decide) (Nat.le_of_ble_eq_true rfl) (by decide) (by decide) ?_
  refine g_mmax hX gm_S_144 gms_max gmi gmc_max d_S_drawFromPen_26 (n := 29) rfl (by decide) (Nat.le_of_ble_eq_true rfl) (by decide) (by decide) ?_
  refine g_top (fun y3 => ?_)
  refine g_istore hX [_, _, _, _, _, _, _, _, _, _, _, _, _, _, _, _] d_S_drawFromPen_29 (n := 31) rfl (by decide) rfl ?_
  refine g_aload_n hX 1 d_S_drawFromPen_31 (n := 32) rfl rfl rfl ?_
  refine g_geti hX gf_S_98 d_S_drawFromPen_32 (n := 35) rfl hq1 rfl ?_
  refine g_top (fun y4 => ?_)
  refine g_istore hX [_, _, _, _, _, _, _, _, _, _, _, _, _, _, _, _] d_S_drawFromPen_35 (n := 37) rfl (by decide) rfl ?_
  refine g_aload_n hX 1 d_S_drawFromPen_37 (n := 38) rfl rfl rfl ?_
  refine g_geti hX gf_S_101 d_S_drawFromPen_38 (n := 41) rfl hq1 rfl ?_
  refine g_top (fun y5 => ?_)
  refine g_istore hX [_, _, _, _, _, _, _, _, _, _, _, _, _, _, _, _] d_S_drawFromPen_41 (n := 43) rfl (by decide) rfl ?_
  refine g_iconst hX 0 d_S_drawFromPen_43 (n := 44) rfl k_iconst_0 ?_
  refine g_istore hX [_, _, _, _, _, _, _, _, _, _, _, _, _, _, _, _] d_S_drawFromPen_44 (n := 46) rfl (by decide) rfl ?_
  refine g_iconst hX 0 d_S_drawFromPen_46 (n := 47) rfl k_iconst_0 ?_
  refine g_istore hX [_, _, _, _, _, _, _, _, _, _, _, _, _, _, _, _] d_S_drawFromPen_47 (n := 49) rfl (by decide) rfl ?_
  refine g_iconst hX 0 d_S_drawFromPen_49 (n := 50) rfl k_iconst_0 ?_
  refine g_istore hX [_, _, _, _, _, _, _, _, _, _, _, _, _, _, _, _] d_S_drawFromPen_50 (n := 52) rfl (by decide) rfl ?_
  refine g_iconst hX 0 d_S_drawFromPen_52 (n := 53) rfl k_iconst_0 ?_
  refine g_istore hX [_, _, _, _, _, _, _, _, _, _, _, _, _, _, _, _] d_S_drawFromPen_53 (n := 55) rfl (by decide) rfl ?_
  exact (g_sub (lw := [some (.ref (Γ.2.1 0)), some (.ref (Γ.2.1 q1)), none, none, some (.int x4), some (.int y1), some (.int y2), some (.int y3), some (.int y4), some (.int y5), some (.int 0), some (.int 0), some (.int 0), some (.int 0), none, none]) (And.intro rfl (And.intro rfl (And.intro rfl (And.intro rfl (And.intro rfl (And.intro rfl (And.intro rfl (And.intro rfl (And.intro rfl (And.intro rfl (And.intro rfl (And.intro rfl (True.intro))))))))))))) (m_S_drawFromPen_55 hX gN σ q1 x4 y1 y2 y3 y4 y5 0 0 0 0 hq1))
def f_S_drawFromPen (q1 : Nat) (x2 : Int32) (x3 : Int32) (x4 : Int32) (σ : Mem) : Option (Int32 × Mem) := f_S_drawFromPen_0 σ q1 x2 x3 x4
theorem c_S_drawFromPen (l : Launch) (Γ : GA) (q1 : Nat) (x2 : Int32) (x3 : Int32) (x4 : Int32) (hq1 : gPn q1) (σ : Mem) : gM gqi l y_S_drawFromPen b_S_drawFromPen 16 (some .int) r_S_drawFromPen [.ref (Γ.2.1 0), .ref (Γ.2.1 q1), .int x2, .int x3, .int x4] Γ σ (f_S_drawFromPen q1 x2 x3 x4 σ) :=
  gM.of [some (.ref (Γ.2.1 0)), some (.ref (Γ.2.1 q1)), some (.int x2), some (.int x3), some (.int x4), none, none, none, none, none, none, none, none, none, none, none] (by decide) (Nat.le_of_ble_eq_true rfl) rfl rfl (fun κ hX _ => m_S_drawFromPen_0 hX σ q1 x2 x3 x4 hq1)
/-! S_line -/
theorem d_S_line_0 : decode b_S_line 0 = .ok (.aload_n 0, 1) := by decide +kernel
theorem d_S_line_1 : decode b_S_line 1 = .ok (.iload_n 1, 1) := by decide +kernel
theorem d_S_line_2 : decode b_S_line 2 = .ok (.invokevirtual 91, 3) := by decide +kernel
theorem d_S_line_5 : decode b_S_line 5 = .ok (.astore 5, 2) := by decide +kernel
theorem d_S_line_7 : decode b_S_line 7 = .ok (.iload_n 2, 1) := by decide +kernel
theorem d_S_line_8 : decode b_S_line 8 = .ok (.iload_n 3, 1) := by decide +kernel
theorem d_S_line_9 : decode b_S_line 9 = .ok (.invokestatic 55, 3) := by decide +kernel
theorem d_S_line_12 : decode b_S_line 12 = .ok (.iload 4, 2) := by decide +kernel
theorem d_S_line_14 : decode b_S_line 14 = .ok (.invokestatic 123, 3) := by decide +kernel
theorem d_S_line_17 : decode b_S_line 17 = .ok (.aload_n 0, 1) := by decide +kernel
theorem d_S_line_18 : decode b_S_line 18 = .ok (.aload 5, 2) := by decide +kernel
theorem d_S_line_20 : decode b_S_line 20 = .ok (.iload_n 2, 1) := by decide +kernel
theorem d_S_line_21 : decode b_S_line 21 = .ok (.iload_n 3, 1) := by decide +kernel
theorem d_S_line_22 : decode b_S_line 22 = .ok (.iload 4, 2) := by decide +kernel
theorem d_S_line_24 : decode b_S_line 24 = .ok (.invokevirtual 155, 3) := by decide +kernel
theorem d_S_line_27 : decode b_S_line 27 = .ok (.istore 6, 2) := by decide +kernel
theorem d_S_line_29 : decode b_S_line 29 = .ok (.aload 5, 2) := by decide +kernel
theorem d_S_line_31 : decode b_S_line 31 = .ok (.iload_n 2, 1) := by decide +kernel
theorem d_S_line_32 : decode b_S_line 32 = .ok (.iload_n 3, 1) := by decide +kernel
theorem d_S_line_33 : decode b_S_line 33 = .ok (.invokevirtual 152, 3) := by decide +kernel
theorem d_S_line_36 : decode b_S_line 36 = .ok (.iload 6, 2) := by decide +kernel
theorem d_S_line_38 : decode b_S_line 38 = .ok (.ireturn, 1) := by decide +kernel
abbrev r_S_line : Room := ⟨7, 3, 18, 142⟩
def f_S_line_0 (σ : Mem) (x1 : Int32) (x2 : Int32) (x3 : Int32) (x4 : Int32) : Option ((Int32 ⊕ String) × Mem) :=
  gbx (f_S_openPane x1 σ) (fun p2 u1 =>
    if gpn p2 = true then
      gbx (f_S_requireNear x2 x3 u1) (fun _ u3 =>
        gbx (f_S_requireColour x4 u3) (fun _ u4 =>
          gb (f_S_drawFromPen p2 x2 x3 x4 u4) fun r6 u5 =>
          gbv (f_P_putPen p2 x2 x3 u5) fun u7 =>
          some (.inl r6, u7)
          ) (fun E u => some (.inr E, u))
        ) (fun E u => some (.inr E, u))
    else none) (fun E u => some (.inr E, u))
set_option maxRecDepth 100000 in
theorem m_S_line_0 {κ : GC} {Γ : GA} (hX : Gx κ Γ 7 b_S_line "PaneScreen" r_S_line (some .int)) (hE : ∀ x ∈ κ.2.2.2.2.2.2.2.2.2.exceptionTable.toList, False) (hT : κ.2.1.stackTraces = false) (σ : Mem) (x1 : Int32) (x2 : Int32) (x3 : Int32) (x4 : Int32) : GG κ Γ 7 (gQX gxi κ Γ r_S_line) 0 0 σ [some (.ref (Γ.2.1 0)), some (.int x1), some (.int x2), some (.int x3), some (.int x4), none, none] 0 [] (f_S_line_0 σ x1 x2 x3 x4) := by
  unfold f_S_line_0
  refine g_aload_n hX 0 d_S_line_0 (n := 1) rfl rfl rfl ?_
  refine g_iload_n hX 1 d_S_line_1 (n := 2) rfl rfl rfl ?_
  refine g_xVr hX hE [_] rfl 1 6 (c_S_openPane _ hT Γ x1 σ) gw_S_91 rfl sh_0 rfl d_S_line_2 (n := 5) rfl ⟨by decide, by decide⟩ ⟨by decide, by decide⟩ (Nat.le_of_ble_eq_true rfl) rfl rfl (fun p2 u1 => ?_)
  refine g_pane (fun hp2 => ?_)
  refine g_astore hX [_, _, _, _, _, _, _] d_S_line_5 (n := 7) rfl (by decide) rfl ?_
  refine g_iload_n hX 2 d_S_line_7 (n := 8) rfl rfl rfl ?_
  refine g_iload_n hX 3 d_S_line_8 (n := 9) rfl rfl rfl ?_
  refine g_xSv hX hE [_, _] rfl 2 12 (c_S_requireNear _ hT Γ x2 x3 u1) gw_S_55 rfl d_S_line_9 (n := 12) rfl ⟨by decide, by decide⟩ ⟨by decide, by decide⟩ (Nat.le_of_ble_eq_true rfl) rfl rfl (fun _ u3 => ?_)
  refine g_iload hX d_S_line_12 (n := 14) rfl rfl ?_
  refine g_xSv hX hE [_] rfl 3 18 (c_S_requireColour _ hT Γ x4 u3) gw_S_123 rfl d_S_line_14 (n := 17) rfl ⟨by decide, by decide⟩ ⟨by decide, by decide⟩ (Nat.le_of_ble_eq_true rfl) rfl rfl (fun _ u4 => ?_)
  refine g_aload_n hX 0 d_S_line_17 (n := 18) rfl rfl rfl ?_
  refine g_aload hX d_S_line_18 (n := 20) rfl rfl ?_
  refine g_iload_n hX 2 d_S_line_20 (n := 21) rfl rfl rfl ?_
  refine g_iload_n hX 3 d_S_line_21 (n := 22) rfl rfl rfl ?_
  refine g_iload hX d_S_line_22 (n := 24) rfl rfl ?_
  refine g_cVi hX [_, _, _, _] rfl 3 18 (c_S_drawFromPen _ Γ p2 x2 x3 x4 hp2 u4) gw_S_155 rfl sh_0 rfl d_S_line_24 (n := 27) rfl ⟨by decide, by decide⟩ ⟨by decide, by decide⟩ (Nat.le_of_ble_eq_true rfl) rfl rfl (fun r6 u5 => ?_)
  refine g_istore hX [_, _, _, _, _, _, _] d_S_line_27 (n := 29) rfl (by decide) rfl ?_
  refine g_aload hX d_S_line_29 (n := 31) rfl rfl ?_
  refine g_iload_n hX 2 d_S_line_31 (n := 32) rfl rfl rfl ?_
  refine g_iload_n hX 3 d_S_line_32 (n := 33) rfl rfl rfl ?_
  refine g_cVv hX [_, _] rfl 3 18 (c_P_putPen _ Γ p2 x2 x3 hp2 u5) gw_S_152 rfl hp2 rfl d_S_line_33 (n := 36) rfl ⟨by decide, by decide⟩ ⟨by decide, by decide⟩ (Nat.le_of_ble_eq_true rfl) rfl rfl (fun u7 => ?_)
  refine g_iload hX d_S_line_36 (n := 38) rfl rfl ?_
  exact g_ixret hX d_S_line_38 (by decide) (by decide)
def f_S_line (x1 : Int32) (x2 : Int32) (x3 : Int32) (x4 : Int32) (σ : Mem) : Option ((Int32 ⊕ String) × Mem) := f_S_line_0 σ x1 x2 x3 x4
theorem c_S_line (l : Launch) (hT : l.stackTraces = false) (Γ : GA) (x1 : Int32) (x2 : Int32) (x3 : Int32) (x4 : Int32) (σ : Mem) : gX gxi l y_S_line b_S_line 7 (some .int) r_S_line [.ref (Γ.2.1 0), .int x1, .int x2, .int x3, .int x4] Γ σ (f_S_line x1 x2 x3 x4 σ) :=
  gX.of [some (.ref (Γ.2.1 0)), some (.int x1), some (.int x2), some (.int x3), some (.int x4), none, none] (by decide) (Nat.le_of_ble_eq_true rfl) rfl rfl (fun κ hX hκ hE => m_S_line_0 hX hE (by rw [hκ]; exact hT) σ x1 x2 x3 x4)
/-! T_keepOld -/
theorem d_T_keepOld_0 : decode b_T_keepOld 0 = .ok (.aload_n 0, 1) := by decide +kernel
theorem d_T_keepOld_1 : decode b_T_keepOld 1 = .ok (.getfield 9, 3) := by decide +kernel
theorem d_T_keepOld_4 : decode b_T_keepOld 4 = .ok (.iconst 0, 1) := by decide +kernel
theorem d_T_keepOld_5 : decode b_T_keepOld 5 = .ok (.aload_n 0, 1) := by decide +kernel
theorem d_T_keepOld_6 : decode b_T_keepOld 6 = .ok (.getfield 15, 3) := by decide +kernel
theorem d_T_keepOld_9 : decode b_T_keepOld 9 = .ok (.iconst 0, 1) := by decide +kernel
theorem d_T_keepOld_10 : decode b_T_keepOld 10 = .ok (.sipush 400, 3) := by decide +kernel
theorem d_T_keepOld_13 : decode b_T_keepOld 13 = .ok (.invokestatic 22, 3) := by decide +kernel
theorem d_T_keepOld_16 : decode b_T_keepOld 16 = .ok (.return_, 1) := by decide +kernel
abbrev r_T_keepOld : Room := ⟨1, 0, 0, 48⟩
def f_T_keepOld_0 (σ : Mem) : Option Mem :=
  gbm (mA σ 7 (va_cpy (σ 6) (σ 7) (0 : Int32).toNatClampNeg (0 : Int32).toNatClampNeg (400 : Int32).toNatClampNeg)) fun u1 =>
  some u1
set_option maxRecDepth 100000 in
theorem m_T_keepOld_0 {κ : GC} {Γ : GA} (hX : Gx κ Γ 1 b_T_keepOld "PaneScreen$Store" r_T_keepOld none) (σ : Mem) : GG κ Γ 1 (gQ gqv κ Γ r_T_keepOld) 0 0 σ [some (.ref (Γ.2.1 5))] 0 [] (f_T_keepOld_0 σ) := by
  unfold f_T_keepOld_0
  refine g_aload_n hX 0 d_T_keepOld_0 (n := 1) rfl rfl rfl ?_
  refine g_geta hX 6 gf_T_9 d_T_keepOld_1 (n := 4) rfl sh_5 rfl ?_
  refine g_iconst hX 0 d_T_keepOld_4 (n := 5) rfl k_iconst_0 ?_
  refine g_aload_n hX 0 d_T_keepOld_5 (n := 6) rfl rfl rfl ?_
  refine g_geta hX 7 gf_T_15 d_T_keepOld_6 (n := 9) rfl sh_5 rfl ?_
  refine g_iconst hX 0 d_T_keepOld_9 (n := 10) rfl k_iconst_0 ?_
  refine g_sipush hX 400 d_T_keepOld_10 (n := 13) rfl k_sipush_400 ?_
  refine g_copyK hX ga_T_22 gan gas gaini d_T_keepOld_13 (n := 16) rfl sh_6 sh_7 (by decide) (by decide) (by decide) (by decide) (by decide) (by decide) (Nat.le_of_ble_eq_true rfl) ?_
  refine g_mem (fun u1 => ?_)
  exact g_vret hX d_T_keepOld_16 (by decide) (by decide)
def f_T_keepOld (σ : Mem) : Option Mem := f_T_keepOld_0 σ
theorem c_T_keepOld (l : Launch) (Γ : GA) (σ : Mem) : gM gqv l y_T_keepOld b_T_keepOld 1 none r_T_keepOld [.ref (Γ.2.1 5)] Γ σ (f_T_keepOld σ) :=
  gM.of [some (.ref (Γ.2.1 5))] (by decide) (Nat.le_of_ble_eq_true rfl) rfl rfl (fun κ hX _ => m_T_keepOld_0 hX σ)
