/-! M_close -/
theorem d_M_close_0 : decode b_M_close 0 = .ok (.aload_n 0, 1) := by decide +kernel
theorem d_M_close_1 : decode b_M_close 1 = .ok (.aload_n 0, 1) := by decide +kernel
theorem d_M_close_2 : decode b_M_close 2 = .ok (.iload_n 1, 1) := by decide +kernel
theorem d_M_close_3 : decode b_M_close 3 = .ok (.invokevirtual 127, 3) := by decide +kernel
theorem d_M_close_6 : decode b_M_close 6 = .ok (.ifCond .eq 7, 3) := by decide +kernel
theorem d_M_close_9 : decode b_M_close 9 = .ok (.iconst 0, 1) := by decide +kernel
theorem d_M_close_10 : decode b_M_close 10 = .ok (.goto 4, 3) := by decide +kernel
theorem d_M_close_13 : decode b_M_close 13 = .ok (.iconst 1, 1) := by decide +kernel
theorem d_M_close_14 : decode b_M_close 14 = .ok (.putfield 75, 3) := by decide +kernel
theorem d_M_close_17 : decode b_M_close 17 = .ok (.aload_n 0, 1) := by decide +kernel
theorem d_M_close_18 : decode b_M_close 18 = .ok (.getfield 75, 3) := by decide +kernel
theorem d_M_close_21 : decode b_M_close 21 = .ok (.ifCond .le 4, 3) := by decide +kernel
theorem d_M_close_24 : decode b_M_close 24 = .ok (.return_, 1) := by decide +kernel
theorem d_M_close_25 : decode b_M_close 25 = .ok (.aload_n 0, 1) := by decide +kernel
theorem d_M_close_26 : decode b_M_close 26 = .ok (.iload_n 1, 1) := by decide +kernel
theorem d_M_close_27 : decode b_M_close 27 = .ok (.invokevirtual 123, 3) := by decide +kernel
theorem d_M_close_30 : decode b_M_close 30 = .ok (.aload_n 0, 1) := by decide +kernel
theorem d_M_close_31 : decode b_M_close 31 = .ok (.getfield 13, 3) := by decide +kernel
theorem d_M_close_34 : decode b_M_close 34 = .ok (.iload_n 1, 1) := by decide +kernel
theorem d_M_close_35 : decode b_M_close 35 = .ok (.iconst 0, 1) := by decide +kernel
theorem d_M_close_36 : decode b_M_close 36 = .ok (.bastore, 1) := by decide +kernel
theorem d_M_close_37 : decode b_M_close 37 = .ok (.iconst 0, 1) := by decide +kernel
theorem d_M_close_38 : decode b_M_close 38 = .ok (.istore_n 2, 1) := by decide +kernel
theorem d_M_close_39 : decode b_M_close 39 = .ok (.iconst 0, 1) := by decide +kernel
theorem d_M_close_40 : decode b_M_close 40 = .ok (.istore_n 3, 1) := by decide +kernel
theorem d_M_close_41 : decode b_M_close 41 = .ok (.iload_n 3, 1) := by decide +kernel
theorem d_M_close_42 : decode b_M_close 42 = .ok (.aload_n 0, 1) := by decide +kernel
theorem d_M_close_43 : decode b_M_close 43 = .ok (.getfield 130, 3) := by decide +kernel
theorem d_M_close_46 : decode b_M_close 46 = .ok (.if_icmp .ge 28, 3) := by decide +kernel
theorem d_M_close_49 : decode b_M_close 49 = .ok (.aload_n 0, 1) := by decide +kernel
theorem d_M_close_50 : decode b_M_close 50 = .ok (.getfield 66, 3) := by decide +kernel
theorem d_M_close_53 : decode b_M_close 53 = .ok (.iload_n 3, 1) := by decide +kernel
theorem d_M_close_54 : decode b_M_close 54 = .ok (.iaload, 1) := by decide +kernel
theorem d_M_close_55 : decode b_M_close 55 = .ok (.iload_n 1, 1) := by decide +kernel
theorem d_M_close_56 : decode b_M_close 56 = .ok (.if_icmp .eq 12, 3) := by decide +kernel
theorem d_M_close_59 : decode b_M_close 59 = .ok (.aload_n 0, 1) := by decide +kernel
theorem d_M_close_60 : decode b_M_close 60 = .ok (.iload_n 3, 1) := by decide +kernel
theorem d_M_close_61 : decode b_M_close 61 = .ok (.iload_n 2, 1) := by decide +kernel
theorem d_M_close_62 : decode b_M_close 62 = .ok (.invokevirtual 133, 3) := by decide +kernel
theorem d_M_close_65 : decode b_M_close 65 = .ok (.iinc 2 1, 3) := by decide +kernel
theorem d_M_close_68 : decode b_M_close 68 = .ok (.iinc 3 1, 3) := by decide +kernel
theorem d_M_close_71 : decode b_M_close 71 = .ok (.goto (-30), 3) := by decide +kernel
theorem d_M_close_74 : decode b_M_close 74 = .ok (.aload_n 0, 1) := by decide +kernel
theorem d_M_close_75 : decode b_M_close 75 = .ok (.iload_n 2, 1) := by decide +kernel
theorem d_M_close_76 : decode b_M_close 76 = .ok (.putfield 130, 3) := by decide +kernel
theorem d_M_close_79 : decode b_M_close 79 = .ok (.aload_n 0, 1) := by decide +kernel
theorem d_M_close_80 : decode b_M_close 80 = .ok (.aload_n 0, 1) := by decide +kernel
theorem d_M_close_81 : decode b_M_close 81 = .ok (.getfield 47, 3) := by decide +kernel
theorem d_M_close_84 : decode b_M_close 84 = .ok (.iload_n 1, 1) := by decide +kernel
theorem d_M_close_85 : decode b_M_close 85 = .ok (.if_icmp .ne 10, 3) := by decide +kernel
theorem d_M_close_88 : decode b_M_close 88 = .ok (.aload_n 0, 1) := by decide +kernel
theorem d_M_close_89 : decode b_M_close 89 = .ok (.invokevirtual 137, 3) := by decide +kernel
theorem d_M_close_92 : decode b_M_close 92 = .ok (.goto 7, 3) := by decide +kernel
theorem d_M_close_95 : decode b_M_close 95 = .ok (.aload_n 0, 1) := by decide +kernel
theorem d_M_close_96 : decode b_M_close 96 = .ok (.getfield 47, 3) := by decide +kernel
theorem d_M_close_99 : decode b_M_close 99 = .ok (.putfield 47, 3) := by decide +kernel
theorem d_M_close_102 : decode b_M_close 102 = .ok (.return_, 1) := by decide +kernel
abbrev r_M_close : Room := ⟨2, 0, 0, 50⟩
def f_M_close_68 (K41 : Mem → Int32 → Int32 → Int32 → Option Mem) (σ : Mem) (x1 : Int32) (x2 : Int32) (x3 : Int32) : Option Mem :=
  K41 σ x1 x2 (x3 + 1)
set_option maxRecDepth 100000 in
theorem m_M_close_68 {κ : GC} {Γ : GA} (hX : Gx κ Γ 4 b_M_close "PaneScreenModel" r_M_close none) (K41 : Mem → Int32 → Int32 → Int32 → Option Mem) (hK41 : ∀ (σ : Mem) (x1 : Int32) (x2 : Int32) (x3 : Int32), GG κ Γ 4 (gQ gqv κ Γ r_M_close) 0 0 σ [some (.ref (Γ.2.1 19)), some (.int x1), some (.int x2), some (.int x3)] 41 [] (K41 σ x1 x2 x3)) (σ : Mem) (x1 : Int32) (x2 : Int32) (x3 : Int32) : GG κ Γ 4 (gQ gqv κ Γ r_M_close) 0 0 σ [some (.ref (Γ.2.1 19)), some (.int x1), some (.int x2), some (.int x3)] 68 [] (f_M_close_68 K41 σ x1 x2 x3) := by
  unfold f_M_close_68
  refine g_iinc hX 1 _ [_, _, _, _] d_M_close_68 (n := 71) rfl rfl k_iconst_1 rfl (by decide) rfl ?_
  refine g_goto hX 41 d_M_close_71 rfl ?_
  exact (hK41 σ x1 x2 (x3 + 1))
def f_M_close_99 (σ : Mem) (s0 : Int32) : Option Mem :=
  gbm (m2 σ 19 15 s0) fun u1 =>
  some u1
set_option maxRecDepth 100000 in
theorem m_M_close_99 {κ : GC} {Γ : GA} (hX : Gx κ Γ 4 b_M_close "PaneScreenModel" r_M_close none) (σ : Mem) (s0 : Int32) : GG κ Γ 4 (gQ gqv κ Γ r_M_close) 0 0 σ [none, none, none, none] 99 [.int s0, .ref (Γ.2.1 19)] (f_M_close_99 σ s0) := by
  unfold f_M_close_99
  refine g_puti hX gp_M_47 d_M_close_99 (n := 102) rfl sh_19 rfl ?_
  refine g_mem (fun u1 => ?_)
  exact g_vret hX d_M_close_102 (by decide) (by decide)
def f_M_close_41B (K41 : Mem → Int32 → Int32 → Int32 → Option Mem) (σ : Mem) (x1 : Int32) (x2 : Int32) (x3 : Int32) : Option Mem :=
  if (σ 19 26) ≤ x3 then
    gbm (m2 σ 19 26 x2) fun u1 =>
    if (u1 19 15) = x1 then
      gb (f_M_foremost u1) fun r3 u2 =>
      f_M_close_99 u2 r3
    else
      f_M_close_99 u1 (u1 19 15)
  else
    if gin x3 12 = true then
      if (σ 37 x3.toNatClampNeg) = x1 then
        f_M_close_68 K41 σ x1 x2 x3
      else
        gbv (f_M_moveEvent x3 x2 σ) fun u4 =>
        f_M_close_68 K41 u4 x1 (x2 + 1) x3
    else none
set_option maxRecDepth 100000 in
theorem m_M_close_41B {κ : GC} {Γ : GA} (hX : Gx κ Γ 4 b_M_close "PaneScreenModel" r_M_close none) (K41 : Mem → Int32 → Int32 → Int32 → Option Mem) (hK41 : ∀ (σ : Mem) (x1 : Int32) (x2 : Int32) (x3 : Int32), GG κ Γ 4 (gQ gqv κ Γ r_M_close) 0 0 σ [some (.ref (Γ.2.1 19)), some (.int x1), some (.int x2), some (.int x3)] 41 [] (K41 σ x1 x2 x3)) (σ : Mem) (x1 : Int32) (x2 : Int32) (x3 : Int32) : GG κ Γ 4 (gQ gqv κ Γ r_M_close) 0 0 σ [some (.ref (Γ.2.1 19)), some (.int x1), some (.int x2), some (.int x3)] 41 [] (f_M_close_41B K41 σ x1 x2 x3) := by
  unfold f_M_close_41B
  refine g_iload_n hX 3 d_M_close_41 (n := 42) rfl rfl rfl ?_
  refine g_aload_n hX 0 d_M_close_42 (n := 43) rfl rfl rfl ?_
  refine g_geti hX gf_M_130 d_M_close_43 (n := 46) rfl sh_19 rfl ?_
  refine g_icmp_ge hX 74 d_M_close_46 (n := 49) rfl rfl ?_ ?_
  · refine g_aload_n hX 0 d_M_close_74 (n := 75) rfl rfl rfl ?_
    refine g_iload_n hX 2 d_M_close_75 (n := 76) rfl rfl rfl ?_
    refine g_puti hX gp_M_130 d_M_close_76 (n := 79) rfl sh_19 rfl ?_
    refine g_mem (fun u1 => ?_)
    refine g_aload_n hX 0 d_M_close_79 (n := 80) rfl rfl rfl ?_
    refine g_aload_n hX 0 d_M_close_80 (n := 81) rfl rfl rfl ?_
    refine g_geti hX gf_M_47 d_M_close_81 (n := 84) rfl sh_19 rfl ?_
    refine g_iload_n hX 1 d_M_close_84 (n := 85) rfl rfl rfl ?_
    refine g_icmp_ne hX 95 d_M_close_85 (n := 88) rfl rfl ?_ ?_
    · refine g_aload_n hX 0 d_M_close_95 (n := 96) rfl rfl rfl ?_
      refine g_geti hX gf_M_47 d_M_close_96 (n := 99) rfl sh_19 rfl ?_
      exact (g_sub (lw := [none, none, none, none]) (True.intro) (m_M_close_99 hX u1 (u1 19 15)))
    · refine g_aload_n hX 0 d_M_close_88 (n := 89) rfl rfl rfl ?_
      refine g_cVi hX [] rfl 0 0 (c_M_foremost _ Γ u1) gw_M_137 rfl sh_19 rfl d_M_close_89 (n := 92) rfl ⟨by decide, by decide⟩ ⟨by decide, by decide⟩ (Nat.le_of_ble_eq_true rfl) rfl rfl (fun r3 u2 => ?_)
      refine g_goto hX 99 d_M_close_92 rfl ?_
      exact (g_sub (lw := [none, none, none, none]) (True.intro) (m_M_close_99 hX u2 r3))
  · refine g_aload_n hX 0 d_M_close_49 (n := 50) rfl rfl rfl ?_
    refine g_geta hX 37 gf_M_66 d_M_close_50 (n := 53) rfl sh_19 rfl ?_
    refine g_iload_n hX 3 d_M_close_53 (n := 54) rfl rfl rfl ?_
    refine g_iald hX d_M_close_54 (n := 55) rfl sh_37 ?_
    refine g_iload_n hX 1 d_M_close_55 (n := 56) rfl rfl rfl ?_
    refine g_icmp_eq hX 68 d_M_close_56 (n := 59) rfl rfl ?_ ?_
    · exact (m_M_close_68 hX K41 hK41 σ x1 x2 x3)
    · refine g_aload_n hX 0 d_M_close_59 (n := 60) rfl rfl rfl ?_
      refine g_iload_n hX 3 d_M_close_60 (n := 61) rfl rfl rfl ?_
      refine g_iload_n hX 2 d_M_close_61 (n := 62) rfl rfl rfl ?_
      refine g_cVv hX [_, _] rfl 0 0 (c_M_moveEvent _ Γ x3 x2 σ) gw_M_133 rfl sh_19 rfl d_M_close_62 (n := 65) rfl ⟨by decide, by decide⟩ ⟨by decide, by decide⟩ (Nat.le_of_ble_eq_true rfl) rfl rfl (fun u4 => ?_)
      refine g_iinc hX 1 _ [_, _, _, _] d_M_close_65 (n := 68) rfl rfl k_iconst_1 rfl (by decide) rfl ?_
      exact (m_M_close_68 hX K41 hK41 u4 x1 (x2 + 1) x3)
def f_M_close_41 (n : Nat) : Mem → Int32 → Int32 → Int32 → Option Mem := gfix (fun _ _ _ _ => none) (fun K41 => f_M_close_41B K41) n
theorem m_M_close_41 {κ : GC} {Γ : GA} (hX : Gx κ Γ 4 b_M_close "PaneScreenModel" r_M_close none) (n : Nat) : ∀ (σ : Mem) (x1 : Int32) (x2 : Int32) (x3 : Int32), GG κ Γ 4 (gQ gqv κ Γ r_M_close) 0 0 σ [some (.ref (Γ.2.1 19)), some (.int x1), some (.int x2), some (.int x3)] 41 [] (f_M_close_41 n σ x1 x2 x3) := by
  induction n with
  | zero => intros; exact g_none
  | succ n ih => intro σ x1 x2 x3; exact m_M_close_41B hX (f_M_close_41 n) ih σ x1 x2 x3
def f_M_close_14 (σ : Mem) (x1 : Int32) (s0 : Int32) : Option Mem :=
  gbm (m2 σ 19 0 s0) fun u1 =>
  if (u1 19 0) ≤ 0 then
    gbv (f_M_damageFrame x1 u1) fun u2 =>
    if gin x1 8 = true then
      gbm (m2 u2 21 x1.toNatClampNeg 0) fun u3 =>
      f_M_close_41 gN u3 x1 0 0
    else none
  else
    some u1
set_option maxRecDepth 100000 in
theorem m_M_close_14 {κ : GC} {Γ : GA} (hX : Gx κ Γ 4 b_M_close "PaneScreenModel" r_M_close none) (σ : Mem) (x1 : Int32) (s0 : Int32) : GG κ Γ 4 (gQ gqv κ Γ r_M_close) 0 0 σ [some (.ref (Γ.2.1 19)), some (.int x1), none, none] 14 [.int s0, .ref (Γ.2.1 19)] (f_M_close_14 σ x1 s0) := by
  unfold f_M_close_14
  refine g_puti hX gp_M_75 d_M_close_14 (n := 17) rfl sh_19 rfl ?_
  refine g_mem (fun u1 => ?_)
  refine g_aload_n hX 0 d_M_close_17 (n := 18) rfl rfl rfl ?_
  refine g_geti hX gf_M_75 d_M_close_18 (n := 21) rfl sh_19 rfl ?_
  refine g_if_le hX 25 d_M_close_21 (n := 24) rfl rfl ?_ ?_
  · refine g_aload_n hX 0 d_M_close_25 (n := 26) rfl rfl rfl ?_
    refine g_iload_n hX 1 d_M_close_26 (n := 27) rfl rfl rfl ?_
    refine g_cVv hX [_] rfl 0 0 (c_M_damageFrame _ Γ x1 u1) gw_M_123 rfl sh_19 rfl d_M_close_27 (n := 30) rfl ⟨by decide, by decide⟩ ⟨by decide, by decide⟩ (Nat.le_of_ble_eq_true rfl) rfl rfl (fun u2 => ?_)
    refine g_aload_n hX 0 d_M_close_30 (n := 31) rfl rfl rfl ?_
    refine g_geta hX 21 gf_M_13 d_M_close_31 (n := 34) rfl sh_19 rfl ?_
    refine g_iload_n hX 1 d_M_close_34 (n := 35) rfl rfl rfl ?_
    refine g_iconst hX 0 d_M_close_35 (n := 36) rfl k_iconst_0 ?_
    refine g_zast hX d_M_close_36 (n := 37) rfl sh_21 rfl ?_
    refine g_mem (fun u3 => ?_)
    refine g_iconst hX 0 d_M_close_37 (n := 38) rfl k_iconst_0 ?_
    refine g_istore_n hX 2 [_, _, _, _] d_M_close_38 (n := 39) rfl rfl (by decide) rfl ?_
    refine g_iconst hX 0 d_M_close_39 (n := 40) rfl k_iconst_0 ?_
    refine g_istore_n hX 3 [_, _, _, _] d_M_close_40 (n := 41) rfl rfl (by decide) rfl ?_
    exact (m_M_close_41 hX gN u3 x1 0 0)
  · exact g_vret hX d_M_close_24 (by decide) (by decide)
def f_M_close_0 (σ : Mem) (x1 : Int32) : Option Mem :=
  gb (f_M_isOpen x1 σ) fun r2 u1 =>
  if r2 = 0 then
    f_M_close_14 u1 x1 1
  else
    f_M_close_14 u1 x1 0
set_option maxRecDepth 100000 in
theorem m_M_close_0 {κ : GC} {Γ : GA} (hX : Gx κ Γ 4 b_M_close "PaneScreenModel" r_M_close none) (σ : Mem) (x1 : Int32) : GG κ Γ 4 (gQ gqv κ Γ r_M_close) 0 0 σ [some (.ref (Γ.2.1 19)), some (.int x1), none, none] 0 [] (f_M_close_0 σ x1) := by
  unfold f_M_close_0
  refine g_aload_n hX 0 d_M_close_0 (n := 1) rfl rfl rfl ?_
  refine g_aload_n hX 0 d_M_close_1 (n := 2) rfl rfl rfl ?_
  refine g_iload_n hX 1 d_M_close_2 (n := 3) rfl rfl rfl ?_
  refine g_cVi hX [_] rfl 0 0 (c_M_isOpen _ Γ x1 σ) gw_M_127 rfl sh_19 rfl d_M_close_3 (n := 6) rfl ⟨by decide, by decide⟩ ⟨by decide, by decide⟩ (Nat.le_of_ble_eq_true rfl) rfl rfl (fun r2 u1 => ?_)
  refine g_if_eq hX 13 d_M_close_6 (n := 9) rfl rfl ?_ ?_
  · refine g_iconst hX 1 d_M_close_13 (n := 14) rfl k_iconst_1 ?_
    exact (m_M_close_14 hX u1 x1 1)
  · refine g_iconst hX 0 d_M_close_9 (n := 10) rfl k_iconst_0 ?_
    refine g_goto hX 14 d_M_close_10 rfl ?_
    exact (m_M_close_14 hX u1 x1 0)
def f_M_close (x1 : Int32) (σ : Mem) : Option Mem := f_M_close_0 σ x1
theorem c_M_close (l : Launch) (Γ : GA) (x1 : Int32) (σ : Mem) : gM gqv l y_M_close b_M_close 4 none r_M_close [.ref (Γ.2.1 19), .int x1] Γ σ (f_M_close x1 σ) :=
  gM.of [some (.ref (Γ.2.1 19)), some (.int x1), none, none] (by decide) (Nat.le_of_ble_eq_true rfl) rfl rfl (fun κ hX _ => m_M_close_0 hX σ x1)
/-! M_move -/
theorem d_M_move_0 : decode b_M_move 0 = .ok (.aload_n 0, 1) := by decide +kernel
theorem d_M_move_1 : decode b_M_move 1 = .ok (.aload_n 0, 1) := by decide +kernel
theorem d_M_move_2 : decode b_M_move 2 = .ok (.iload_n 1, 1) := by decide +kernel
theorem d_M_move_3 : decode b_M_move 3 = .ok (.invokevirtual 127, 3) := by decide +kernel
theorem d_M_move_6 : decode b_M_move 6 = .ok (.ifCond .ne 7, 3) := by decide +kernel
theorem d_M_move_9 : decode b_M_move 9 = .ok (.iconst 1, 1) := by decide +kernel
theorem d_M_move_10 : decode b_M_move 10 = .ok (.goto 22, 3) := by decide +kernel
theorem d_M_move_13 : decode b_M_move 13 = .ok (.iload_n 2, 1) := by decide +kernel
theorem d_M_move_14 : decode b_M_move 14 = .ok (.invokestatic 109, 3) := by decide +kernel
theorem d_M_move_17 : decode b_M_move 17 = .ok (.ifCond .eq 10, 3) := by decide +kernel
theorem d_M_move_20 : decode b_M_move 20 = .ok (.iload_n 3, 1) := by decide +kernel
theorem d_M_move_21 : decode b_M_move 21 = .ok (.invokestatic 109, 3) := by decide +kernel
theorem d_M_move_24 : decode b_M_move 24 = .ok (.ifCond .ne 7, 3) := by decide +kernel
theorem d_M_move_27 : decode b_M_move 27 = .ok (.iconst 2, 1) := by decide +kernel
theorem d_M_move_28 : decode b_M_move 28 = .ok (.goto 4, 3) := by decide +kernel
theorem d_M_move_31 : decode b_M_move 31 = .ok (.iconst 0, 1) := by decide +kernel
theorem d_M_move_32 : decode b_M_move 32 = .ok (.putfield 75, 3) := by decide +kernel
theorem d_M_move_35 : decode b_M_move 35 = .ok (.aload_n 0, 1) := by decide +kernel
theorem d_M_move_36 : decode b_M_move 36 = .ok (.getfield 75, 3) := by decide +kernel
theorem d_M_move_39 : decode b_M_move 39 = .ok (.ifCond .le 4, 3) := by decide +kernel
theorem d_M_move_42 : decode b_M_move 42 = .ok (.return_, 1) := by decide +kernel
theorem d_M_move_43 : decode b_M_move 43 = .ok (.aload_n 0, 1) := by decide +kernel
theorem d_M_move_44 : decode b_M_move 44 = .ok (.iload_n 1, 1) := by decide +kernel
theorem d_M_move_45 : decode b_M_move 45 = .ok (.invokevirtual 123, 3) := by decide +kernel
theorem d_M_move_48 : decode b_M_move 48 = .ok (.aload_n 0, 1) := by decide +kernel
theorem d_M_move_49 : decode b_M_move 49 = .ok (.getfield 17, 3) := by decide +kernel
theorem d_M_move_52 : decode b_M_move 52 = .ok (.iload_n 1, 1) := by decide +kernel
theorem d_M_move_53 : decode b_M_move 53 = .ok (.iload_n 2, 1) := by decide +kernel
theorem d_M_move_54 : decode b_M_move 54 = .ok (.iastore, 1) := by decide +kernel
theorem d_M_move_55 : decode b_M_move 55 = .ok (.aload_n 0, 1) := by decide +kernel
theorem d_M_move_56 : decode b_M_move 56 = .ok (.getfield 20, 3) := by decide +kernel
theorem d_M_move_59 : decode b_M_move 59 = .ok (.iload_n 1, 1) := by decide +kernel
theorem d_M_move_60 : decode b_M_move 60 = .ok (.iload_n 3, 1) := by decide +kernel
theorem d_M_move_61 : decode b_M_move 61 = .ok (.iastore, 1) := by decide +kernel
theorem d_M_move_62 : decode b_M_move 62 = .ok (.aload_n 0, 1) := by decide +kernel
theorem d_M_move_63 : decode b_M_move 63 = .ok (.iload_n 1, 1) := by decide +kernel
theorem d_M_move_64 : decode b_M_move 64 = .ok (.invokevirtual 123, 3) := by decide +kernel
theorem d_M_move_67 : decode b_M_move 67 = .ok (.return_, 1) := by decide +kernel
abbrev r_M_move : Room := ⟨2, 0, 0, 50⟩
def f_M_move_32 (σ : Mem) (x1 : Int32) (x2 : Int32) (x3 : Int32) (s0 : Int32) : Option Mem :=
  gbm (m2 σ 19 0 s0) fun u1 =>
  if (u1 19 0) ≤ 0 then
    gbv (f_M_damageFrame x1 u1) fun u2 =>
    if gin x1 8 = true then
      gbm (m2 u2 22 x1.toNatClampNeg x2) fun u3 =>
      if gin x1 8 = true then
        gbm (m2 u3 23 x1.toNatClampNeg x3) fun u4 =>
        gbv (f_M_damageFrame x1 u4) fun u5 =>
        some u5
      else none
    else none
  else
    some u1
set_option maxRecDepth 100000 in
theorem m_M_move_32 {κ : GC} {Γ : GA} (hX : Gx κ Γ 4 b_M_move "PaneScreenModel" r_M_move none) (σ : Mem) (x1 : Int32) (x2 : Int32) (x3 : Int32) (s0 : Int32) : GG κ Γ 4 (gQ gqv κ Γ r_M_move) 0 0 σ [some (.ref (Γ.2.1 19)), some (.int x1), some (.int x2), some (.int x3)] 32 [.int s0, .ref (Γ.2.1 19)] (f_M_move_32 σ x1 x2 x3 s0) := by
  unfold f_M_move_32
  refine g_puti hX gp_M_75 d_M_move_32 (n := 35) rfl sh_19 rfl ?_
  refine g_mem (fun u1 => ?_)
  refine g_aload_n hX 0 d_M_move_35 (n := 36) rfl rfl rfl ?_
  refine g_geti hX gf_M_75 d_M_move_36 (n := 39) rfl sh_19 rfl ?_
  refine g_if_le hX 43 d_M_move_39 (n := 42) rfl rfl ?_ ?_
  · refine g_aload_n hX 0 d_M_move_43 (n := 44) rfl rfl rfl ?_
    refine g_iload_n hX 1 d_M_move_44 (n := 45) rfl rfl rfl ?_
    refine g_cVv hX [_] rfl 0 0 (c_M_damageFrame _ Γ x1 u1) gw_M_123 rfl sh_19 rfl d_M_move_45 (n := 48) rfl ⟨by decide, by decide⟩ ⟨by decide, by decide⟩ (Nat.le_of_ble_eq_true rfl) rfl rfl (fun u2 => ?_)
    refine g_aload_n hX 0 d_M_move_48 (n := 49) rfl rfl rfl ?_
    refine g_geta hX 22 gf_M_17 d_M_move_49 (n := 52) rfl sh_19 rfl ?_
    refine g_iload_n hX 1 d_M_move_52 (n := 53) rfl rfl rfl ?_
    refine g_iload_n hX 2 d_M_move_53 (n := 54) rfl rfl rfl ?_
    refine g_iast hX d_M_move_54 (n := 55) rfl sh_22 ?_
    refine g_mem (fun u3 => ?_)
    refine g_aload_n hX 0 d_M_move_55 (n := 56) rfl rfl rfl ?_
    refine g_geta hX 23 gf_M_20 d_M_move_56 (n := 59) rfl sh_19 rfl ?_
    refine g_iload_n hX 1 d_M_move_59 (n := 60) rfl rfl rfl ?_
    refine g_iload_n hX 3 d_M_move_60 (n := 61) rfl rfl rfl ?_
    refine g_iast hX d_M_move_61 (n := 62) rfl sh_23 ?_
    refine g_mem (fun u4 => ?_)
    refine g_aload_n hX 0 d_M_move_62 (n := 63) rfl rfl rfl ?_
    refine g_iload_n hX 1 d_M_move_63 (n := 64) rfl rfl rfl ?_
    refine g_cVv hX [_] rfl 0 0 (c_M_damageFrame _ Γ x1 u4) gw_M_123 rfl sh_19 rfl d_M_move_64 (n := 67) rfl ⟨by decide, by decide⟩ ⟨by decide, by decide⟩ (Nat.le_of_ble_eq_true rfl) rfl rfl (fun u5 => ?_)
    exact g_vret hX d_M_move_67 (by decide) (by decide)
  · exact g_vret hX d_M_move_42 (by decide) (by decide)
def f_M_move_27 (σ : Mem) (x1 : Int32) (x2 : Int32) (x3 : Int32) : Option Mem :=
  f_M_move_32 σ x1 x2 x3 2
set_option maxRecDepth 100000 in
theorem m_M_move_27 {κ : GC} {Γ : GA} (hX : Gx κ Γ 4 b_M_move "PaneScreenModel" r_M_move none) (σ : Mem) (x1 : Int32) (x2 : Int32) (x3 : Int32) : GG κ Γ 4 (gQ gqv κ Γ r_M_move) 0 0 σ [some (.ref (Γ.2.1 19)), some (.int x1), some (.int x2), some (.int x3)] 27 [.ref (Γ.2.1 19)] (f_M_move_27 σ x1 x2 x3) := by
  unfold f_M_move_27
  refine g_iconst hX 2 d_M_move_27 (n := 28) rfl k_iconst_2 ?_
  refine g_goto hX 32 d_M_move_28 rfl ?_
  exact (m_M_move_32 hX σ x1 x2 x3 2)
def f_M_move_0 (σ : Mem) (x1 : Int32) (x2 : Int32) (x3 : Int32) : Option Mem :=
  gb (f_M_isOpen x1 σ) fun r2 u1 =>
  if r2 = 0 then
    f_M_move_32 u1 x1 x2 x3 1
  else
    gb (f_M_near x2 u1) fun r4 u3 =>
    if r4 = 0 then
      f_M_move_27 u3 x1 x2 x3
    else
      gb (f_M_near x3 u3) fun r6 u5 =>
      if r6 = 0 then
        f_M_move_27 u5 x1 x2 x3
      else
        f_M_move_32 u5 x1 x2 x3 0
set_option maxRecDepth 100000 in
theorem m_M_move_0 {κ : GC} {Γ : GA} (hX : Gx κ Γ 4 b_M_move "PaneScreenModel" r_M_move none) (σ : Mem) (x1 : Int32) (x2 : Int32) (x3 : Int32) : GG κ Γ 4 (gQ gqv κ Γ r_M_move) 0 0 σ [some (.ref (Γ.2.1 19)), some (.int x1), some (.int x2), some (.int x3)] 0 [] (f_M_move_0 σ x1 x2 x3) := by
  unfold f_M_move_0
  refine g_aload_n hX 0 d_M_move_0 (n := 1) rfl rfl rfl ?_
  refine g_aload_n hX 0 d_M_move_1 (n := 2) rfl rfl rfl ?_
  refine g_iload_n hX 1 d_M_move_2 (n := 3) rfl rfl rfl ?_
  refine g_cVi hX [_] rfl 0 0 (c_M_isOpen _ Γ x1 σ) gw_M_127 rfl sh_19 rfl d_M_move_3 (n := 6) rfl ⟨by decide, by decide⟩ ⟨by decide, by decide⟩ (Nat.le_of_ble_eq_true rfl) rfl rfl (fun r2 u1 => ?_)
  refine g_if_ne hX 13 d_M_move_6 (n := 9) rfl rfl ?_ ?_
  · refine g_iload_n hX 2 d_M_move_13 (n := 14) rfl rfl rfl ?_
    refine g_cSi hX [_] rfl 0 0 (c_M_near _ Γ x2 u1) gw_M_109 rfl d_M_move_14 (n := 17) rfl ⟨by decide, by decide⟩ ⟨by decide, by decide⟩ (Nat.le_of_ble_eq_true rfl) rfl rfl (fun r4 u3 => ?_)
    refine g_if_eq hX 27 d_M_move_17 (n := 20) rfl rfl ?_ ?_
    · exact (m_M_move_27 hX u3 x1 x2 x3)
    · refine g_iload_n hX 3 d_M_move_20 (n := 21) rfl rfl rfl ?_
      refine g_cSi hX [_] rfl 0 0 (c_M_near _ Γ x3 u3) gw_M_109 rfl d_M_move_21 (n := 24) rfl ⟨by decide, by decide⟩ ⟨by decide, by decide⟩ (Nat.le_of_ble_eq_true rfl) rfl rfl (fun r6 u5 => ?_)
      refine g_if_ne hX 31 d_M_move_24 (n := 27) rfl rfl ?_ ?_
      · refine g_iconst hX 0 d_M_move_31 (n := 32) rfl k_iconst_0 ?_
        exact (m_M_move_32 hX u5 x1 x2 x3 0)
      · exact (m_M_move_27 hX u5 x1 x2 x3)
  · refine g_iconst hX 1 d_M_move_9 (n := 10) rfl k_iconst_1 ?_
    refine g_goto hX 32 d_M_move_10 rfl ?_
    exact (m_M_move_32 hX u1 x1 x2 x3 1)
def f_M_move (x1 : Int32) (x2 : Int32) (x3 : Int32) (σ : Mem) : Option Mem := f_M_move_0 σ x1 x2 x3
theorem c_M_move (l : Launch) (Γ : GA) (x1 : Int32) (x2 : Int32) (x3 : Int32) (σ : Mem) : gM gqv l y_M_move b_M_move 4 none r_M_move [.ref (Γ.2.1 19), .int x1, .int x2, .int x3] Γ σ (f_M_move x1 x2 x3 σ) :=
  gM.of [some (.ref (Γ.2.1 19)), some (.int x1), some (.int x2), some (.int x3)] (by decide) (Nat.le_of_ble_eq_true rfl) rfl rfl (fun κ hX _ => m_M_move_0 hX σ x1 x2 x3)
/-! M_lift -/
theorem d_M_lift_0 : decode b_M_lift 0 = .ok (.iconst 0, 1) := by decide +kernel
theorem d_M_lift_1 : decode b_M_lift 1 = .ok (.istore_n 3, 1) := by decide +kernel
theorem d_M_lift_2 : decode b_M_lift 2 = .ok (.iconst 0, 1) := by decide +kernel
theorem d_M_lift_3 : decode b_M_lift 3 = .ok (.istore 4, 2) := by decide +kernel
theorem d_M_lift_5 : decode b_M_lift 5 = .ok (.iload 4, 2) := by decide +kernel
theorem d_M_lift_7 : decode b_M_lift 7 = .ok (.bipush 8, 2) := by decide +kernel
theorem d_M_lift_9 : decode b_M_lift 9 = .ok (.if_icmp .ge 74, 3) := by decide +kernel
theorem d_M_lift_12 : decode b_M_lift 12 = .ok (.iload_n 3, 1) := by decide +kernel
theorem d_M_lift_13 : decode b_M_lift 13 = .ok (.ifCond .ne 58, 3) := by decide +kernel
theorem d_M_lift_16 : decode b_M_lift 16 = .ok (.aload_n 0, 1) := by decide +kernel
theorem d_M_lift_17 : decode b_M_lift 17 = .ok (.getfield 13, 3) := by decide +kernel
theorem d_M_lift_20 : decode b_M_lift 20 = .ok (.iload 4, 2) := by decide +kernel
theorem d_M_lift_22 : decode b_M_lift 22 = .ok (.baload, 1) := by decide +kernel
theorem d_M_lift_23 : decode b_M_lift 23 = .ok (.ifCond .eq 52, 3) := by decide +kernel
theorem d_M_lift_26 : decode b_M_lift 26 = .ok (.iload 4, 2) := by decide +kernel
theorem d_M_lift_28 : decode b_M_lift 28 = .ok (.iload_n 1, 1) := by decide +kernel
theorem d_M_lift_29 : decode b_M_lift 29 = .ok (.if_icmp .eq 46, 3) := by decide +kernel
theorem d_M_lift_32 : decode b_M_lift 32 = .ok (.iload_n 2, 1) := by decide +kernel
theorem d_M_lift_33 : decode b_M_lift 33 = .ok (.ifCond .eq 22, 3) := by decide +kernel
theorem d_M_lift_36 : decode b_M_lift 36 = .ok (.aload_n 0, 1) := by decide +kernel
theorem d_M_lift_37 : decode b_M_lift 37 = .ok (.getfield 38, 3) := by decide +kernel
theorem d_M_lift_40 : decode b_M_lift 40 = .ok (.iload 4, 2) := by decide +kernel
theorem d_M_lift_42 : decode b_M_lift 42 = .ok (.iaload, 1) := by decide +kernel
theorem d_M_lift_43 : decode b_M_lift 43 = .ok (.aload_n 0, 1) := by decide +kernel
theorem d_M_lift_44 : decode b_M_lift 44 = .ok (.getfield 38, 3) := by decide +kernel
theorem d_M_lift_47 : decode b_M_lift 47 = .ok (.iload_n 1, 1) := by decide +kernel
theorem d_M_lift_48 : decode b_M_lift 48 = .ok (.iaload, 1) := by decide +kernel
theorem d_M_lift_49 : decode b_M_lift 49 = .ok (.if_icmp .ge 26, 3) := by decide +kernel
theorem d_M_lift_52 : decode b_M_lift 52 = .ok (.goto 19, 3) := by decide +kernel
theorem d_M_lift_55 : decode b_M_lift 55 = .ok (.aload_n 0, 1) := by decide +kernel
theorem d_M_lift_56 : decode b_M_lift 56 = .ok (.getfield 38, 3) := by decide +kernel
theorem d_M_lift_59 : decode b_M_lift 59 = .ok (.iload 4, 2) := by decide +kernel
theorem d_M_lift_61 : decode b_M_lift 61 = .ok (.iaload, 1) := by decide +kernel
theorem d_M_lift_62 : decode b_M_lift 62 = .ok (.aload_n 0, 1) := by decide +kernel
theorem d_M_lift_63 : decode b_M_lift 63 = .ok (.getfield 38, 3) := by decide +kernel
theorem d_M_lift_66 : decode b_M_lift 66 = .ok (.iload_n 1, 1) := by decide +kernel
theorem d_M_lift_67 : decode b_M_lift 67 = .ok (.iaload, 1) := by decide +kernel
theorem d_M_lift_68 : decode b_M_lift 68 = .ok (.if_icmp .le 7, 3) := by decide +kernel
theorem d_M_lift_71 : decode b_M_lift 71 = .ok (.iconst 1, 1) := by decide +kernel
theorem d_M_lift_72 : decode b_M_lift 72 = .ok (.goto 4, 3) := by decide +kernel
theorem d_M_lift_75 : decode b_M_lift 75 = .ok (.iconst 0, 1) := by decide +kernel
theorem d_M_lift_76 : decode b_M_lift 76 = .ok (.istore_n 3, 1) := by decide +kernel
theorem d_M_lift_77 : decode b_M_lift 77 = .ok (.iinc 4 1, 3) := by decide +kernel
theorem d_M_lift_80 : decode b_M_lift 80 = .ok (.goto (-75), 3) := by decide +kernel
theorem d_M_lift_83 : decode b_M_lift 83 = .ok (.iload_n 3, 1) := by decide +kernel
theorem d_M_lift_84 : decode b_M_lift 84 = .ok (.ifCond .eq 30, 3) := by decide +kernel
theorem d_M_lift_87 : decode b_M_lift 87 = .ok (.iload_n 2, 1) := by decide +kernel
theorem d_M_lift_88 : decode b_M_lift 88 = .ok (.ifCond .eq 26, 3) := by decide +kernel
theorem d_M_lift_91 : decode b_M_lift 91 = .ok (.aload_n 0, 1) := by decide +kernel
theorem d_M_lift_92 : decode b_M_lift 92 = .ok (.dup, 1) := by decide +kernel
theorem d_M_lift_93 : decode b_M_lift 93 = .ok (.getfield 120, 3) := by decide +kernel
theorem d_M_lift_96 : decode b_M_lift 96 = .ok (.iconst 1, 1) := by decide +kernel
theorem d_M_lift_97 : decode b_M_lift 97 = .ok (.isub, 1) := by decide +kernel
theorem d_M_lift_98 : decode b_M_lift 98 = .ok (.putfield 120, 3) := by decide +kernel
theorem d_M_lift_101 : decode b_M_lift 101 = .ok (.aload_n 0, 1) := by decide +kernel
theorem d_M_lift_102 : decode b_M_lift 102 = .ok (.getfield 38, 3) := by decide +kernel
theorem d_M_lift_105 : decode b_M_lift 105 = .ok (.iload_n 1, 1) := by decide +kernel
theorem d_M_lift_106 : decode b_M_lift 106 = .ok (.aload_n 0, 1) := by decide +kernel
theorem d_M_lift_107 : decode b_M_lift 107 = .ok (.getfield 120, 3) := by decide +kernel
theorem d_M_lift_110 : decode b_M_lift 110 = .ok (.iastore, 1) := by decide +kernel
theorem d_M_lift_111 : decode b_M_lift 111 = .ok (.goto 27, 3) := by decide +kernel
theorem d_M_lift_114 : decode b_M_lift 114 = .ok (.iload_n 3, 1) := by decide +kernel
theorem d_M_lift_115 : decode b_M_lift 115 = .ok (.ifCond .eq 23, 3) := by decide +kernel
theorem d_M_lift_118 : decode b_M_lift 118 = .ok (.aload_n 0, 1) := by decide +kernel
theorem d_M_lift_119 : decode b_M_lift 119 = .ok (.dup, 1) := by decide +kernel
theorem d_M_lift_120 : decode b_M_lift 120 = .ok (.getfield 140, 3) := by decide +kernel
theorem d_M_lift_123 : decode b_M_lift 123 = .ok (.iconst 1, 1) := by decide +kernel
theorem d_M_lift_124 : decode b_M_lift 124 = .ok (.iadd, 1) := by decide +kernel
theorem d_M_lift_125 : decode b_M_lift 125 = .ok (.putfield 140, 3) := by decide +kernel
theorem d_M_lift_128 : decode b_M_lift 128 = .ok (.aload_n 0, 1) := by decide +kernel
theorem d_M_lift_129 : decode b_M_lift 129 = .ok (.getfield 38, 3) := by decide +kernel
theorem d_M_lift_132 : decode b_M_lift 132 = .ok (.iload_n 1, 1) := by decide +kernel
theorem d_M_lift_133 : decode b_M_lift 133 = .ok (.aload_n 0, 1) := by decide +kernel
theorem d_M_lift_134 : decode b_M_lift 134 = .ok (.getfield 140, 3) := by decide +kernel
theorem d_M_lift_137 : decode b_M_lift 137 = .ok (.iastore, 1) := by decide +kernel
theorem d_M_lift_138 : decode b_M_lift 138 = .ok (.iload_n 3, 1) := by decide +kernel
theorem d_M_lift_139 : decode b_M_lift 139 = .ok (.ifCond .eq 8, 3) := by decide +kernel
theorem d_M_lift_142 : decode b_M_lift 142 = .ok (.aload_n 0, 1) := by decide +kernel
theorem d_M_lift_143 : decode b_M_lift 143 = .ok (.iload_n 1, 1) := by decide +kernel
theorem d_M_lift_144 : decode b_M_lift 144 = .ok (.invokevirtual 123, 3) := by decide +kernel
theorem d_M_lift_147 : decode b_M_lift 147 = .ok (.iload_n 3, 1) := by decide +kernel
theorem d_M_lift_148 : decode b_M_lift 148 = .ok (.ireturn, 1) := by decide +kernel
abbrev r_M_lift : Room := ⟨2, 0, 0, 50⟩
def f_M_lift_76 (K5 : Mem → Int32 → Int32 → Int32 → Int32 → Option (Int32 × Mem)) (σ : Mem) (x1 : Int32) (x2 : Int32) (x4 : Int32) (s0 : Int32) : Option (Int32 × Mem) :=
  K5 σ x1 x2 s0 (x4 + 1)
set_option maxRecDepth 100000 in
theorem m_M_lift_76 {κ : GC} {Γ : GA} (hX : Gx κ Γ 5 b_M_lift "PaneScreenModel" r_M_lift (some .boolean)) (K5 : Mem → Int32 → Int32 → Int32 → Int32 → Option (Int32 × Mem)) (hK5 : ∀ (σ : Mem) (x1 : Int32) (x2 : Int32) (x3 : Int32) (x4 : Int32), GG κ Γ 5 (gQ gqi κ Γ r_M_lift) 0 0 σ [some (.ref (Γ.2.1 19)), some (.int x1), some (.int x2), some (.int x3), some (.int x4)] 5 [] (K5 σ x1 x2 x3 x4)) (σ : Mem) (x1 : Int32) (x2 : Int32) (x4 : Int32) (s0 : Int32) : GG κ Γ 5 (gQ gqi κ Γ r_M_lift) 0 0 σ [some (.ref (Γ.2.1 19)), some (.int x1), some (.int x2), none, some (.int x4)] 76 [.int s0] (f_M_lift_76 K5 σ x1 x2 x4 s0) := by
  unfold f_M_lift_76
  refine g_istore_n hX 3 [_, _, _, _, _] d_M_lift_76 (n := 77) rfl rfl (by decide) rfl ?_
  refine g_iinc hX 1 _ [_, _, _, _, _] d_M_lift_77 (n := 80) rfl rfl k_iconst_1 rfl (by decide) rfl ?_
  refine g_goto hX 5 d_M_lift_80 rfl ?_
  exact (hK5 σ x1 x2 s0 (x4 + 1))
def f_M_lift_71 (K5 : Mem → Int32 → Int32 → Int32 → Int32 → Option (Int32 × Mem)) (σ : Mem) (x1 : Int32) (x2 : Int32) (x4 : Int32) : Option (Int32 × Mem) :=
  f_M_lift_76 K5 σ x1 x2 x4 1
set_option maxRecDepth 100000 in
theorem m_M_lift_71 {κ : GC} {Γ : GA} (hX : Gx κ Γ 5 b_M_lift "PaneScreenModel" r_M_lift (some .boolean)) (K5 : Mem → Int32 → Int32 → Int32 → Int32 → Option (Int32 × Mem)) (hK5 : ∀ (σ : Mem) (x1 : Int32) (x2 : Int32) (x3 : Int32) (x4 : Int32), GG κ Γ 5 (gQ gqi κ Γ r_M_lift) 0 0 σ [some (.ref (Γ.2.1 19)), some (.int x1), some (.int x2), some (.int x3), some (.int x4)] 5 [] (K5 σ x1 x2 x3 x4)) (σ : Mem) (x1 : Int32) (x2 : Int32) (x4 : Int32) : GG κ Γ 5 (gQ gqi κ Γ r_M_lift) 0 0 σ [some (.ref (Γ.2.1 19)), some (.int x1), some (.int x2), none, some (.int x4)] 71 [] (f_M_lift_71 K5 σ x1 x2 x4) := by
  unfold f_M_lift_71
  refine g_iconst hX 1 d_M_lift_71 (n := 72) rfl k_iconst_1 ?_
  refine g_goto hX 76 d_M_lift_72 rfl ?_
  exact (m_M_lift_76 hX K5 hK5 σ x1 x2 x4 1)
def f_M_lift_75 (K5 : Mem → Int32 → Int32 → Int32 → Int32 → Option (Int32 × Mem)) (σ : Mem) (x1 : Int32) (x2 : Int32) (x4 : Int32) : Option (Int32 × Mem) :=
  f_M_lift_76 K5 σ x1 x2 x4 0
set_option maxRecDepth 100000 in
theorem m_M_lift_75 {κ : GC} {Γ : GA} (hX : Gx κ Γ 5 b_M_lift "PaneScreenModel" r_M_lift (some .boolean)) (K5 : Mem → Int32 → Int32 → Int32 → Int32 → Option (Int32 × Mem)) (hK5 : ∀ (σ : Mem) (x1 : Int32) (x2 : Int32) (x3 : Int32) (x4 : Int32), GG κ Γ 5 (gQ gqi κ Γ r_M_lift) 0 0 σ [some (.ref (Γ.2.1 19)), some (.int x1), some (.int x2), some (.int x3), some (.int x4)] 5 [] (K5 σ x1 x2 x3 x4)) (σ : Mem) (x1 : Int32) (x2 : Int32) (x4 : Int32) : GG κ Γ 5 (gQ gqi κ Γ r_M_lift) 0 0 σ [some (.ref (Γ.2.1 19)), some (.int x1), some (.int x2), none, some (.int x4)] 75 [] (f_M_lift_75 K5 σ x1 x2 x4) := by
  unfold f_M_lift_75
  refine g_iconst hX 0 d_M_lift_75 (n := 76) rfl k_iconst_0 ?_
  exact (m_M_lift_76 hX K5 hK5 σ x1 x2 x4 0)
def f_M_lift_147 (σ : Mem) (x3 : Int32) : Option (Int32 × Mem) :=
  if x3 &&& 1 = x3 then some (x3, σ) else none
set_option maxRecDepth 100000 in
theorem m_M_lift_147 {κ : GC} {Γ : GA} (hX : Gx κ Γ 5 b_M_lift "PaneScreenModel" r_M_lift (some .boolean)) (σ : Mem) (x3 : Int32) : GG κ Γ 5 (gQ gqi κ Γ r_M_lift) 0 0 σ [none, none, none, some (.int x3), none] 147 [] (f_M_lift_147 σ x3) := by
  unfold f_M_lift_147
  refine g_iload_n hX 3 d_M_lift_147 (n := 148) rfl rfl rfl ?_
  exact g_iretZ hX d_M_lift_148 (by decide) (by decide)
def f_M_lift_138 (σ : Mem) (x1 : Int32) (x3 : Int32) : Option (Int32 × Mem) :=
  if x3 = 0 then
    f_M_lift_147 σ x3
  else
    gbv (f_M_damageFrame x1 σ) fun u1 =>
    f_M_lift_147 u1 x3
set_option maxRecDepth 100000 in
theorem m_M_lift_138 {κ : GC} {Γ : GA} (hX : Gx κ Γ 5 b_M_lift "PaneScreenModel" r_M_lift (some .boolean)) (σ : Mem) (x1 : Int32) (x3 : Int32) : GG κ Γ 5 (gQ gqi κ Γ r_M_lift) 0 0 σ [some (.ref (Γ.2.1 19)), some (.int x1), none, some (.int x3), none] 138 [] (f_M_lift_138 σ x1 x3) := by
  unfold f_M_lift_138
  refine g_iload_n hX 3 d_M_lift_138 (n := 139) rfl rfl rfl ?_
  refine g_if_eq hX 147 d_M_lift_139 (n := 142) rfl rfl ?_ ?_
  · exact (g_sub (lw := [none, none, none, some (.int x3), none]) (And.intro rfl (True.intro)) (m_M_lift_147 hX σ x3))
  · refine g_aload_n hX 0 d_M_lift_142 (n := 143) rfl rfl rfl ?_
    refine g_iload_n hX 1 d_M_lift_143 (n := 144) rfl rfl rfl ?_
    refine g_cVv hX [_] rfl 0 0 (c_M_damageFrame _ Γ x1 σ) gw_M_123 rfl sh_19 rfl d_M_lift_144 (n := 147) rfl ⟨by decide, by decide⟩ ⟨by decide, by decide⟩ (Nat.le_of_ble_eq_true rfl) rfl rfl (fun u1 => ?_)
    exact (g_sub (lw := [none, none, none, some (.int x3), none]) (And.intro rfl (True.intro)) (m_M_lift_147 hX u1 x3))
def f_M_lift_114 (σ : Mem) (x1 : Int32) (x3 : Int32) : Option (Int32 × Mem) :=
  if x3 = 0 then
    f_M_lift_138 σ x1 x3
  else
    gbm (m2 σ 19 12 ((σ 19 12) + 1)) fun u1 =>
    if gin x1 8 = true then
      gbm (m2 u1 29 x1.toNatClampNeg (u1 19 12)) fun u2 =>
      f_M_lift_138 u2 x1 x3
    else none
set_option maxRecDepth 100000 in
theorem m_M_lift_114 {κ : GC} {Γ : GA} (hX : Gx κ Γ 5 b_M_lift "PaneScreenModel" r_M_lift (some .boolean)) (σ : Mem) (x1 : Int32) (x3 : Int32) : GG κ Γ 5 (gQ gqi κ Γ r_M_lift) 0 0 σ [some (.ref (Γ.2.1 19)), some (.int x1), none, some (.int x3), none] 114 [] (f_M_lift_114 σ x1 x3) := by
  unfold f_M_lift_114
  refine g_iload_n hX 3 d_M_lift_114 (n := 115) rfl rfl rfl ?_
  refine g_if_eq hX 138 d_M_lift_115 (n := 118) rfl rfl ?_ ?_
  · exact (m_M_lift_138 hX σ x1 x3)
  · refine g_aload_n hX 0 d_M_lift_118 (n := 119) rfl rfl rfl ?_
    refine g_dup hX d_M_lift_119 (n := 120) rfl rfl ?_
    refine g_geti hX gf_M_140 d_M_lift_120 (n := 123) rfl sh_19 rfl ?_
    refine g_iconst hX 1 d_M_lift_123 (n := 124) rfl k_iconst_1 ?_
    refine g_iadd hX d_M_lift_124 (n := 125) rfl ?_
    refine g_puti hX gp_M_140 d_M_lift_125 (n := 128) rfl sh_19 rfl ?_
    refine g_mem (fun u1 => ?_)
    refine g_aload_n hX 0 d_M_lift_128 (n := 129) rfl rfl rfl ?_
    refine g_geta hX 29 gf_M_38 d_M_lift_129 (n := 132) rfl sh_19 rfl ?_
    refine g_iload_n hX 1 d_M_lift_132 (n := 133) rfl rfl rfl ?_
    refine g_aload_n hX 0 d_M_lift_133 (n := 134) rfl rfl rfl ?_
    refine g_geti hX gf_M_140 d_M_lift_134 (n := 137) rfl sh_19 rfl ?_
    refine g_iast hX d_M_lift_137 (n := 138) rfl sh_29 ?_
    refine g_mem (fun u2 => ?_)
    exact (m_M_lift_138 hX u2 x1 x3)
def f_M_lift_5B (K5 : Mem → Int32 → Int32 → Int32 → Int32 → Option (Int32 × Mem)) (σ : Mem) (x1 : Int32) (x2 : Int32) (x3 : Int32) (x4 : Int32) : Option (Int32 × Mem) :=
  if 8 ≤ x4 then
    if x3 = 0 then
      f_M_lift_114 σ x1 x3
    else
      if x2 = 0 then
        f_M_lift_114 σ x1 x3
      else
        gbm (m2 σ 19 11 ((σ 19 11) - 1)) fun u1 =>
        if gin x1 8 = true then
          gbm (m2 u1 29 x1.toNatClampNeg (u1 19 11)) fun u2 =>
          f_M_lift_138 u2 x1 x3
        else none
  else
    if x3 = 0 then
      if gin x4 8 = true then
        if (σ 21 x4.toNatClampNeg) = 0 then
          f_M_lift_75 K5 σ x1 x2 x4
        else
          if x4 = x1 then
            f_M_lift_75 K5 σ x1 x2 x4
          else
            if x2 = 0 then
              if gin x4 8 = true then
                if gin x1 8 = true then
                  if (σ 29 x4.toNatClampNeg) ≤ (σ 29 x1.toNatClampNeg) then
                    f_M_lift_75 K5 σ x1 x2 x4
                  else
                    f_M_lift_71 K5 σ x1 x2 x4
                else none
              else none
            else
              if gin x4 8 = true then
                if gin x1 8 = true then
                  if (σ 29 x1.toNatClampNeg) ≤ (σ 29 x4.toNatClampNeg) then
                    f_M_lift_75 K5 σ x1 x2 x4
                  else
                    f_M_lift_71 K5 σ x1 x2 x4
                else none
              else none
      else none
    else
      f_M_lift_71 K5 σ x1 x2 x4
set_option maxRecDepth 100000 in
theorem m_M_lift_5B {κ : GC} {Γ : GA} (hX : Gx κ Γ 5 b_M_lift "PaneScreenModel" r_M_lift (some .boolean)) (K5 : Mem → Int32 → Int32 → Int32 → Int32 → Option (Int32 × Mem)) (hK5 : ∀ (σ : Mem) (x1 : Int32) (x2 : Int32) (x3 : Int32) (x4 : Int32), GG κ Γ 5 (gQ gqi κ Γ r_M_lift) 0 0 σ [some (.ref (Γ.2.1 19)), some (.int x1), some (.int x2), some (.int x3), some (.int x4)] 5 [] (K5 σ x1 x2 x3 x4)) (σ : Mem) (x1 : Int32) (x2 : Int32) (x3 : Int32) (x4 : Int32) : GG κ Γ 5 (gQ gqi κ Γ r_M_lift) 0 0 σ [some (.ref (Γ.2.1 19)), some (.int x1), some (.int x2), some (.int x3), some (.int x4)] 5 [] (f_M_lift_5B K5 σ x1 x2 x3 x4) := by
  unfold f_M_lift_5B
  refine g_iload hX d_M_lift_5 (n := 7) rfl rfl ?_
  refine g_bipush hX 8 d_M_lift_7 (n := 9) rfl k_bipush_8 ?_
  refine g_icmp_ge hX 83 d_M_lift_9 (n := 12) rfl rfl ?_ ?_
  · refine g_iload_n hX 3 d_M_lift_83 (n := 84) rfl rfl rfl ?_
    refine g_if_eq hX 114 d_M_lift_84 (n := 87) rfl rfl ?_ ?_
    · exact (g_sub (lw := [some (.ref (Γ.2.1 19)), some (.int x1), none, some (.int x3), none]) (And.intro rfl (And.intro rfl (And.intro rfl (True.intro)))) (m_M_lift_114 hX σ x1 x3))
    · refine g_iload_n hX 2 d_M_lift_87 (n := 88) rfl rfl rfl ?_
      refine g_if_eq hX 114 d_M_lift_88 (n := 91) rfl rfl ?_ ?_
      · exact (g_sub (lw := [some (.ref (Γ.2.1 19)), some (.int x1), none, some (.int x3), none]) (And.intro rfl (And.intro rfl (And.intro rfl (True.intro)))) (m_M_lift_114 hX σ x1 x3))
      · refine g_aload_n hX 0 d_M_lift_91 (n := 92) rfl rfl rfl ?_
        refine g_dup hX d_M_lift_92 (n := 93) rfl rfl ?_
        refine g_geti hX gf_M_120 d_M_lift_93 (n := 96) rfl sh_19 rfl ?_
        refine g_iconst hX 1 d_M_lift_96 (n := 97) rfl k_iconst_1 ?_
        refine g_isub hX d_M_lift_97 (n := 98) rfl ?_
        refine g_puti hX gp_M_120 d_M_lift_98 (n := 101) rfl sh_19 rfl ?_
        refine g_mem (fun u1 => ?_)
        refine g_aload_n hX 0 d_M_lift_101 (n := 102) rfl rfl rfl ?_
        refine g_geta hX 29 gf_M_38 d_M_lift_102 (n := 105) rfl sh_19 rfl ?_
        refine g_iload_n hX 1 d_M_lift_105 (n := 106) rfl rfl rfl ?_
        refine g_aload_n hX 0 d_M_lift_106 (n := 107) rfl rfl rfl ?_
        refine g_geti hX gf_M_120 d_M_lift_107 (n := 110) rfl sh_19 rfl ?_
        refine g_iast hX d_M_lift_110 (n := 111) rfl sh_29 ?_
        refine g_mem (fun u2 => ?_)
        refine g_goto hX 138 d_M_lift_111 rfl ?_
        exact (g_sub (lw := [some (.ref (Γ.2.1 19)), some (.int x1), none, some (.int x3), none]) (And.intro rfl (And.intro rfl (And.intro rfl (True.intro)))) (m_M_lift_138 hX u2 x1 x3))
  · refine g_iload_n hX 3 d_M_lift_12 (n := 13) rfl rfl rfl ?_
    refine g_if_ne hX 71 d_M_lift_13 (n := 16) rfl rfl ?_ ?_
    · exact (g_sub (lw := [some (.ref (Γ.2.1 19)), some (.int x1), some (.int x2), none, some (.int x4)]) (And.intro rfl (And.intro rfl (And.intro rfl (And.intro rfl (True.intro))))) (m_M_lift_71 hX K5 hK5 σ x1 x2 x4))
    · refine g_aload_n hX 0 d_M_lift_16 (n := 17) rfl rfl rfl ?_
      refine g_geta hX 21 gf_M_13 d_M_lift_17 (n := 20) rfl sh_19 rfl ?_
      refine g_iload hX d_M_lift_20 (n := 22) rfl rfl ?_
      refine g_zald hX d_M_lift_22 (n := 23) rfl sh_21 ?_
      refine g_if_eq hX 75 d_M_lift_23 (n := 26) rfl rfl ?_ ?_
      · exact (g_sub (lw := [some (.ref (Γ.2.1 19)), some (.int x1), some (.int x2), none, some (.int x4)]) (And.intro rfl (And.intro rfl (And.intro rfl (And.intro rfl (True.intro))))) (m_M_lift_75 hX K5 hK5 σ x1 x2 x4))
      · refine g_iload hX d_M_lift_26 (n := 28) rfl rfl ?_
        refine g_iload_n hX 1 d_M_lift_28 (n := 29) rfl rfl rfl ?_
        refine g_icmp_eq hX 75 d_M_lift_29 (n := 32) rfl rfl ?_ ?_
        · exact (g_sub (lw := [some (.ref (Γ.2.1 19)), some (.int x1), some (.int x2), none, some (.int x4)]) (And.intro rfl (And.intro rfl (And.intro rfl (And.intro rfl (True.intro))))) (m_M_lift_75 hX K5 hK5 σ x1 x2 x4))
        · refine g_iload_n hX 2 d_M_lift_32 (n := 33) rfl rfl rfl ?_
          refine g_if_eq hX 55 d_M_lift_33 (n := 36) rfl rfl ?_ ?_
          · refine g_aload_n hX 0 d_M_lift_55 (n := 56) rfl rfl rfl ?_
            refine g_geta hX 29 gf_M_38 d_M_lift_56 (n := 59) rfl sh_19 rfl ?_
            refine g_iload hX d_M_lift_59 (n := 61) rfl rfl ?_
            refine g_iald hX d_M_lift_61 (n := 62) rfl sh_29 ?_
            refine g_aload_n hX 0 d_M_lift_62 (n := 63) rfl rfl rfl ?_
            refine g_geta hX 29 gf_M_38 d_M_lift_63 (n := 66) rfl sh_19 rfl ?_
            refine g_iload_n hX 1 d_M_lift_66 (n := 67) rfl rfl rfl ?_
            refine g_iald hX d_M_lift_67 (n := 68) rfl sh_29 ?_
            refine g_icmp_le hX 75 d_M_lift_68 (n := 71) rfl rfl ?_ ?_
            · exact (g_sub (lw := [some (.ref (Γ.2.1 19)), some (.int x1), some (.int x2), none, some (.int x4)]) (And.intro rfl (And.intro rfl (And.intro rfl (And.intro rfl (True.intro))))) (m_M_lift_75 hX K5 hK5 σ x1 x2 x4))
            · exact (g_sub (lw := [some (.ref (Γ.2.1 19)), some (.int x1), some (.int x2), none, some (.int x4)]) (And.intro rfl (And.intro rfl (And.intro rfl (And.intro rfl (True.intro))))) (m_M_lift_71 hX K5 hK5 σ x1 x2 x4))
          · refine g_aload_n hX 0 d_M_lift_36 (n := 37) rfl rfl rfl ?_
            refine g_geta hX 29 gf_M_38 d_M_lift_37 (n := 40) rfl sh_19 rfl ?_
            refine g_iload hX d_M_lift_40 (n := 42) rfl rfl ?_
            refine g_iald hX d_M_lift_42 (n := 43) rfl sh_29 ?_
            refine g_aload_n hX 0 d_M_lift_43 (n := 44) rfl rfl rfl ?_
            refine g_geta hX 29 gf_M_38 d_M_lift_44 (n := 47) rfl sh_19 rfl ?_
            refine g_iload_n hX 1 d_M_lift_47 (n := 48) rfl rfl rfl ?_
            refine g_iald hX d_M_lift_48 (n := 49) rfl sh_29 ?_
            refine g_icmp_ge hX 75 d_M_lift_49 (n := 52) rfl rfl ?_ ?_
            · exact (g_sub (lw := [some (.ref (Γ.2.1 19)), some (.int x1), some (.int x2), none, some (.int x4)]) (And.intro rfl (And.intro rfl (And.intro rfl (And.intro rfl (True.intro))))) (m_M_lift_75 hX K5 hK5 σ x1 x2 x4))
            · refine g_goto hX 71 d_M_lift_52 rfl ?_
              exact (g_sub (lw := [some (.ref (Γ.2.1 19)), some (.int x1), some (.int x2), none, some (.int x4)]) (And.intro rfl (And.intro rfl (And.intro rfl (And.intro rfl (True.intro))))) (m_M_lift_71 hX K5 hK5 σ x1 x2 x4))
def f_M_lift_5 (n : Nat) : Mem → Int32 → Int32 → Int32 → Int32 → Option (Int32 × Mem) := gfix (fun _ _ _ _ _ => none) (fun K5 => f_M_lift_5B K5) n
theorem m_M_lift_5 {κ : GC} {Γ : GA} (hX : Gx κ Γ 5 b_M_lift "PaneScreenModel" r_M_lift (some .boolean)) (n : Nat) : ∀ (σ : Mem) (x1 : Int32) (x2 : Int32) (x3 : Int32) (x4 : Int32), GG κ Γ 5 (gQ gqi κ Γ r_M_lift) 0 0 σ [some (.ref (Γ.2.1 19)), some (.int x1), some (.int x2), some (.int x3), some (.int x4)] 5 [] (f_M_lift_5 n σ x1 x2 x3 x4) := by
  induction n with
  | zero => intros; exact g_none
  | succ n ih => intro σ x1 x2 x3 x4; exact m_M_lift_5B hX (f_M_lift_5 n) ih σ x1 x2 x3 x4
def f_M_lift_0 (σ : Mem) (x1 : Int32) (x2 : Int32) : Option (Int32 × Mem) :=
  f_M_lift_5 gN σ x1 x2 0 0
set_option maxRecDepth 100000 in
theorem m_M_lift_0 {κ : GC} {Γ : GA} (hX : Gx κ Γ 5 b_M_lift "PaneScreenModel" r_M_lift (some .boolean)) (σ : Mem) (x1 : Int32) (x2 : Int32) : GG κ Γ 5 (gQ gqi κ Γ r_M_lift) 0 0 σ [some (.ref (Γ.2.1 19)), some (.int x1), some (.int x2), none, none] 0 [] (f_M_lift_0 σ x1 x2) := by
  unfold f_M_lift_0
  refine g_iconst hX 0 d_M_lift_0 (n := 1) rfl k_iconst_0 ?_
  refine g_istore_n hX 3 [_, _, _, _, _] d_M_lift_1 (n := 2) rfl rfl (by decide) rfl ?_
  refine g_iconst hX 0 d_M_lift_2 (n := 3) rfl k_iconst_0 ?_
  refine g_istore hX [_, _, _, _, _] d_M_lift_3 (n := 5) rfl (by decide) rfl ?_
  exact (m_M_lift_5 hX gN σ x1 x2 0 0)
def f_M_lift (x1 : Int32) (x2 : Int32) (σ : Mem) : Option (Int32 × Mem) := f_M_lift_0 σ x1 x2
theorem c_M_lift (l : Launch) (Γ : GA) (x1 : Int32) (x2 : Int32) (σ : Mem) : gM gqi l y_M_lift b_M_lift 5 (some .boolean) r_M_lift [.ref (Γ.2.1 19), .int x1, .int x2] Γ σ (f_M_lift x1 x2 σ) :=
  gM.of [some (.ref (Γ.2.1 19)), some (.int x1), some (.int x2), none, none] (by decide) (Nat.le_of_ble_eq_true rfl) rfl rfl (fun κ hX _ => m_M_lift_0 hX σ x1 x2)
/-! M_raise -/
theorem d_M_raise_0 : decode b_M_raise 0 = .ok (.aload_n 0, 1) := by decide +kernel
theorem d_M_raise_1 : decode b_M_raise 1 = .ok (.aload_n 0, 1) := by decide +kernel
theorem d_M_raise_2 : decode b_M_raise 2 = .ok (.iload_n 1, 1) := by decide +kernel
theorem d_M_raise_3 : decode b_M_raise 3 = .ok (.invokevirtual 127, 3) := by decide +kernel
theorem d_M_raise_6 : decode b_M_raise 6 = .ok (.ifCond .eq 7, 3) := by decide +kernel
theorem d_M_raise_9 : decode b_M_raise 9 = .ok (.iconst 0, 1) := by decide +kernel
theorem d_M_raise_10 : decode b_M_raise 10 = .ok (.goto 4, 3) := by decide +kernel
theorem d_M_raise_13 : decode b_M_raise 13 = .ok (.iconst 1, 1) := by decide +kernel
theorem d_M_raise_14 : decode b_M_raise 14 = .ok (.putfield 75, 3) := by decide +kernel
theorem d_M_raise_17 : decode b_M_raise 17 = .ok (.aload_n 0, 1) := by decide +kernel
theorem d_M_raise_18 : decode b_M_raise 18 = .ok (.getfield 75, 3) := by decide +kernel
theorem d_M_raise_21 : decode b_M_raise 21 = .ok (.ifCond .ne 16, 3) := by decide +kernel
theorem d_M_raise_24 : decode b_M_raise 24 = .ok (.aload_n 0, 1) := by decide +kernel
theorem d_M_raise_25 : decode b_M_raise 25 = .ok (.iload_n 1, 1) := by decide +kernel
theorem d_M_raise_26 : decode b_M_raise 26 = .ok (.iload_n 2, 1) := by decide +kernel
theorem d_M_raise_27 : decode b_M_raise 27 = .ok (.invokevirtual 143, 3) := by decide +kernel
theorem d_M_raise_30 : decode b_M_raise 30 = .ok (.ifCond .eq 7, 3) := by decide +kernel
theorem d_M_raise_33 : decode b_M_raise 33 = .ok (.iconst 1, 1) := by decide +kernel
theorem d_M_raise_34 : decode b_M_raise 34 = .ok (.goto 4, 3) := by decide +kernel
theorem d_M_raise_37 : decode b_M_raise 37 = .ok (.iconst 0, 1) := by decide +kernel
theorem d_M_raise_38 : decode b_M_raise 38 = .ok (.ireturn, 1) := by decide +kernel
abbrev r_M_raise : Room := ⟨3, 0, 0, 74⟩
def f_M_raise_38 (σ : Mem) (s0 : Int32) : Option (Int32 × Mem) :=
  if s0 &&& 1 = s0 then some (s0, σ) else none
set_option maxRecDepth 100000 in
theorem m_M_raise_38 {κ : GC} {Γ : GA} (hX : Gx κ Γ 3 b_M_raise "PaneScreenModel" r_M_raise (some .boolean)) (σ : Mem) (s0 : Int32) : GG κ Γ 3 (gQ gqi κ Γ r_M_raise) 0 0 σ [none, none, none] 38 [.int s0] (f_M_raise_38 σ s0) := by
  unfold f_M_raise_38
  exact g_iretZ hX d_M_raise_38 (by decide) (by decide)
def f_M_raise_37 (σ : Mem) : Option (Int32 × Mem) :=
  f_M_raise_38 σ 0
set_option maxRecDepth 100000 in
theorem m_M_raise_37 {κ : GC} {Γ : GA} (hX : Gx κ Γ 3 b_M_raise "PaneScreenModel" r_M_raise (some .boolean)) (σ : Mem) : GG κ Γ 3 (gQ gqi κ Γ r_M_raise) 0 0 σ [none, none, none] 37 [] (f_M_raise_37 σ) := by
  unfold f_M_raise_37
  refine g_iconst hX 0 d_M_raise_37 (n := 38) rfl k_iconst_0 ?_
  exact (m_M_raise_38 hX σ 0)
def f_M_raise_14 (σ : Mem) (x1 : Int32) (x2 : Int32) (s0 : Int32) : Option (Int32 × Mem) :=
  gbm (m2 σ 19 0 s0) fun u1 =>
  if (u1 19 0) = 0 then
    gb (f_M_lift x1 x2 u1) fun r3 u2 =>
    if r3 = 0 then
      f_M_raise_37 u2
    else
      f_M_raise_38 u2 1
  else
    f_M_raise_37 u1
set_option maxRecDepth 100000 in
theorem m_M_raise_14 {κ : GC} {Γ : GA} (hX : Gx κ Γ 3 b_M_raise "PaneScreenModel" r_M_raise (some .boolean)) (σ : Mem) (x1 : Int32) (x2 : Int32) (s0 : Int32) : GG κ Γ 3 (gQ gqi κ Γ r_M_raise) 0 0 σ [some (.ref (Γ.2.1 19)), some (.int x1), some (.int x2)] 14 [.int s0, .ref (Γ.2.1 19)] (f_M_raise_14 σ x1 x2 s0) := by
  unfold f_M_raise_14
  refine g_puti hX gp_M_75 d_M_raise_14 (n := 17) rfl sh_19 rfl ?_
  refine g_mem (fun u1 => ?_)
  refine g_aload_n hX 0 d_M_raise_17 (n := 18) rfl rfl rfl ?_
  refine g_geti hX gf_M_75 d_M_raise_18 (n := 21) rfl sh_19 rfl ?_
  refine g_if_ne hX 37 d_M_raise_21 (n := 24) rfl rfl ?_ ?_
  · exact (g_sub (lw := [none, none, none]) (True.intro) (m_M_raise_37 hX u1))
  · refine g_aload_n hX 0 d_M_raise_24 (n := 25) rfl rfl rfl ?_
    refine g_iload_n hX 1 d_M_raise_25 (n := 26) rfl rfl rfl ?_
    refine g_iload_n hX 2 d_M_raise_26 (n := 27) rfl rfl rfl ?_
    refine g_cVi hX [_, _] rfl 0 0 (c_M_lift _ Γ x1 x2 u1) gw_M_143 rfl sh_19 rfl d_M_raise_27 (n := 30) rfl ⟨by decide, by decide⟩ ⟨by decide, by decide⟩ (Nat.le_of_ble_eq_true rfl) rfl rfl (fun r3 u2 => ?_)
    refine g_if_eq hX 37 d_M_raise_30 (n := 33) rfl rfl ?_ ?_
    · exact (g_sub (lw := [none, none, none]) (True.intro) (m_M_raise_37 hX u2))
    · refine g_iconst hX 1 d_M_raise_33 (n := 34) rfl k_iconst_1 ?_
      refine g_goto hX 38 d_M_raise_34 rfl ?_
      exact (g_sub (lw := [none, none, none]) (True.intro) (m_M_raise_38 hX u2 1))
def f_M_raise_0 (σ : Mem) (x1 : Int32) (x2 : Int32) : Option (Int32 × Mem) :=
  gb (f_M_isOpen x1 σ) fun r2 u1 =>
  if r2 = 0 then
    f_M_raise_14 u1 x1 x2 1
  else
    f_M_raise_14 u1 x1 x2 0
set_option maxRecDepth 100000 in
theorem m_M_raise_0 {κ : GC} {Γ : GA} (hX : Gx κ Γ 3 b_M_raise "PaneScreenModel" r_M_raise (some .boolean)) (σ : Mem) (x1 : Int32) (x2 : Int32) : GG κ Γ 3 (gQ gqi κ Γ r_M_raise) 0 0 σ [some (.ref (Γ.2.1 19)), some (.int x1), some (.int x2)] 0 [] (f_M_raise_0 σ x1 x2) := by
  unfold f_M_raise_0
  refine g_aload_n hX 0 d_M_raise_0 (n := 1) rfl rfl rfl ?_
  refine g_aload_n hX 0 d_M_raise_1 (n := 2) rfl rfl rfl ?_
  refine g_iload_n hX 1 d_M_raise_2 (n := 3) rfl rfl rfl ?_
  refine g_cVi hX [_] rfl 0 0 (c_M_isOpen _ Γ x1 σ) gw_M_127 rfl sh_19 rfl d_M_raise_3 (n := 6) rfl ⟨by decide, by decide⟩ ⟨by decide, by decide⟩ (Nat.le_of_ble_eq_true rfl) rfl rfl (fun r2 u1 => ?_)
  refine g_if_eq hX 13 d_M_raise_6 (n := 9) rfl rfl ?_ ?_
  · refine g_iconst hX 1 d_M_raise_13 (n := 14) rfl k_iconst_1 ?_
    exact (m_M_raise_14 hX u1 x1 x2 1)
  · refine g_iconst hX 0 d_M_raise_9 (n := 10) rfl k_iconst_0 ?_
    refine g_goto hX 14 d_M_raise_10 rfl ?_
    exact (m_M_raise_14 hX u1 x1 x2 0)
def f_M_raise (x1 : Int32) (x2 : Int32) (σ : Mem) : Option (Int32 × Mem) := f_M_raise_0 σ x1 x2
theorem c_M_raise (l : Launch) (Γ : GA) (x1 : Int32) (x2 : Int32) (σ : Mem) : gM gqi l y_M_raise b_M_raise 3 (some .boolean) r_M_raise [.ref (Γ.2.1 19), .int x1, .int x2] Γ σ (f_M_raise x1 x2 σ) :=
  gM.of [some (.ref (Γ.2.1 19)), some (.int x1), some (.int x2)] (by decide) (Nat.le_of_ble_eq_true rfl) rfl rfl (fun κ hX _ => m_M_raise_0 hX σ x1 x2)
/-! M_colour -/
theorem d_M_colour_0 : decode b_M_colour 0 = .ok (.iload_n 0, 1) := by decide +kernel
theorem d_M_colour_1 : decode b_M_colour 1 = .ok (.ifCond .lt 14, 3) := by decide +kernel
theorem d_M_colour_4 : decode b_M_colour 4 = .ok (.iload_n 0, 1) := by decide +kernel
theorem d_M_colour_5 : decode b_M_colour 5 = .ok (.sipush 255, 3) := by decide +kernel
theorem d_M_colour_8 : decode b_M_colour 8 = .ok (.if_icmp .gt 7, 3) := by decide +kernel
theorem d_M_colour_11 : decode b_M_colour 11 = .ok (.iconst 1, 1) := by decide +kernel
theorem d_M_colour_12 : decode b_M_colour 12 = .ok (.goto 4, 3) := by decide +kernel
theorem d_M_colour_15 : decode b_M_colour 15 = .ok (.iconst 0, 1) := by decide +kernel
theorem d_M_colour_16 : decode b_M_colour 16 = .ok (.ireturn, 1) := by decide +kernel
abbrev r_M_colour : Room := ⟨0, 0, 0, 0⟩
def f_M_colour_16 (σ : Mem) (s0 : Int32) : Option (Int32 × Mem) :=
  if s0 &&& 1 = s0 then some (s0, σ) else none
set_option maxRecDepth 100000 in
theorem m_M_colour_16 {κ : GC} {Γ : GA} (hX : Gx κ Γ 1 b_M_colour "PaneScreenModel" r_M_colour (some .boolean)) (σ : Mem) (s0 : Int32) : GG κ Γ 1 (gQ gqi κ Γ r_M_colour) 0 0 σ [none] 16 [.int s0] (f_M_colour_16 σ s0) := by
  unfold f_M_colour_16
  exact g_iretZ hX d_M_colour_16 (by decide) (by decide)
def f_M_colour_15 (σ : Mem) : Option (Int32 × Mem) :=
  f_M_colour_16 σ 0
set_option maxRecDepth 100000 in
theorem m_M_colour_15 {κ : GC} {Γ : GA} (hX : Gx κ Γ 1 b_M_colour "PaneScreenModel" r_M_colour (some .boolean)) (σ : Mem) : GG κ Γ 1 (gQ gqi κ Γ r_M_colour) 0 0 σ [none] 15 [] (f_M_colour_15 σ) := by
  unfold f_M_colour_15
  refine g_iconst hX 0 d_M_colour_15 (n := 16) rfl k_iconst_0 ?_
  exact (m_M_colour_16 hX σ 0)
def f_M_colour_0 (σ : Mem) (x0 : Int32) : Option (Int32 × Mem) :=
  if x0 < 0 then
    f_M_colour_15 σ
  else
    if 255 < x0 then
      f_M_colour_15 σ
    else
      f_M_colour_16 σ 1
set_option maxRecDepth 100000 in
theorem m_M_colour_0 {κ : GC} {Γ : GA} (hX : Gx κ Γ 1 b_M_colour "PaneScreenModel" r_M_colour (some .boolean)) (σ : Mem) (x0 : Int32) : GG κ Γ 1 (gQ gqi κ Γ r_M_colour) 0 0 σ [some (.int x0)] 0 [] (f_M_colour_0 σ x0) := by
  unfold f_M_colour_0
  refine g_iload_n hX 0 d_M_colour_0 (n := 1) rfl rfl rfl ?_
  refine g_if_lt hX 15 d_M_colour_1 (n := 4) rfl rfl ?_ ?_
  · exact (g_sub (lw := [none]) (True.intro) (m_M_colour_15 hX σ))
  · refine g_iload_n hX 0 d_M_colour_4 (n := 5) rfl rfl rfl ?_
    refine g_sipush hX 255 d_M_colour_5 (n := 8) rfl k_sipush_255 ?_
    refine g_icmp_gt hX 15 d_M_colour_8 (n := 11) rfl rfl ?_ ?_
    · exact (g_sub (lw := [none]) (True.intro) (m_M_colour_15 hX σ))
    · refine g_iconst hX 1 d_M_colour_11 (n := 12) rfl k_iconst_1 ?_
      refine g_goto hX 16 d_M_colour_12 rfl ?_
      exact (g_sub (lw := [none]) (True.intro) (m_M_colour_16 hX σ 1))
def f_M_colour (x0 : Int32) (σ : Mem) : Option (Int32 × Mem) := f_M_colour_0 σ x0
theorem c_M_colour (l : Launch) (Γ : GA) (x0 : Int32) (σ : Mem) : gM gqi l y_M_colour b_M_colour 1 (some .boolean) r_M_colour [.int x0] Γ σ (f_M_colour x0 σ) :=
  gM.of [some (.int x0)] (by decide) (Nat.le_of_ble_eq_true rfl) rfl rfl (fun κ hX _ => m_M_colour_0 hX σ x0)
/-! M_plot -/
theorem d_M_plot_0 : decode b_M_plot 0 = .ok (.aload_n 0, 1) := by decide +kernel
theorem d_M_plot_1 : decode b_M_plot 1 = .ok (.aload_n 0, 1) := by decide +kernel
theorem d_M_plot_2 : decode b_M_plot 2 = .ok (.iload_n 1, 1) := by decide +kernel
theorem d_M_plot_3 : decode b_M_plot 3 = .ok (.invokevirtual 127, 3) := by decide +kernel
theorem d_M_plot_6 : decode b_M_plot 6 = .ok (.ifCond .ne 7, 3) := by decide +kernel
theorem d_M_plot_9 : decode b_M_plot 9 = .ok (.iconst 1, 1) := by decide +kernel
theorem d_M_plot_10 : decode b_M_plot 10 = .ok (.goto 16, 3) := by decide +kernel
theorem d_M_plot_13 : decode b_M_plot 13 = .ok (.iload 4, 2) := by decide +kernel
theorem d_M_plot_15 : decode b_M_plot 15 = .ok (.invokestatic 147, 3) := by decide +kernel
theorem d_M_plot_18 : decode b_M_plot 18 = .ok (.ifCond .ne 7, 3) := by decide +kernel
theorem d_M_plot_21 : decode b_M_plot 21 = .ok (.iconst 2, 1) := by decide +kernel
theorem d_M_plot_22 : decode b_M_plot 22 = .ok (.goto 4, 3) := by decide +kernel
theorem d_M_plot_25 : decode b_M_plot 25 = .ok (.iconst 0, 1) := by decide +kernel
theorem d_M_plot_26 : decode b_M_plot 26 = .ok (.putfield 75, 3) := by decide +kernel
theorem d_M_plot_29 : decode b_M_plot 29 = .ok (.aload_n 0, 1) := by decide +kernel
theorem d_M_plot_30 : decode b_M_plot 30 = .ok (.getfield 75, 3) := by decide +kernel
theorem d_M_plot_33 : decode b_M_plot 33 = .ok (.ifCond .le 5, 3) := by decide +kernel
theorem d_M_plot_36 : decode b_M_plot 36 = .ok (.iconst 0, 1) := by decide +kernel
theorem d_M_plot_37 : decode b_M_plot 37 = .ok (.ireturn, 1) := by decide +kernel
theorem d_M_plot_38 : decode b_M_plot 38 = .ok (.aload_n 0, 1) := by decide +kernel
theorem d_M_plot_39 : decode b_M_plot 39 = .ok (.iload_n 1, 1) := by decide +kernel
theorem d_M_plot_40 : decode b_M_plot 40 = .ok (.iload_n 2, 1) := by decide +kernel
theorem d_M_plot_41 : decode b_M_plot 41 = .ok (.iload_n 3, 1) := by decide +kernel
theorem d_M_plot_42 : decode b_M_plot 42 = .ok (.iload 4, 2) := by decide +kernel
theorem d_M_plot_44 : decode b_M_plot 44 = .ok (.invokevirtual 150, 3) := by decide +kernel
theorem d_M_plot_47 : decode b_M_plot 47 = .ok (.istore 5, 2) := by decide +kernel
theorem d_M_plot_49 : decode b_M_plot 49 = .ok (.aload_n 0, 1) := by decide +kernel
theorem d_M_plot_50 : decode b_M_plot 50 = .ok (.iload_n 1, 1) := by decide +kernel
theorem d_M_plot_51 : decode b_M_plot 51 = .ok (.invokevirtual 154, 3) := by decide +kernel
theorem d_M_plot_54 : decode b_M_plot 54 = .ok (.iload 5, 2) := by decide +kernel
theorem d_M_plot_56 : decode b_M_plot 56 = .ok (.ireturn, 1) := by decide +kernel
abbrev r_M_plot : Room := ⟨2, 0, 0, 50⟩
def f_M_plot_26 (σ : Mem) (x1 : Int32) (x2 : Int32) (x3 : Int32) (x4 : Int32) (s0 : Int32) : Option (Int32 × Mem) :=
  gbm (m2 σ 19 0 s0) fun u1 =>
  if (u1 19 0) ≤ 0 then
    gb (f_M_paint x1 x2 x3 x4 u1) fun r3 u2 =>
    gbv (f_M_damageChanged x1 u2) fun u4 =>
    if r3 &&& 1 = r3 then some (r3, u4) else none
  else
    some (0, u1)
set_option maxRecDepth 100000 in
theorem m_M_plot_26 {κ : GC} {Γ : GA} (hX : Gx κ Γ 6 b_M_plot "PaneScreenModel" r_M_plot (some .boolean)) (σ : Mem) (x1 : Int32) (x2 : Int32) (x3 : Int32) (x4 : Int32) (s0 : Int32) : GG κ Γ 6 (gQ gqi κ Γ r_M_plot) 0 0 σ [some (.ref (Γ.2.1 19)), some (.int x1), some (.int x2), some (.int x3), some (.int x4), none] 26 [.int s0, .ref (Γ.2.1 19)] (f_M_plot_26 σ x1 x2 x3 x4 s0) := by
  unfold f_M_plot_26
  refine g_puti hX gp_M_75 d_M_plot_26 (n := 29) rfl sh_19 rfl ?_
  refine g_mem (fun u1 => ?_)
  refine g_aload_n hX 0 d_M_plot_29 (n := 30) rfl rfl rfl ?_
  refine g_geti hX gf_M_75 d_M_plot_30 (n := 33) rfl sh_19 rfl ?_
  refine g_if_le hX 38 d_M_plot_33 (n := 36) rfl rfl ?_ ?_
  · refine g_aload_n hX 0 d_M_plot_38 (n := 39) rfl rfl rfl ?_
    refine g_iload_n hX 1 d_M_plot_39 (n := 40) rfl rfl rfl ?_
    refine g_iload_n hX 2 d_M_plot_40 (n := 41) rfl rfl rfl ?_
    refine g_iload_n hX 3 d_M_plot_41 (n := 42) rfl rfl rfl ?_
    refine g_iload hX d_M_plot_42 (n := 44) rfl rfl ?_
    refine g_cVi hX [_, _, _, _] rfl 0 0 (c_M_paint _ Γ x1 x2 x3 x4 u1) gw_M_150 rfl sh_19 rfl d_M_plot_44 (n := 47) rfl ⟨by decide, by decide⟩ ⟨by decide, by decide⟩ (Nat.le_of_ble_eq_true rfl) rfl rfl (fun r3 u2 => ?_)
    refine g_istore hX [_, _, _, _, _, _] d_M_plot_47 (n := 49) rfl (by decide) rfl ?_
    refine g_aload_n hX 0 d_M_plot_49 (n := 50) rfl rfl rfl ?_
    refine g_iload_n hX 1 d_M_plot_50 (n := 51) rfl rfl rfl ?_
    refine g_cVv hX [_] rfl 0 0 (c_M_damageChanged _ Γ x1 u2) gw_M_154 rfl sh_19 rfl d_M_plot_51 (n := 54) rfl ⟨by decide, by decide⟩ ⟨by decide, by decide⟩ (Nat.le_of_ble_eq_true rfl) rfl rfl (fun u4 => ?_)
    refine g_iload hX d_M_plot_54 (n := 56) rfl rfl ?_
    exact g_iretZ hX d_M_plot_56 (by decide) (by decide)
  · refine g_iconst hX 0 d_M_plot_36 (n := 37) rfl k_iconst_0 ?_
    exact g_iretz hX rfl d_M_plot_37 (by decide) (by decide)
def f_M_plot_0 (σ : Mem) (x1 : Int32) (x2 : Int32) (x3 : Int32) (x4 : Int32) : Option (Int32 × Mem) :=
  gb (f_M_isOpen x1 σ) fun r2 u1 =>
  if r2 = 0 then
    f_M_plot_26 u1 x1 x2 x3 x4 1
  else
    gb (f_M_colour x4 u1) fun r4 u3 =>
    if r4 = 0 then
      f_M_plot_26 u3 x1 x2 x3 x4 2
    else
      f_M_plot_26 u3 x1 x2 x3 x4 0
set_option maxRecDepth 100000 in
theorem m_M_plot_0 {κ : GC} {Γ : GA} (hX : Gx κ Γ 6 b_M_plot "PaneScreenModel" r_M_plot (some .boolean)) (σ : Mem) (x1 : Int32) (x2 : Int32) (x3 : Int32) (x4 : Int32) : GG κ Γ 6 (gQ gqi κ Γ r_M_plot) 0 0 σ [some (.ref (Γ.2.1 19)), some (.int x1), some (.int x2), some (.int x3), some (.int x4), none] 0 [] (f_M_plot_0 σ x1 x2 x3 x4) := by
  unfold f_M_plot_0
  refine g_aload_n hX 0 d_M_plot_0 (n := 1) rfl rfl rfl ?_
  refine g_aload_n hX 0 d_M_plot_1 (n := 2) rfl rfl rfl ?_
  refine g_iload_n hX 1 d_M_plot_2 (n := 3) rfl rfl rfl ?_
  refine g_cVi hX [_] rfl 0 0 (c_M_isOpen _ Γ x1 σ) gw_M_127 rfl sh_19 rfl d_M_plot_3 (n := 6) rfl ⟨by decide, by decide⟩ ⟨by decide, by decide⟩ (Nat.le_of_ble_eq_true rfl) rfl rfl (fun r2 u1 => ?_)
  refine g_if_ne hX 13 d_M_plot_6 (n := 9) rfl rfl ?_ ?_
  · refine g_iload hX d_M_plot_13 (n := 15) rfl rfl ?_
    refine g_cSi hX [_] rfl 0 0 (c_M_colour _ Γ x4 u1) gw_M_147 rfl d_M_plot_15 (n := 18) rfl ⟨by decide, by decide⟩ ⟨by decide, by decide⟩ (Nat.le_of_ble_eq_true rfl) rfl rfl (fun r4 u3 => ?_)
    refine g_if_ne hX 25 d_M_plot_18 (n := 21) rfl rfl ?_ ?_
    · refine g_iconst hX 0 d_M_plot_25 (n := 26) rfl k_iconst_0 ?_
      exact (m_M_plot_26 hX u3 x1 x2 x3 x4 0)
    · refine g_iconst hX 2 d_M_plot_21 (n := 22) rfl k_iconst_2 ?_
      refine g_goto hX 26 d_M_plot_22 rfl ?_
      exact (m_M_plot_26 hX u3 x1 x2 x3 x4 2)
  · refine g_iconst hX 1 d_M_plot_9 (n := 10) rfl k_iconst_1 ?_
    refine g_goto hX 26 d_M_plot_10 rfl ?_
    exact (m_M_plot_26 hX u1 x1 x2 x3 x4 1)
def f_M_plot (x1 : Int32) (x2 : Int32) (x3 : Int32) (x4 : Int32) (σ : Mem) : Option (Int32 × Mem) := f_M_plot_0 σ x1 x2 x3 x4
theorem c_M_plot (l : Launch) (Γ : GA) (x1 : Int32) (x2 : Int32) (x3 : Int32) (x4 : Int32) (σ : Mem) : gM gqi l y_M_plot b_M_plot 6 (some .boolean) r_M_plot [.ref (Γ.2.1 19), .int x1, .int x2, .int x3, .int x4] Γ σ (f_M_plot x1 x2 x3 x4 σ) :=
  gM.of [some (.ref (Γ.2.1 19)), some (.int x1), some (.int x2), some (.int x3), some (.int x4), none] (by decide) (Nat.le_of_ble_eq_true rfl) rfl rfl (fun κ hX _ => m_M_plot_0 hX σ x1 x2 x3 x4)
/-! M_fill -/
theorem d_M_fill_0 : decode b_M_fill 0 = .ok (.aload_n 0, 1) := by decide +kernel
theorem d_M_fill_1 : decode b_M_fill 1 = .ok (.aload_n 0, 1) := by decide +kernel
theorem d_M_fill_2 : decode b_M_fill 2 = .ok (.iload_n 1, 1) := by decide +kernel
theorem d_M_fill_3 : decode b_M_fill 3 = .ok (.invokevirtual 127, 3) := by decide +kernel
theorem d_M_fill_6 : decode b_M_fill 6 = .ok (.ifCond .ne 7, 3) := by decide +kernel
theorem d_M_fill_9 : decode b_M_fill 9 = .ok (.iconst 1, 1) := by decide +kernel
theorem d_M_fill_10 : decode b_M_fill 10 = .ok (.goto 43, 3) := by decide +kernel
theorem d_M_fill_13 : decode b_M_fill 13 = .ok (.iload_n 2, 1) := by decide +kernel
theorem d_M_fill_14 : decode b_M_fill 14 = .ok (.invokestatic 109, 3) := by decide +kernel
theorem d_M_fill_17 : decode b_M_fill 17 = .ok (.ifCond .eq 31, 3) := by decide +kernel
theorem d_M_fill_20 : decode b_M_fill 20 = .ok (.iload_n 3, 1) := by decide +kernel
theorem d_M_fill_21 : decode b_M_fill 21 = .ok (.invokestatic 109, 3) := by decide +kernel
theorem d_M_fill_24 : decode b_M_fill 24 = .ok (.ifCond .eq 24, 3) := by decide +kernel
theorem d_M_fill_27 : decode b_M_fill 27 = .ok (.iload 4, 2) := by decide +kernel
theorem d_M_fill_29 : decode b_M_fill 29 = .ok (.ifCond .lt 19, 3) := by decide +kernel
theorem d_M_fill_32 : decode b_M_fill 32 = .ok (.iload 4, 2) := by decide +kernel
theorem d_M_fill_34 : decode b_M_fill 34 = .ok (.sipush 1023, 3) := by decide +kernel
theorem d_M_fill_37 : decode b_M_fill 37 = .ok (.if_icmp .gt 11, 3) := by decide +kernel
theorem d_M_fill_40 : decode b_M_fill 40 = .ok (.iload 5, 2) := by decide +kernel
theorem d_M_fill_42 : decode b_M_fill 42 = .ok (.invokestatic 147, 3) := by decide +kernel
theorem d_M_fill_45 : decode b_M_fill 45 = .ok (.ifCond .ne 7, 3) := by decide +kernel
theorem d_M_fill_48 : decode b_M_fill 48 = .ok (.iconst 2, 1) := by decide +kernel
theorem d_M_fill_49 : decode b_M_fill 49 = .ok (.goto 4, 3) := by decide +kernel
theorem d_M_fill_52 : decode b_M_fill 52 = .ok (.iconst 0, 1) := by decide +kernel
theorem d_M_fill_53 : decode b_M_fill 53 = .ok (.putfield 75, 3) := by decide +kernel
theorem d_M_fill_56 : decode b_M_fill 56 = .ok (.aload_n 0, 1) := by decide +kernel
theorem d_M_fill_57 : decode b_M_fill 57 = .ok (.getfield 75, 3) := by decide +kernel
theorem d_M_fill_60 : decode b_M_fill 60 = .ok (.ifCond .le 5, 3) := by decide +kernel
theorem d_M_fill_63 : decode b_M_fill 63 = .ok (.iconst 0, 1) := by decide +kernel
theorem d_M_fill_64 : decode b_M_fill 64 = .ok (.ireturn, 1) := by decide +kernel
theorem d_M_fill_65 : decode b_M_fill 65 = .ok (.iconst 0, 1) := by decide +kernel
theorem d_M_fill_66 : decode b_M_fill 66 = .ok (.istore 6, 2) := by decide +kernel
theorem d_M_fill_68 : decode b_M_fill 68 = .ok (.iload_n 2, 1) := by decide +kernel
theorem d_M_fill_69 : decode b_M_fill 69 = .ok (.istore 7, 2) := by decide +kernel
theorem d_M_fill_71 : decode b_M_fill 71 = .ok (.iload 7, 2) := by decide +kernel
theorem d_M_fill_73 : decode b_M_fill 73 = .ok (.iload_n 2, 1) := by decide +kernel
theorem d_M_fill_74 : decode b_M_fill 74 = .ok (.iload 4, 2) := by decide +kernel
theorem d_M_fill_76 : decode b_M_fill 76 = .ok (.bipush 32, 2) := by decide +kernel
theorem d_M_fill_78 : decode b_M_fill 78 = .ok (.irem, 1) := by decide +kernel
theorem d_M_fill_79 : decode b_M_fill 79 = .ok (.iadd, 1) := by decide +kernel
theorem d_M_fill_80 : decode b_M_fill 80 = .ok (.if_icmp .ge 54, 3) := by decide +kernel
theorem d_M_fill_83 : decode b_M_fill 83 = .ok (.iload_n 3, 1) := by decide +kernel
theorem d_M_fill_84 : decode b_M_fill 84 = .ok (.istore 8, 2) := by decide +kernel
theorem d_M_fill_86 : decode b_M_fill 86 = .ok (.iload 8, 2) := by decide +kernel
theorem d_M_fill_88 : decode b_M_fill 88 = .ok (.iload_n 3, 1) := by decide +kernel
theorem d_M_fill_89 : decode b_M_fill 89 = .ok (.iload 4, 2) := by decide +kernel
theorem d_M_fill_91 : decode b_M_fill 91 = .ok (.bipush 32, 2) := by decide +kernel
theorem d_M_fill_93 : decode b_M_fill 93 = .ok (.idiv, 1) := by decide +kernel
theorem d_M_fill_94 : decode b_M_fill 94 = .ok (.iadd, 1) := by decide +kernel
theorem d_M_fill_95 : decode b_M_fill 95 = .ok (.if_icmp .ge 33, 3) := by decide +kernel
theorem d_M_fill_98 : decode b_M_fill 98 = .ok (.iload 6, 2) := by decide +kernel
theorem d_M_fill_100 : decode b_M_fill 100 = .ok (.aload_n 0, 1) := by decide +kernel
theorem d_M_fill_101 : decode b_M_fill 101 = .ok (.iload_n 1, 1) := by decide +kernel
theorem d_M_fill_102 : decode b_M_fill 102 = .ok (.iload 7, 2) := by decide +kernel
theorem d_M_fill_104 : decode b_M_fill 104 = .ok (.iload 8, 2) := by decide +kernel
theorem d_M_fill_106 : decode b_M_fill 106 = .ok (.iload 5, 2) := by decide +kernel
theorem d_M_fill_108 : decode b_M_fill 108 = .ok (.invokevirtual 150, 3) := by decide +kernel
theorem d_M_fill_111 : decode b_M_fill 111 = .ok (.ifCond .eq 7, 3) := by decide +kernel
theorem d_M_fill_114 : decode b_M_fill 114 = .ok (.iconst 1, 1) := by decide +kernel
theorem d_M_fill_115 : decode b_M_fill 115 = .ok (.goto 4, 3) := by decide +kernel
theorem d_M_fill_118 : decode b_M_fill 118 = .ok (.iconst 0, 1) := by decide +kernel
theorem d_M_fill_119 : decode b_M_fill 119 = .ok (.iadd, 1) := by decide +kernel
theorem d_M_fill_120 : decode b_M_fill 120 = .ok (.istore 6, 2) := by decide +kernel
theorem d_M_fill_122 : decode b_M_fill 122 = .ok (.iinc 8 1, 3) := by decide +kernel
theorem d_M_fill_125 : decode b_M_fill 125 = .ok (.goto (-39), 3) := by decide +kernel
theorem d_M_fill_128 : decode b_M_fill 128 = .ok (.iinc 7 1, 3) := by decide +kernel
theorem d_M_fill_131 : decode b_M_fill 131 = .ok (.goto (-60), 3) := by decide +kernel
theorem d_M_fill_134 : decode b_M_fill 134 = .ok (.aload_n 0, 1) := by decide +kernel
theorem d_M_fill_135 : decode b_M_fill 135 = .ok (.iload_n 1, 1) := by decide +kernel
theorem d_M_fill_136 : decode b_M_fill 136 = .ok (.invokevirtual 154, 3) := by decide +kernel
theorem d_M_fill_139 : decode b_M_fill 139 = .ok (.iload 6, 2) := by decide +kernel
theorem d_M_fill_141 : decode b_M_fill 141 = .ok (.ireturn, 1) := by decide +kernel
abbrev r_M_fill : Room := ⟨2, 0, 0, 50⟩
def f_M_fill_119 (K71 : Mem → Int32 → Int32 → Int32 → Int32 → Int32 → Int32 → Int32 → Option (Int32 × Mem)) (K86 : Mem → Int32 → Int32 → Int32 → Int32 → Int32 → Int32 → Int32 → Int32 → Option (Int32 × Mem)) (σ : Mem) (x1 : Int32) (x2 : Int32) (x3 : Int32) (x4 : Int32) (x5 : Int32) (x7 : Int32) (x8 : Int32) (s0 : Int32) (s1 : Int32) : Option (Int32 × Mem) :=
  gbi (s1 + s0) fun y1 =>
  K86 σ x1 x2 x3 x4 x5 y1 x7 (x8 + 1)
set_option maxRecDepth 100000 in
theorem m_M_fill_119 {κ : GC} {Γ : GA} (hX : Gx κ Γ 9 b_M_fill "PaneScreenModel" r_M_fill (some .int)) (K71 : Mem → Int32 → Int32 → Int32 → Int32 → Int32 → Int32 → Int32 → Option (Int32 × Mem)) (hK71 : ∀ (σ : Mem) (x1 : Int32) (x2 : Int32) (x3 : Int32) (x4 : Int32) (x5 : Int32) (x6 : Int32) (x7 : Int32), GG κ Γ 9 (gQ gqi κ Γ r_M_fill) 0 0 σ [some (.ref (Γ.2.1 19)), some (.int x1), some (.int x2), some (.int x3), some (.int x4), some (.int x5), some (.int x6), some (.int x7), none] 71 [] (K71 σ x1 x2 x3 x4 x5 x6 x7)) (K86 : Mem → Int32 → Int32 → Int32 → Int32 → Int32 → Int32 → Int32 → Int32 → Option (Int32 × Mem)) (hK86 : ∀ (σ : Mem) (x1 : Int32) (x2 : Int32) (x3 : Int32) (x4 : Int32) (x5 : Int32) (x6 : Int32) (x7 : Int32) (x8 : Int32), GG κ Γ 9 (gQ gqi κ Γ r_M_fill) 0 0 σ [some (.ref (Γ.2.1 19)), some (.int x1), some (.int x2), some (.int x3), some (.int x4), some (.int x5), some (.int x6), some (.int x7), some (.int x8)] 86 [] (K86 σ x1 x2 x3 x4 x5 x6 x7 x8)) (σ : Mem) (x1 : Int32) (x2 : Int32) (x3 : Int32) (x4 : Int32) (x5 : Int32) (x7 : Int32) (x8 : Int32) (s0 : Int32) (s1 : Int32) : GG κ Γ 9 (gQ gqi κ Γ r_M_fill) 0 0 σ [some (.ref (Γ.2.1 19)), some (.int x1), some (.int x2), some (.int x3), some (.int x4), some (.int x5), none, some (.int x7), some (.int x8)] 119 [.int s0, .int s1] (f_M_fill_119 K71 K86 σ x1 x2 x3 x4 x5 x7 x8 s0 s1) := by
  unfold f_M_fill_119
  refine g_iadd hX d_M_fill_119 (n := 120) rfl ?_
  refine g_top (fun y1 => ?_)
  refine g_istore hX [_, _, _, _, _, _, _, _, _] d_M_fill_120 (n := 122) rfl (by decide) rfl ?_
  refine g_iinc hX 1 _ [_, _, _, _, _, _, _, _, _] d_M_fill_122 (n := 125) rfl rfl k_iconst_1 rfl (by decide) rfl ?_
  refine g_goto hX 86 d_M_fill_125 rfl ?_
  exact (hK86 σ x1 x2 x3 x4 x5 y1 x7 (x8 + 1))
def f_M_fill_86B (K71 : Mem → Int32 → Int32 → Int32 → Int32 → Int32 → Int32 → Int32 → Option (Int32 × Mem)) (K86 : Mem → Int32 → Int32 → Int32 → Int32 → Int32 → Int32 → Int32 → Int32 → Option (Int32 × Mem)) (σ : Mem) (x1 : Int32) (x2 : Int32) (x3 : Int32) (x4 : Int32) (x5 : Int32) (x6 : Int32) (x7 : Int32) (x8 : Int32) : Option (Int32 × Mem) :=
  if (x3 + (x4 / 32)) ≤ x8 then
    K71 σ x1 x2 x3 x4 x5 x6 (x7 + 1)
  else
    gb (f_M_paint x1 x7 x8 x5 σ) fun r2 u1 =>
    if r2 = 0 then
      f_M_fill_119 K71 K86 u1 x1 x2 x3 x4 x5 x7 x8 0 x6
    else
      f_M_fill_119 K71 K86 u1 x1 x2 x3 x4 x5 x7 x8 1 x6
set_option maxRecDepth 100000 in
theorem m_M_fill_86B {κ : GC} {Γ : GA} (hX : Gx κ Γ 9 b_M_fill "PaneScreenModel" r_M_fill (some .int)) (K71 : Mem → Int32 → Int32 → Int32 → Int32 → Int32 → Int32 → Int32 → Option (Int32 × Mem)) (hK71 : ∀ (σ : Mem) (x1 : Int32) (x2 : Int32) (x3 : Int32) (x4 : Int32) (x5 : Int32) (x6 : Int32) (x7 : Int32), GG κ Γ 9 (gQ gqi κ Γ r_M_fill) 0 0 σ [some (.ref (Γ.2.1 19)), some (.int x1), some (.int x2), some (.int x3), some (.int x4), some (.int x5), some (.int x6), some (.int x7), none] 71 [] (K71 σ x1 x2 x3 x4 x5 x6 x7)) (K86 : Mem → Int32 → Int32 → Int32 → Int32 → Int32 → Int32 → Int32 → Int32 → Option (Int32 × Mem)) (hK86 : ∀ (σ : Mem) (x1 : Int32) (x2 : Int32) (x3 : Int32) (x4 : Int32) (x5 : Int32) (x6 : Int32) (x7 : Int32) (x8 : Int32), GG κ Γ 9 (gQ gqi κ Γ r_M_fill) 0 0 σ [some (.ref (Γ.2.1 19)), some (.int x1), some (.int x2), some (.int x3), some (.int x4), some (.int x5), some (.int x6), some (.int x7), some (.int x8)] 86 [] (K86 σ x1 x2 x3 x4 x5 x6 x7 x8)) (σ : Mem) (x1 : Int32) (x2 : Int32) (x3 : Int32) (x4 : Int32) (x5 : Int32) (x6 : Int32) (x7 : Int32) (x8 : Int32) : GG κ Γ 9 (gQ gqi κ Γ r_M_fill) 0 0 σ [some (.ref (Γ.2.1 19)), some (.int x1), some (.int x2), some (.int x3), some (.int x4), some (.int x5), some (.int x6), some (.int x7), some (.int x8)] 86 [] (f_M_fill_86B K71 K86 σ x1 x2 x3 x4 x5 x6 x7 x8) := by
  unfold f_M_fill_86B
  refine g_iload hX d_M_fill_86 (n := 88) rfl rfl ?_
  refine g_iload_n hX 3 d_M_fill_88 (n := 89) rfl rfl rfl ?_
  refine g_iload hX d_M_fill_89 (n := 91) rfl rfl ?_
  refine g_bipush hX 32 d_M_fill_91 (n := 93) rfl k_bipush_32 ?_
  refine g_idivK hX (by decide) d_M_fill_93 (n := 94) rfl ?_
  refine g_iadd hX d_M_fill_94 (n := 95) rfl ?_
  refine g_icmp_ge hX 128 d_M_fill_95 (n := 98) rfl rfl ?_ ?_
  · refine g_iinc hX 1 _ [_, _, _, _, _, _, _, _, _] d_M_fill_128 (n := 131) rfl rfl k_iconst_1 rfl (by decide) rfl ?_
    refine g_goto hX 71 d_M_fill_131 rfl ?_
    exact (g_sub (lw := [some (.ref (Γ.2.1 19)), some (.int x1), some (.int x2), some (.int x3), some (.int x4), some (.int x5), some (.int x6), some (.int (x7 + 1)), none]) (And.intro rfl (And.intro rfl (And.intro rfl (And.intro rfl (And.intro rfl (And.intro rfl (And.intro rfl (And.intro rfl (True.intro))))))))) (hK71 σ x1 x2 x3 x4 x5 x6 (x7 + 1)))
  · refine g_iload hX d_M_fill_98 (n := 100) rfl rfl ?_
    refine g_aload_n hX 0 d_M_fill_100 (n := 101) rfl rfl rfl ?_
    refine g_iload_n hX 1 d_M_fill_101 (n := 102) rfl rfl rfl ?_
    refine g_iload hX d_M_fill_102 (n := 104) rfl rfl ?_
    refine g_iload hX d_M_fill_104 (n := 106) rfl rfl ?_
    refine g_iload hX d_M_fill_106 (n := 108) rfl rfl ?_
    refine g_cVi hX [_, _, _, _] rfl 0 0 (c_M_paint _ Γ x1 x7 x8 x5 σ) gw_M_150 rfl sh_19 rfl d_M_fill_108 (n := 111) rfl ⟨by decide, by decide⟩ ⟨by decide, by decide⟩ (Nat.le_of_ble_eq_true rfl) rfl rfl (fun r2 u1 => ?_)
    refine g_if_eq hX 118 d_M_fill_111 (n := 114) rfl rfl ?_ ?_
    · refine g_iconst hX 0 d_M_fill_118 (n := 119) rfl k_iconst_0 ?_
      exact (g_sub (lw := [some (.ref (Γ.2.1 19)), some (.int x1), some (.int x2), some (.int x3), some (.int x4), some (.int x5), none, some (.int x7), some (.int x8)]) (And.intro rfl (And.intro rfl (And.intro rfl (And.intro rfl (And.intro rfl (And.intro rfl (And.intro rfl (And.intro rfl (True.intro))))))))) (m_M_fill_119 hX K71 hK71 K86 hK86 u1 x1 x2 x3 x4 x5 x7 x8 0 x6))
    · refine g_iconst hX 1 d_M_fill_114 (n := 115) rfl k_iconst_1 ?_
      refine g_goto hX 119 d_M_fill_115 rfl ?_
      exact (g_sub (lw := [some (.ref (Γ.2.1 19)), some (.int x1), some (.int x2), some (.int x3), some (.int x4), some (.int x5), none, some (.int x7), some (.int x8)]) (And.intro rfl (And.intro rfl (And.intro rfl (And.intro rfl (And.intro rfl (And.intro rfl (And.intro rfl (And.intro rfl (True.intro))))))))) (m_M_fill_119 hX K71 hK71 K86 hK86 u1 x1 x2 x3 x4 x5 x7 x8 1 x6))
def f_M_fill_86 (K71 : Mem → Int32 → Int32 → Int32 → Int32 → Int32 → Int32 → Int32 → Option (Int32 × Mem)) (n : Nat) : Mem → Int32 → Int32 → Int32 → Int32 → Int32 → Int32 → Int32 → Int32 → Option (Int32 × Mem) := gfix (fun _ _ _ _ _ _ _ _ _ => none) (fun K86 => f_M_fill_86B K71 K86) n
theorem m_M_fill_86 {κ : GC} {Γ : GA} (hX : Gx κ Γ 9 b_M_fill "PaneScreenModel" r_M_fill (some .int)) (K71 : Mem → Int32 → Int32 → Int32 → Int32 → Int32 → Int32 → Int32 → Option (Int32 × Mem)) (hK71 : ∀ (σ : Mem) (x1 : Int32) (x2 : Int32) (x3 : Int32) (x4 : Int32) (x5 : Int32) (x6 : Int32) (x7 : Int32), GG κ Γ 9 (gQ gqi κ Γ r_M_fill) 0 0 σ [some (.ref (Γ.2.1 19)), some (.int x1), some (.int x2), some (.int x3), some (.int x4), some (.int x5), some (.int x6), some (.int x7), none] 71 [] (K71 σ x1 x2 x3 x4 x5 x6 x7)) (n : Nat) : ∀ (σ : Mem) (x1 : Int32) (x2 : Int32) (x3 : Int32) (x4 : Int32) (x5 : Int32) (x6 : Int32) (x7 : Int32) (x8 : Int32), GG κ Γ 9 (gQ gqi κ Γ r_M_fill) 0 0 σ [some (.ref (Γ.2.1 19)), some (.int x1), some (.int x2), some (.int x3), some (.int x4), some (.int x5), some (.int x6), some (.int x7), some (.int x8)] 86 [] (f_M_fill_86 K71 n σ x1 x2 x3 x4 x5 x6 x7 x8) := by
  induction n with
  | zero => intros; exact g_none
  | succ n ih => intro σ x1 x2 x3 x4 x5 x6 x7 x8; exact m_M_fill_86B hX K71 hK71 (f_M_fill_86 K71 n) ih σ x1 x2 x3 x4 x5 x6 x7 x8
def f_M_fill_71B (K71 : Mem → Int32 → Int32 → Int32 → Int32 → Int32 → Int32 → Int32 → Option (Int32 × Mem)) (σ : Mem) (x1 : Int32) (x2 : Int32) (x3 : Int32) (x4 : Int32) (x5 : Int32) (x6 : Int32) (x7 : Int32) : Option (Int32 × Mem) :=
  if (x2 + (x4 - x4 / 32 * 32)) ≤ x7 then
    gbv (f_M_damageChanged x1 σ) fun u1 =>
    some (x6, u1)
  else
    f_M_fill_86 K71 gN σ x1 x2 x3 x4 x5 x6 x7 x3
set_option maxRecDepth 100000 in
theorem m_M_fill_71B {κ : GC} {Γ : GA} (hX : Gx κ Γ 9 b_M_fill "PaneScreenModel" r_M_fill (some .int)) (K71 : Mem → Int32 → Int32 → Int32 → Int32 → Int32 → Int32 → Int32 → Option (Int32 × Mem)) (hK71 : ∀ (σ : Mem) (x1 : Int32) (x2 : Int32) (x3 : Int32) (x4 : Int32) (x5 : Int32) (x6 : Int32) (x7 : Int32), GG κ Γ 9 (gQ gqi κ Γ r_M_fill) 0 0 σ [some (.ref (Γ.2.1 19)), some (.int x1), some (.int x2), some (.int x3), some (.int x4), some (.int x5), some (.int x6), some (.int x7), none] 71 [] (K71 σ x1 x2 x3 x4 x5 x6 x7)) (σ : Mem) (x1 : Int32) (x2 : Int32) (x3 : Int32) (x4 : Int32) (x5 : Int32) (x6 : Int32) (x7 : Int32) : GG κ Γ 9 (gQ gqi κ Γ r_M_fill) 0 0 σ [some (.ref (Γ.2.1 19)), some (.int x1), some (.int x2), some (.int x3), some (.int x4), some (.int x5), some (.int x6), some (.int x7), none] 71 [] (f_M_fill_71B K71 σ x1 x2 x3 x4 x5 x6 x7) := by
  unfold f_M_fill_71B
  refine g_iload hX d_M_fill_71 (n := 73) rfl rfl ?_
  refine g_iload_n hX 2 d_M_fill_73 (n := 74) rfl rfl rfl ?_
  refine g_iload hX d_M_fill_74 (n := 76) rfl rfl ?_
  refine g_bipush hX 32 d_M_fill_76 (n := 78) rfl k_bipush_32 ?_
  refine g_iremK hX (by decide) d_M_fill_78 (n := 79) rfl ?_
  refine g_iadd hX d_M_fill_79 (n := 80) rfl ?_
  refine g_icmp_ge hX 134 d_M_fill_80 (n := 83) rfl rfl ?_ ?_
  · refine g_aload_n hX 0 d_M_fill_134 (n := 135) rfl rfl rfl ?_
    refine g_iload_n hX 1 d_M_fill_135 (n := 136) rfl rfl rfl ?_
    refine g_cVv hX [_] rfl 0 0 (c_M_damageChanged _ Γ x1 σ) gw_M_154 rfl sh_19 rfl d_M_fill_136 (n := 139) rfl ⟨by decide, by decide⟩ ⟨by decide, by decide⟩ (Nat.le_of_ble_eq_true rfl) rfl rfl (fun u1 => ?_)
    refine g_iload hX d_M_fill_139 (n := 141) rfl rfl ?_
    exact g_iret hX d_M_fill_141 (by decide) (by decide)
  · refine g_iload_n hX 3 d_M_fill_83 (n := 84) rfl rfl rfl ?_
    refine g_istore hX [_, _, _, _, _, _, _, _, _] d_M_fill_84 (n := 86) rfl (by decide) rfl ?_
    exact (m_M_fill_86 hX K71 hK71 gN σ x1 x2 x3 x4 x5 x6 x7 x3)
def f_M_fill_71 (n : Nat) : Mem → Int32 → Int32 → Int32 → Int32 → Int32 → Int32 → Int32 → Option (Int32 × Mem) := gfix (fun _ _ _ _ _ _ _ _ => none) (fun K71 => f_M_fill_71B K71) n
theorem m_M_fill_71 {κ : GC} {Γ : GA} (hX : Gx κ Γ 9 b_M_fill "PaneScreenModel" r_M_fill (some .int)) (n : Nat) : ∀ (σ : Mem) (x1 : Int32) (x2 : Int32) (x3 : Int32) (x4 : Int32) (x5 : Int32) (x6 : Int32) (x7 : Int32), GG κ Γ 9 (gQ gqi κ Γ r_M_fill) 0 0 σ [some (.ref (Γ.2.1 19)), some (.int x1), some (.int x2), some (.int x3), some (.int x4), some (.int x5), some (.int x6), some (.int x7), none] 71 [] (f_M_fill_71 n σ x1 x2 x3 x4 x5 x6 x7) := by
  induction n with
  | zero => intros; exact g_none
  | succ n ih => intro σ x1 x2 x3 x4 x5 x6 x7; exact m_M_fill_71B hX (f_M_fill_71 n) ih σ x1 x2 x3 x4 x5 x6 x7
def f_M_fill_53 (σ : Mem) (x1 : Int32) (x2 : Int32) (x3 : Int32) (x4 : Int32) (x5 : Int32) (s0 : Int32) : Option (Int32 × Mem) :=
  gbm (m2 σ 19 0 s0) fun u1 =>
  if (u1 19 0) ≤ 0 then
    f_M_fill_71 gN u1 x1 x2 x3 x4 x5 0 x2
  else
    some (0, u1)
set_option maxRecDepth 100000 in
theorem m_M_fill_53 {κ : GC} {Γ : GA} (hX : Gx κ Γ 9 b_M_fill "PaneScreenModel" r_M_fill (some .int)) (σ : Mem) (x1 : Int32) (x2 : Int32) (x3 : Int32) (x4 : Int32) (x5 : Int32) (s0 : Int32) : GG κ Γ 9 (gQ gqi κ Γ r_M_fill) 0 0 σ [some (.ref (Γ.2.1 19)), some (.int x1), some (.int x2), some (.int x3), some (.int x4), some (.int x5), none, none, none] 53 [.int s0, .ref (Γ.2.1 19)] (f_M_fill_53 σ x1 x2 x3 x4 x5 s0) := by
  unfold f_M_fill_53
  refine g_puti hX gp_M_75 d_M_fill_53 (n := 56) rfl sh_19 rfl ?_
  refine g_mem (fun u1 => ?_)
  refine g_aload_n hX 0 d_M_fill_56 (n := 57) rfl rfl rfl ?_
  refine g_geti hX gf_M_75 d_M_fill_57 (n := 60) rfl sh_19 rfl ?_
  refine g_if_le hX 65 d_M_fill_60 (n := 63) rfl rfl ?_ ?_
  · refine g_iconst hX 0 d_M_fill_65 (n := 66) rfl k_iconst_0 ?_
    refine g_istore hX [_, _, _, _, _, _, _, _, _] d_M_fill_66 (n := 68) rfl (by decide) rfl ?_
    refine g_iload_n hX 2 d_M_fill_68 (n := 69) rfl rfl rfl ?_
    refine g_istore hX [_, _, _, _, _, _, _, _, _] d_M_fill_69 (n := 71) rfl (by decide) rfl ?_
    exact (m_M_fill_71 hX gN u1 x1 x2 x3 x4 x5 0 x2)
  · refine g_iconst hX 0 d_M_fill_63 (n := 64) rfl k_iconst_0 ?_
    exact g_iret hX d_M_fill_64 (by decide) (by decide)
def f_M_fill_48 (σ : Mem) (x1 : Int32) (x2 : Int32) (x3 : Int32) (x4 : Int32) (x5 : Int32) : Option (Int32 × Mem) :=
  f_M_fill_53 σ x1 x2 x3 x4 x5 2
set_option maxRecDepth 100000 in
theorem m_M_fill_48 {κ : GC} {Γ : GA} (hX : Gx κ Γ 9 b_M_fill "PaneScreenModel" r_M_fill (some .int)) (σ : Mem) (x1 : Int32) (x2 : Int32) (x3 : Int32) (x4 : Int32) (x5 : Int32) : GG κ Γ 9 (gQ gqi κ Γ r_M_fill) 0 0 σ [some (.ref (Γ.2.1 19)), some (.int x1), some (.int x2), some (.int x3), some (.int x4), some (.int x5), none, none, none] 48 [.ref (Γ.2.1 19)] (f_M_fill_48 σ x1 x2 x3 x4 x5) := by
  unfold f_M_fill_48
  refine g_iconst hX 2 d_M_fill_48 (n := 49) rfl k_iconst_2 ?_
  refine g_goto hX 53 d_M_fill_49 rfl ?_
  exact (m_M_fill_53 hX σ x1 x2 x3 x4 x5 2)
def f_M_fill_0 (σ : Mem) (x1 : Int32) (x2 : Int32) (x3 : Int32) (x4 : Int32) (x5 : Int32) : Option (Int32 × Mem) :=
  gb (f_M_isOpen x1 σ) fun r2 u1 =>
  if r2 = 0 then
    f_M_fill_53 u1 x1 x2 x3 x4 x5 1
  else
    gb (f_M_near x2 u1) fun r4 u3 =>
    if r4 = 0 then
      f_M_fill_48 u3 x1 x2 x3 x4 x5
    else
      gb (f_M_near x3 u3) fun r6 u5 =>
      if r6 = 0 then
        f_M_fill_48 u5 x1 x2 x3 x4 x5
      else
        if x4 < 0 then
          f_M_fill_48 u5 x1 x2 x3 x4 x5
        else
          if 1023 < x4 then
            f_M_fill_48 u5 x1 x2 x3 x4 x5
          else
            gb (f_M_colour x5 u5) fun r8 u7 =>
            if r8 = 0 then
              f_M_fill_48 u7 x1 x2 x3 x4 x5
            else
              f_M_fill_53 u7 x1 x2 x3 x4 x5 0
set_option maxRecDepth 100000 in
theorem m_M_fill_0 {κ : GC} {Γ : GA} (hX : Gx κ Γ 9 b_M_fill "PaneScreenModel" r_M_fill (some .int)) (σ : Mem) (x1 : Int32) (x2 : Int32) (x3 : Int32) (x4 : Int32) (x5 : Int32) : GG κ Γ 9 (gQ gqi κ Γ r_M_fill) 0 0 σ [some (.ref (Γ.2.1 19)), some (.int x1), some (.int x2), some (.int x3), some (.int x4), some (.int x5), none, none, none] 0 [] (f_M_fill_0 σ x1 x2 x3 x4 x5) := by
  unfold f_M_fill_0
  refine g_aload_n hX 0 d_M_fill_0 (n := 1) rfl rfl rfl ?_
  refine g_aload_n hX 0 d_M_fill_1 (n := 2) rfl rfl rfl ?_
  refine g_iload_n hX 1 d_M_fill_2 (n := 3) rfl rfl rfl ?_
  refine g_cVi hX [_] rfl 0 0 (c_M_isOpen _ Γ x1 σ) gw_M_127 rfl sh_19 rfl d_M_fill_3 (n := 6) rfl ⟨by decide, by decide⟩ ⟨by decide, by decide⟩ (Nat.le_of_ble_eq_true rfl) rfl rfl (fun r2 u1 => ?_)
  refine g_if_ne hX 13 d_M_fill_6 (n := 9) rfl rfl ?_ ?_
  · refine g_iload_n hX 2 d_M_fill_13 (n := 14) rfl rfl rfl ?_
    refine g_cSi hX [_] rfl 0 0 (c_M_near _ Γ x2 u1) gw_M_109 rfl d_M_fill_14 (n := 17) rfl ⟨by decide, by decide⟩ ⟨by decide, by decide⟩ (Nat.le_of_ble_eq_true rfl) rfl rfl (fun r4 u3 => ?_)
    refine g_if_eq hX 48 d_M_fill_17 (n := 20) rfl rfl ?_ ?_
    · exact (m_M_fill_48 hX u3 x1 x2 x3 x4 x5)
    · refine g_iload_n hX 3 d_M_fill_20 (n := 21) rfl rfl rfl ?_
      refine g_cSi hX [_] rfl 0 0 (c_M_near _ Γ x3 u3) gw_M_109 rfl d_M_fill_21 (n := 24) rfl ⟨by decide, by decide⟩ ⟨by decide, by decide⟩ (Nat.le_of_ble_eq_true rfl) rfl rfl (fun r6 u5 => ?_)
      refine g_if_eq hX 48 d_M_fill_24 (n := 27) rfl rfl ?_ ?_
      · exact (m_M_fill_48 hX u5 x1 x2 x3 x4 x5)
      · refine g_iload hX d_M_fill_27 (n := 29) rfl rfl ?_
        refine g_if_lt hX 48 d_M_fill_29 (n := 32) rfl rfl ?_ ?_
        · exact (m_M_fill_48 hX u5 x1 x2 x3 x4 x5)
        · refine g_iload hX d_M_fill_32 (n := 34) rfl rfl ?_
          refine g_sipush hX 1023 d_M_fill_34 (n := 37) rfl k_sipush_1023 ?_
          refine g_icmp_gt hX 48 d_M_fill_37 (n := 40) rfl rfl ?_ ?_
          · exact (m_M_fill_48 hX u5 x1 x2 x3 x4 x5)
          · refine g_iload hX d_M_fill_40 (n := 42) rfl rfl ?_
            refine g_cSi hX [_] rfl 0 0 (c_M_colour _ Γ x5 u5) gw_M_147 rfl d_M_fill_42 (n := 45) rfl ⟨by decide, by decide⟩ ⟨by decide, by decide⟩ (Nat.le_of_ble_eq_true rfl) rfl rfl (fun r8 u7 => ?_)
            refine g_if_ne hX 52 d_M_fill_45 (n := 48) rfl rfl ?_ ?_
            · refine g_iconst hX 0 d_M_fill_52 (n := 53) rfl k_iconst_0 ?_
              exact (m_M_fill_53 hX u7 x1 x2 x3 x4 x5 0)
            · exact (m_M_fill_48 hX u7 x1 x2 x3 x4 x5)
  · refine g_iconst hX 1 d_M_fill_9 (n := 10) rfl k_iconst_1 ?_
    refine g_goto hX 53 d_M_fill_10 rfl ?_
    exact (m_M_fill_53 hX u1 x1 x2 x3 x4 x5 1)
def f_M_fill (x1 : Int32) (x2 : Int32) (x3 : Int32) (x4 : Int32) (x5 : Int32) (σ : Mem) : Option (Int32 × Mem) := f_M_fill_0 σ x1 x2 x3 x4 x5
theorem c_M_fill (l : Launch) (Γ : GA) (x1 : Int32) (x2 : Int32) (x3 : Int32) (x4 : Int32) (x5 : Int32) (σ : Mem) : gM gqi l y_M_fill b_M_fill 9 (some .int) r_M_fill [.ref (Γ.2.1 19), .int x1, .int x2, .int x3, .int x4, .int x5] Γ σ (f_M_fill x1 x2 x3 x4 x5 σ) :=
  gM.of [some (.ref (Γ.2.1 19)), some (.int x1), some (.int x2), some (.int x3), some (.int x4), some (.int x5), none, none, none] (by decide) (Nat.le_of_ble_eq_true rfl) rfl rfl (fun κ hX _ => m_M_fill_0 hX σ x1 x2 x3 x4 x5)
