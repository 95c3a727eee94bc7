/-! M_damageChanged -/
theorem d_M_damageChanged_0 : decode b_M_damageChanged 0 = .ok (.aload_n 0, 1) := by decide +kernel
theorem d_M_damageChanged_1 : decode b_M_damageChanged 1 = .ok (.getfield 89, 3) := by decide +kernel
theorem d_M_damageChanged_4 : decode b_M_damageChanged 4 = .ok (.ifCond .eq 51, 3) := by decide +kernel
theorem d_M_damageChanged_7 : decode b_M_damageChanged 7 = .ok (.aload_n 0, 1) := by decide +kernel
theorem d_M_damageChanged_8 : decode b_M_damageChanged 8 = .ok (.aload_n 0, 1) := by decide +kernel
theorem d_M_damageChanged_9 : decode b_M_damageChanged 9 = .ok (.getfield 17, 3) := by decide +kernel
theorem d_M_damageChanged_12 : decode b_M_damageChanged 12 = .ok (.iload_n 1, 1) := by decide +kernel
theorem d_M_damageChanged_13 : decode b_M_damageChanged 13 = .ok (.iaload, 1) := by decide +kernel
theorem d_M_damageChanged_14 : decode b_M_damageChanged 14 = .ok (.aload_n 0, 1) := by decide +kernel
theorem d_M_damageChanged_15 : decode b_M_damageChanged 15 = .ok (.getfield 93, 3) := by decide +kernel
theorem d_M_damageChanged_18 : decode b_M_damageChanged 18 = .ok (.iadd, 1) := by decide +kernel
theorem d_M_damageChanged_19 : decode b_M_damageChanged 19 = .ok (.aload_n 0, 1) := by decide +kernel
theorem d_M_damageChanged_20 : decode b_M_damageChanged 20 = .ok (.getfield 20, 3) := by decide +kernel
theorem d_M_damageChanged_23 : decode b_M_damageChanged 23 = .ok (.iload_n 1, 1) := by decide +kernel
theorem d_M_damageChanged_24 : decode b_M_damageChanged 24 = .ok (.iaload, 1) := by decide +kernel
theorem d_M_damageChanged_25 : decode b_M_damageChanged 25 = .ok (.aload_n 0, 1) := by decide +kernel
theorem d_M_damageChanged_26 : decode b_M_damageChanged 26 = .ok (.getfield 96, 3) := by decide +kernel
theorem d_M_damageChanged_29 : decode b_M_damageChanged 29 = .ok (.iadd, 1) := by decide +kernel
theorem d_M_damageChanged_30 : decode b_M_damageChanged 30 = .ok (.aload_n 0, 1) := by decide +kernel
theorem d_M_damageChanged_31 : decode b_M_damageChanged 31 = .ok (.getfield 17, 3) := by decide +kernel
theorem d_M_damageChanged_34 : decode b_M_damageChanged 34 = .ok (.iload_n 1, 1) := by decide +kernel
theorem d_M_damageChanged_35 : decode b_M_damageChanged 35 = .ok (.iaload, 1) := by decide +kernel
theorem d_M_damageChanged_36 : decode b_M_damageChanged 36 = .ok (.aload_n 0, 1) := by decide +kernel
theorem d_M_damageChanged_37 : decode b_M_damageChanged 37 = .ok (.getfield 99, 3) := by decide +kernel
theorem d_M_damageChanged_40 : decode b_M_damageChanged 40 = .ok (.iadd, 1) := by decide +kernel
theorem d_M_damageChanged_41 : decode b_M_damageChanged 41 = .ok (.aload_n 0, 1) := by decide +kernel
theorem d_M_damageChanged_42 : decode b_M_damageChanged 42 = .ok (.getfield 20, 3) := by decide +kernel
theorem d_M_damageChanged_45 : decode b_M_damageChanged 45 = .ok (.iload_n 1, 1) := by decide +kernel
theorem d_M_damageChanged_46 : decode b_M_damageChanged 46 = .ok (.iaload, 1) := by decide +kernel
theorem d_M_damageChanged_47 : decode b_M_damageChanged 47 = .ok (.aload_n 0, 1) := by decide +kernel
theorem d_M_damageChanged_48 : decode b_M_damageChanged 48 = .ok (.getfield 102, 3) := by decide +kernel
theorem d_M_damageChanged_51 : decode b_M_damageChanged 51 = .ok (.iadd, 1) := by decide +kernel
theorem d_M_damageChanged_52 : decode b_M_damageChanged 52 = .ok (.invokevirtual 81, 3) := by decide +kernel
theorem d_M_damageChanged_55 : decode b_M_damageChanged 55 = .ok (.aload_n 0, 1) := by decide +kernel
theorem d_M_damageChanged_56 : decode b_M_damageChanged 56 = .ok (.iconst 0, 1) := by decide +kernel
theorem d_M_damageChanged_57 : decode b_M_damageChanged 57 = .ok (.putfield 89, 3) := by decide +kernel
theorem d_M_damageChanged_60 : decode b_M_damageChanged 60 = .ok (.return_, 1) := by decide +kernel
abbrev r_M_damageChanged : Room := ⟨1, 0, 0, 29⟩
def f_M_damageChanged_55 (σ : Mem) : Option Mem :=
  gbm (m2 σ 19 21 0) fun u1 =>
  some u1
set_option maxRecDepth 100000 in
theorem m_M_damageChanged_55 {κ : GC} {Γ : GA} (hX : Gx κ Γ 2 b_M_damageChanged "PaneScreenModel" r_M_damageChanged none) (σ : Mem) : GG κ Γ 2 (gQ gqv κ Γ r_M_damageChanged) 0 0 σ [some (.ref (Γ.2.1 19)), none] 55 [] (f_M_damageChanged_55 σ) := by
  unfold f_M_damageChanged_55
  refine g_aload_n hX 0 d_M_damageChanged_55 (n := 56) rfl rfl rfl ?_
  refine g_iconst hX 0 d_M_damageChanged_56 (n := 57) rfl k_iconst_0 ?_
  refine g_putz hX gp_M_89 d_M_damageChanged_57 (n := 60) rfl sh_19 rfl rfl rfl ?_
  refine g_mem (fun u1 => ?_)
  exact g_vret hX d_M_damageChanged_60 (by decide) (by decide)
def f_M_damageChanged_0 (σ : Mem) (x1 : Int32) : Option Mem :=
  if (σ 19 21) = 0 then
    f_M_damageChanged_55 σ
  else
    if gin x1 8 = true then
      if gin x1 8 = true then
        if gin x1 8 = true then
          if gin x1 8 = true then
            gbv (f_M_damage ((σ 22 x1.toNatClampNeg) + (σ 19 22)) ((σ 23 x1.toNatClampNeg) + (σ 19 23)) ((σ 22 x1.toNatClampNeg) + (σ 19 24)) ((σ 23 x1.toNatClampNeg) + (σ 19 25)) σ) fun u1 =>
            f_M_damageChanged_55 u1
          else none
        else none
      else none
    else none
set_option maxRecDepth 100000 in
theorem m_M_damageChanged_0 {κ : GC} {Γ : GA} (hX : Gx κ Γ 2 b_M_damageChanged "PaneScreenModel" r_M_damageChanged none) (σ : Mem) (x1 : Int32) : GG κ Γ 2 (gQ gqv κ Γ r_M_damageChanged) 0 0 σ [some (.ref (Γ.2.1 19)), some (.int x1)] 0 [] (f_M_damageChanged_0 σ x1) := by
  unfold f_M_damageChanged_0
  refine g_aload_n hX 0 d_M_damageChanged_0 (n := 1) rfl rfl rfl ?_
  refine g_geti hX gf_M_89 d_M_damageChanged_1 (n := 4) rfl sh_19 rfl ?_
  refine g_if_eq hX 55 d_M_damageChanged_4 (n := 7) rfl rfl ?_ ?_
  · exact (g_sub (lw := [some (.ref (Γ.2.1 19)), none]) (And.intro rfl (True.intro)) (m_M_damageChanged_55 hX σ))
  · refine g_aload_n hX 0 d_M_damageChanged_7 (n := 8) rfl rfl rfl ?_
    refine g_aload_n hX 0 d_M_damageChanged_8 (n := 9) rfl rfl rfl ?_
    refine g_geta hX 22 gf_M_17 d_M_damageChanged_9 (n := 12) rfl sh_19 rfl ?_
    refine g_iload_n hX 1 d_M_damageChanged_12 (n := 13) rfl rfl rfl ?_
    refine g_iald hX d_M_damageChanged_13 (n := 14) rfl sh_22 ?_
    refine g_aload_n hX 0 d_M_damageChanged_14 (n := 15) rfl rfl rfl ?_
    refine g_geti hX gf_M_93 d_M_damageChanged_15 (n := 18) rfl sh_19 rfl ?_
    refine g_iadd hX d_M_damageChanged_18 (n := 19) rfl ?_
    refine g_aload_n hX 0 d_M_damageChanged_19 (n := 20) rfl rfl rfl ?_
    refine g_geta hX 23 gf_M_20 d_M_damageChanged_20 (n := 23) rfl sh_19 rfl ?_
    refine g_iload_n hX 1 d_M_damageChanged_23 (n := 24) rfl rfl rfl ?_
    refine g_iald hX d_M_damageChanged_24 (n := 25) rfl sh_23 ?_
    refine g_aload_n hX 0 d_M_damageChanged_25 (n := 26) rfl rfl rfl ?_
    refine g_geti hX gf_M_96 d_M_damageChanged_26 (n := 29) rfl sh_19 rfl ?_
    refine g_iadd hX d_M_damageChanged_29 (n := 30) rfl ?_
    refine g_aload_n hX 0 d_M_damageChanged_30 (n := 31) rfl rfl rfl ?_
    refine g_geta hX 22 gf_M_17 d_M_damageChanged_31 (n := 34) rfl sh_19 rfl ?_
    refine g_iload_n hX 1 d_M_damageChanged_34 (n := 35) rfl rfl rfl ?_
    refine g_iald hX d_M_damageChanged_35 (n := 36) rfl sh_22 ?_
    refine g_aload_n hX 0 d_M_damageChanged_36 (n := 37) rfl rfl rfl ?_
    refine g_geti hX gf_M_99 d_M_damageChanged_37 (n := 40) rfl sh_19 rfl ?_
    refine g_iadd hX d_M_damageChanged_40 (n := 41) rfl ?_
    refine g_aload_n hX 0 d_M_damageChanged_41 (n := 42) rfl rfl rfl ?_
    refine g_geta hX 23 gf_M_20 d_M_damageChanged_42 (n := 45) rfl sh_19 rfl ?_
    refine g_iload_n hX 1 d_M_damageChanged_45 (n := 46) rfl rfl rfl ?_
    refine g_iald hX d_M_damageChanged_46 (n := 47) rfl sh_23 ?_
    refine g_aload_n hX 0 d_M_damageChanged_47 (n := 48) rfl rfl rfl ?_
    refine g_geti hX gf_M_102 d_M_damageChanged_48 (n := 51) rfl sh_19 rfl ?_
    refine g_iadd hX d_M_damageChanged_51 (n := 52) rfl ?_
    refine g_cVv hX [_, _, _, _] rfl 0 0 (c_M_damage _ Γ ((σ 22 x1.toNatClampNeg) + (σ 19 22)) ((σ 23 x1.toNatClampNeg) + (σ 19 23)) ((σ 22 x1.toNatClampNeg) + (σ 19 24)) ((σ 23 x1.toNatClampNeg) + (σ 19 25)) σ) gw_M_81 rfl sh_19 rfl d_M_damageChanged_52 (n := 55) rfl ⟨by decide, by decide⟩ ⟨by decide, by decide⟩ (Nat.le_of_ble_eq_true rfl) rfl rfl (fun u1 => ?_)
    exact (g_sub (lw := [some (.ref (Γ.2.1 19)), none]) (And.intro rfl (True.intro)) (m_M_damageChanged_55 hX u1))
def f_M_damageChanged (x1 : Int32) (σ : Mem) : Option Mem := f_M_damageChanged_0 σ x1
theorem c_M_damageChanged (l : Launch) (Γ : GA) (x1 : Int32) (σ : Mem) : gM gqv l y_M_damageChanged b_M_damageChanged 2 none r_M_damageChanged [.ref (Γ.2.1 19), .int x1] Γ σ (f_M_damageChanged x1 σ) :=
  gM.of [some (.ref (Γ.2.1 19)), some (.int x1)] (by decide) (Nat.le_of_ble_eq_true rfl) rfl rfl (fun κ hX _ => m_M_damageChanged_0 hX σ x1)
/-! M_isFree -/
theorem d_M_isFree_0 : decode b_M_isFree 0 = .ok (.iload_n 1, 1) := by decide +kernel
theorem d_M_isFree_1 : decode b_M_isFree 1 = .ok (.ifCond .lt 14, 3) := by decide +kernel
theorem d_M_isFree_4 : decode b_M_isFree 4 = .ok (.iload_n 1, 1) := by decide +kernel
theorem d_M_isFree_5 : decode b_M_isFree 5 = .ok (.sipush 400, 3) := by decide +kernel
theorem d_M_isFree_8 : decode b_M_isFree 8 = .ok (.if_icmp .ge 7, 3) := by decide +kernel
theorem d_M_isFree_11 : decode b_M_isFree 11 = .ok (.iconst 1, 1) := by decide +kernel
theorem d_M_isFree_12 : decode b_M_isFree 12 = .ok (.goto 4, 3) := by decide +kernel
theorem d_M_isFree_15 : decode b_M_isFree 15 = .ok (.iconst 0, 1) := by decide +kernel
theorem d_M_isFree_16 : decode b_M_isFree 16 = .ok (.istore_n 2, 1) := by decide +kernel
theorem d_M_isFree_17 : decode b_M_isFree 17 = .ok (.iconst 0, 1) := by decide +kernel
theorem d_M_isFree_18 : decode b_M_isFree 18 = .ok (.istore_n 3, 1) := by decide +kernel
theorem d_M_isFree_19 : decode b_M_isFree 19 = .ok (.iload_n 3, 1) := by decide +kernel
theorem d_M_isFree_20 : decode b_M_isFree 20 = .ok (.bipush 8, 2) := by decide +kernel
theorem d_M_isFree_22 : decode b_M_isFree 22 = .ok (.if_icmp .ge 62, 3) := by decide +kernel
theorem d_M_isFree_25 : decode b_M_isFree 25 = .ok (.iload_n 2, 1) := by decide +kernel
theorem d_M_isFree_26 : decode b_M_isFree 26 = .ok (.ifCond .eq 50, 3) := by decide +kernel
theorem d_M_isFree_29 : decode b_M_isFree 29 = .ok (.aload_n 0, 1) := by decide +kernel
theorem d_M_isFree_30 : decode b_M_isFree 30 = .ok (.getfield 13, 3) := by decide +kernel
theorem d_M_isFree_33 : decode b_M_isFree 33 = .ok (.iload_n 3, 1) := by decide +kernel
theorem d_M_isFree_34 : decode b_M_isFree 34 = .ok (.baload, 1) := by decide +kernel
theorem d_M_isFree_35 : decode b_M_isFree 35 = .ok (.ifCond .eq 37, 3) := by decide +kernel
theorem d_M_isFree_38 : decode b_M_isFree 38 = .ok (.iload_n 1, 1) := by decide +kernel
theorem d_M_isFree_39 : decode b_M_isFree 39 = .ok (.aload_n 0, 1) := by decide +kernel
theorem d_M_isFree_40 : decode b_M_isFree 40 = .ok (.getfield 35, 3) := by decide +kernel
theorem d_M_isFree_43 : decode b_M_isFree 43 = .ok (.iload_n 3, 1) := by decide +kernel
theorem d_M_isFree_44 : decode b_M_isFree 44 = .ok (.iaload, 1) := by decide +kernel
theorem d_M_isFree_45 : decode b_M_isFree 45 = .ok (.if_icmp .lt 27, 3) := by decide +kernel
theorem d_M_isFree_48 : decode b_M_isFree 48 = .ok (.iload_n 1, 1) := by decide +kernel
theorem d_M_isFree_49 : decode b_M_isFree 49 = .ok (.aload_n 0, 1) := by decide +kernel
theorem d_M_isFree_50 : decode b_M_isFree 50 = .ok (.getfield 35, 3) := by decide +kernel
theorem d_M_isFree_53 : decode b_M_isFree 53 = .ok (.iload_n 3, 1) := by decide +kernel
theorem d_M_isFree_54 : decode b_M_isFree 54 = .ok (.iaload, 1) := by decide +kernel
theorem d_M_isFree_55 : decode b_M_isFree 55 = .ok (.aload_n 0, 1) := by decide +kernel
theorem d_M_isFree_56 : decode b_M_isFree 56 = .ok (.getfield 23, 3) := by decide +kernel
theorem d_M_isFree_59 : decode b_M_isFree 59 = .ok (.iload_n 3, 1) := by decide +kernel
theorem d_M_isFree_60 : decode b_M_isFree 60 = .ok (.iaload, 1) := by decide +kernel
theorem d_M_isFree_61 : decode b_M_isFree 61 = .ok (.aload_n 0, 1) := by decide +kernel
theorem d_M_isFree_62 : decode b_M_isFree 62 = .ok (.getfield 26, 3) := by decide +kernel
theorem d_M_isFree_65 : decode b_M_isFree 65 = .ok (.iload_n 3, 1) := by decide +kernel
theorem d_M_isFree_66 : decode b_M_isFree 66 = .ok (.iaload, 1) := by decide +kernel
theorem d_M_isFree_67 : decode b_M_isFree 67 = .ok (.imul, 1) := by decide +kernel
theorem d_M_isFree_68 : decode b_M_isFree 68 = .ok (.iadd, 1) := by decide +kernel
theorem d_M_isFree_69 : decode b_M_isFree 69 = .ok (.if_icmp .lt 7, 3) := by decide +kernel
theorem d_M_isFree_72 : decode b_M_isFree 72 = .ok (.iconst 1, 1) := by decide +kernel
theorem d_M_isFree_73 : decode b_M_isFree 73 = .ok (.goto 4, 3) := by decide +kernel
theorem d_M_isFree_76 : decode b_M_isFree 76 = .ok (.iconst 0, 1) := by decide +kernel
theorem d_M_isFree_77 : decode b_M_isFree 77 = .ok (.istore_n 2, 1) := by decide +kernel
theorem d_M_isFree_78 : decode b_M_isFree 78 = .ok (.iinc 3 1, 3) := by decide +kernel
theorem d_M_isFree_81 : decode b_M_isFree 81 = .ok (.goto (-62), 3) := by decide +kernel
theorem d_M_isFree_84 : decode b_M_isFree 84 = .ok (.iload_n 2, 1) := by decide +kernel
theorem d_M_isFree_85 : decode b_M_isFree 85 = .ok (.ireturn, 1) := by decide +kernel
abbrev r_M_isFree : Room := ⟨0, 0, 0, 0⟩
def f_M_isFree_77 (K19 : Mem → Int32 → Int32 → Int32 → Option (Int32 × Mem)) (σ : Mem) (x1 : Int32) (x3 : Int32) (s0 : Int32) : Option (Int32 × Mem) :=
  K19 σ x1 s0 (x3 + 1)
set_option maxRecDepth 100000 in
theorem m_M_isFree_77 {κ : GC} {Γ : GA} (hX : Gx κ Γ 4 b_M_isFree "PaneScreenModel" r_M_isFree (some .boolean)) (K19 : Mem → Int32 → Int32 → Int32 → Option (Int32 × Mem)) (hK19 : ∀ (σ : Mem) (x1 : Int32) (x2 : Int32) (x3 : Int32), GG κ Γ 4 (gQ gqi κ Γ r_M_isFree) 0 0 σ [some (.ref (Γ.2.1 19)), some (.int x1), some (.int x2), some (.int x3)] 19 [] (K19 σ x1 x2 x3)) (σ : Mem) (x1 : Int32) (x3 : Int32) (s0 : Int32) : GG κ Γ 4 (gQ gqi κ Γ r_M_isFree) 0 0 σ [some (.ref (Γ.2.1 19)), some (.int x1), none, some (.int x3)] 77 [.int s0] (f_M_isFree_77 K19 σ x1 x3 s0) := by
  unfold f_M_isFree_77
  refine g_istore_n hX 2 [_, _, _, _] d_M_isFree_77 (n := 78) rfl rfl (by decide) rfl ?_
  refine g_iinc hX 1 _ [_, _, _, _] d_M_isFree_78 (n := 81) rfl rfl k_iconst_1 rfl (by decide) rfl ?_
  refine g_goto hX 19 d_M_isFree_81 rfl ?_
  exact (hK19 σ x1 s0 (x3 + 1))
def f_M_isFree_76 (K19 : Mem → Int32 → Int32 → Int32 → Option (Int32 × Mem)) (σ : Mem) (x1 : Int32) (x3 : Int32) : Option (Int32 × Mem) :=
  f_M_isFree_77 K19 σ x1 x3 0
set_option maxRecDepth 100000 in
theorem m_M_isFree_76 {κ : GC} {Γ : GA} (hX : Gx κ Γ 4 b_M_isFree "PaneScreenModel" r_M_isFree (some .boolean)) (K19 : Mem → Int32 → Int32 → Int32 → Option (Int32 × Mem)) (hK19 : ∀ (σ : Mem) (x1 : Int32) (x2 : Int32) (x3 : Int32), GG κ Γ 4 (gQ gqi κ Γ r_M_isFree) 0 0 σ [some (.ref (Γ.2.1 19)), some (.int x1), some (.int x2), some (.int x3)] 19 [] (K19 σ x1 x2 x3)) (σ : Mem) (x1 : Int32) (x3 : Int32) : GG κ Γ 4 (gQ gqi κ Γ r_M_isFree) 0 0 σ [some (.ref (Γ.2.1 19)), some (.int x1), none, some (.int x3)] 76 [] (f_M_isFree_76 K19 σ x1 x3) := by
  unfold f_M_isFree_76
  refine g_iconst hX 0 d_M_isFree_76 (n := 77) rfl k_iconst_0 ?_
  exact (m_M_isFree_77 hX K19 hK19 σ x1 x3 0)
def f_M_isFree_72 (K19 : Mem → Int32 → Int32 → Int32 → Option (Int32 × Mem)) (σ : Mem) (x1 : Int32) (x3 : Int32) : Option (Int32 × Mem) :=
  f_M_isFree_77 K19 σ x1 x3 1
set_option maxRecDepth 100000 in
theorem m_M_isFree_72 {κ : GC} {Γ : GA} (hX : Gx κ Γ 4 b_M_isFree "PaneScreenModel" r_M_isFree (some .boolean)) (K19 : Mem → Int32 → Int32 → Int32 → Option (Int32 × Mem)) (hK19 : ∀ (σ : Mem) (x1 : Int32) (x2 : Int32) (x3 : Int32), GG κ Γ 4 (gQ gqi κ Γ r_M_isFree) 0 0 σ [some (.ref (Γ.2.1 19)), some (.int x1), some (.int x2), some (.int x3)] 19 [] (K19 σ x1 x2 x3)) (σ : Mem) (x1 : Int32) (x3 : Int32) : GG κ Γ 4 (gQ gqi κ Γ r_M_isFree) 0 0 σ [some (.ref (Γ.2.1 19)), some (.int x1), none, some (.int x3)] 72 [] (f_M_isFree_72 K19 σ x1 x3) := by
  unfold f_M_isFree_72
  refine g_iconst hX 1 d_M_isFree_72 (n := 73) rfl k_iconst_1 ?_
  refine g_goto hX 77 d_M_isFree_73 rfl ?_
  exact (m_M_isFree_77 hX K19 hK19 σ x1 x3 1)
def f_M_isFree_19B (K19 : Mem → Int32 → Int32 → Int32 → Option (Int32 × Mem)) (σ : Mem) (x1 : Int32) (x2 : Int32) (x3 : Int32) : Option (Int32 × Mem) :=
  if 8 ≤ x3 then
    if x2 &&& 1 = x2 then some (x2, σ) else none
  else
    if x2 = 0 then
      f_M_isFree_76 K19 σ x1 x3
    else
      if gin x3 8 = true then
        if (σ 21 x3.toNatClampNeg) = 0 then
          f_M_isFree_72 K19 σ x1 x3
        else
          if gin x3 8 = true then
            if x1 < (σ 28 x3.toNatClampNeg) then
              f_M_isFree_72 K19 σ x1 x3
            else
              if gin x3 8 = true then
                if gin x3 8 = true then
                  if gin x3 8 = true then
                    if x1 < ((σ 28 x3.toNatClampNeg) + ((σ 24 x3.toNatClampNeg) * (σ 25 x3.toNatClampNeg))) then
                      f_M_isFree_76 K19 σ x1 x3
                    else
                      f_M_isFree_72 K19 σ x1 x3
                  else none
                else none
              else none
          else none
      else none
set_option maxRecDepth 100000 in
theorem m_M_isFree_19B {κ : GC} {Γ : GA} (hX : Gx κ Γ 4 b_M_isFree "PaneScreenModel" r_M_isFree (some .boolean)) (K19 : Mem → Int32 → Int32 → Int32 → Option (Int32 × Mem)) (hK19 : ∀ (σ : Mem) (x1 : Int32) (x2 : Int32) (x3 : Int32), GG κ Γ 4 (gQ gqi κ Γ r_M_isFree) 0 0 σ [some (.ref (Γ.2.1 19)), some (.int x1), some (.int x2), some (.int x3)] 19 [] (K19 σ x1 x2 x3)) (σ : Mem) (x1 : Int32) (x2 : Int32) (x3 : Int32) : GG κ Γ 4 (gQ gqi κ Γ r_M_isFree) 0 0 σ [some (.ref (Γ.2.1 19)), some (.int x1), some (.int x2), some (.int x3)] 19 [] (f_M_isFree_19B K19 σ x1 x2 x3) := by
  unfold f_M_isFree_19B
  refine g_iload_n hX 3 d_M_isFree_19 (n := 20) rfl rfl rfl ?_
  refine g_bipush hX 8 d_M_isFree_20 (n := 22) rfl k_bipush_8 ?_
  refine g_icmp_ge hX 84 d_M_isFree_22 (n := 25) rfl rfl ?_ ?_
  · refine g_iload_n hX 2 d_M_isFree_84 (n := 85) rfl rfl rfl ?_
    exact g_iretZ hX d_M_isFree_85 (by decide) (by decide)
  · refine g_iload_n hX 2 d_M_isFree_25 (n := 26) rfl rfl rfl ?_
    refine g_if_eq hX 76 d_M_isFree_26 (n := 29) rfl rfl ?_ ?_
    · exact (g_sub (lw := [some (.ref (Γ.2.1 19)), some (.int x1), none, some (.int x3)]) (And.intro rfl (And.intro rfl (And.intro rfl (True.intro)))) (m_M_isFree_76 hX K19 hK19 σ x1 x3))
    · refine g_aload_n hX 0 d_M_isFree_29 (n := 30) rfl rfl rfl ?_
      refine g_geta hX 21 gf_M_13 d_M_isFree_30 (n := 33) rfl sh_19 rfl ?_
      refine g_iload_n hX 3 d_M_isFree_33 (n := 34) rfl rfl rfl ?_
      refine g_zald hX d_M_isFree_34 (n := 35) rfl sh_21 ?_
      refine g_if_eq hX 72 d_M_isFree_35 (n := 38) rfl rfl ?_ ?_
      · exact (g_sub (lw := [some (.ref (Γ.2.1 19)), some (.int x1), none, some (.int x3)]) (And.intro rfl (And.intro rfl (And.intro rfl (True.intro)))) (m_M_isFree_72 hX K19 hK19 σ x1 x3))
      · refine g_iload_n hX 1 d_M_isFree_38 (n := 39) rfl rfl rfl ?_
        refine g_aload_n hX 0 d_M_isFree_39 (n := 40) rfl rfl rfl ?_
        refine g_geta hX 28 gf_M_35 d_M_isFree_40 (n := 43) rfl sh_19 rfl ?_
        refine g_iload_n hX 3 d_M_isFree_43 (n := 44) rfl rfl rfl ?_
        refine g_iald hX d_M_isFree_44 (n := 45) rfl sh_28 ?_
        refine g_icmp_lt hX 72 d_M_isFree_45 (n := 48) rfl rfl ?_ ?_
        · exact (g_sub (lw := [some (.ref (Γ.2.1 19)), some (.int x1), none, some (.int x3)]) (And.intro rfl (And.intro rfl (And.intro rfl (True.intro)))) (m_M_isFree_72 hX K19 hK19 σ x1 x3))
        · refine g_iload_n hX 1 d_M_isFree_48 (n := 49) rfl rfl rfl ?_
          refine g_aload_n hX 0 d_M_isFree_49 (n := 50) rfl rfl rfl ?_
          refine g_geta hX 28 gf_M_35 d_M_isFree_50 (n := 53) rfl sh_19 rfl ?_
          refine g_iload_n hX 3 d_M_isFree_53 (n := 54) rfl rfl rfl ?_
          refine g_iald hX d_M_isFree_54 (n := 55) rfl sh_28 ?_
          refine g_aload_n hX 0 d_M_isFree_55 (n := 56) rfl rfl rfl ?_
          refine g_geta hX 24 gf_M_23 d_M_isFree_56 (n := 59) rfl sh_19 rfl ?_
          refine g_iload_n hX 3 d_M_isFree_59 (n := 60) rfl rfl rfl ?_
          refine g_iald hX d_M_isFree_60 (n := 61) rfl sh_24 ?_
          refine g_aload_n hX 0 d_M_isFree_61 (n := 62) rfl rfl rfl ?_
          refine g_geta hX 25 gf_M_26 d_M_isFree_62 (n := 65) rfl sh_19 rfl ?_
          refine g_iload_n hX 3 d_M_isFree_65 (n := 66) rfl rfl rfl ?_
          refine g_iald hX d_M_isFree_66 (n := 67) rfl sh_25 ?_
          refine g_imul hX d_M_isFree_67 (n := 68) rfl ?_
          refine g_iadd hX d_M_isFree_68 (n := 69) rfl ?_
          refine g_icmp_lt hX 76 d_M_isFree_69 (n := 72) rfl rfl ?_ ?_
          · exact (g_sub (lw := [some (.ref (Γ.2.1 19)), some (.int x1), none, some (.int x3)]) (And.intro rfl (And.intro rfl (And.intro rfl (True.intro)))) (m_M_isFree_76 hX K19 hK19 σ x1 x3))
          · exact (g_sub (lw := [some (.ref (Γ.2.1 19)), some (.int x1), none, some (.int x3)]) (And.intro rfl (And.intro rfl (And.intro rfl (True.intro)))) (m_M_isFree_72 hX K19 hK19 σ x1 x3))
def f_M_isFree_19 (n : Nat) : Mem → Int32 → Int32 → Int32 → Option (Int32 × Mem) := gfix (fun _ _ _ _ => none) (fun K19 => f_M_isFree_19B K19) n
theorem m_M_isFree_19 {κ : GC} {Γ : GA} (hX : Gx κ Γ 4 b_M_isFree "PaneScreenModel" r_M_isFree (some .boolean)) (n : Nat) : ∀ (σ : Mem) (x1 : Int32) (x2 : Int32) (x3 : Int32), GG κ Γ 4 (gQ gqi κ Γ r_M_isFree) 0 0 σ [some (.ref (Γ.2.1 19)), some (.int x1), some (.int x2), some (.int x3)] 19 [] (f_M_isFree_19 n σ x1 x2 x3) := by
  induction n with
  | zero => intros; exact g_none
  | succ n ih => intro σ x1 x2 x3; exact m_M_isFree_19B hX (f_M_isFree_19 n) ih σ x1 x2 x3
def f_M_isFree_16 (σ : Mem) (x1 : Int32) (s0 : Int32) : Option (Int32 × Mem) :=
  f_M_isFree_19 gN σ x1 s0 0
set_option maxRecDepth 100000 in
theorem m_M_isFree_16 {κ : GC} {Γ : GA} (hX : Gx κ Γ 4 b_M_isFree "PaneScreenModel" r_M_isFree (some .boolean)) (σ : Mem) (x1 : Int32) (s0 : Int32) : GG κ Γ 4 (gQ gqi κ Γ r_M_isFree) 0 0 σ [some (.ref (Γ.2.1 19)), some (.int x1), none, none] 16 [.int s0] (f_M_isFree_16 σ x1 s0) := by
  unfold f_M_isFree_16
  refine g_istore_n hX 2 [_, _, _, _] d_M_isFree_16 (n := 17) rfl rfl (by decide) rfl ?_
  refine g_iconst hX 0 d_M_isFree_17 (n := 18) rfl k_iconst_0 ?_
  refine g_istore_n hX 3 [_, _, _, _] d_M_isFree_18 (n := 19) rfl rfl (by decide) rfl ?_
  exact (m_M_isFree_19 hX gN σ x1 s0 0)
def f_M_isFree_15 (σ : Mem) (x1 : Int32) : Option (Int32 × Mem) :=
  f_M_isFree_16 σ x1 0
set_option maxRecDepth 100000 in
theorem m_M_isFree_15 {κ : GC} {Γ : GA} (hX : Gx κ Γ 4 b_M_isFree "PaneScreenModel" r_M_isFree (some .boolean)) (σ : Mem) (x1 : Int32) : GG κ Γ 4 (gQ gqi κ Γ r_M_isFree) 0 0 σ [some (.ref (Γ.2.1 19)), some (.int x1), none, none] 15 [] (f_M_isFree_15 σ x1) := by
  unfold f_M_isFree_15
  refine g_iconst hX 0 d_M_isFree_15 (n := 16) rfl k_iconst_0 ?_
  exact (m_M_isFree_16 hX σ x1 0)
def f_M_isFree_0 (σ : Mem) (x1 : Int32) : Option (Int32 × Mem) :=
  if x1 < 0 then
    f_M_isFree_15 σ x1
  else
    if 400 ≤ x1 then
      f_M_isFree_15 σ x1
    else
      f_M_isFree_16 σ x1 1
set_option maxRecDepth 100000 in
theorem m_M_isFree_0 {κ : GC} {Γ : GA} (hX : Gx κ Γ 4 b_M_isFree "PaneScreenModel" r_M_isFree (some .boolean)) (σ : Mem) (x1 : Int32) : GG κ Γ 4 (gQ gqi κ Γ r_M_isFree) 0 0 σ [some (.ref (Γ.2.1 19)), some (.int x1), none, none] 0 [] (f_M_isFree_0 σ x1) := by
  unfold f_M_isFree_0
  refine g_iload_n hX 1 d_M_isFree_0 (n := 1) rfl rfl rfl ?_
  refine g_if_lt hX 15 d_M_isFree_1 (n := 4) rfl rfl ?_ ?_
  · exact (m_M_isFree_15 hX σ x1)
  · refine g_iload_n hX 1 d_M_isFree_4 (n := 5) rfl rfl rfl ?_
    refine g_sipush hX 400 d_M_isFree_5 (n := 8) rfl k_sipush_400 ?_
    refine g_icmp_ge hX 15 d_M_isFree_8 (n := 11) rfl rfl ?_ ?_
    · exact (m_M_isFree_15 hX σ x1)
    · refine g_iconst hX 1 d_M_isFree_11 (n := 12) rfl k_iconst_1 ?_
      refine g_goto hX 16 d_M_isFree_12 rfl ?_
      exact (m_M_isFree_16 hX σ x1 1)
def f_M_isFree (x1 : Int32) (σ : Mem) : Option (Int32 × Mem) := f_M_isFree_0 σ x1
theorem c_M_isFree (l : Launch) (Γ : GA) (x1 : Int32) (σ : Mem) : gM gqi l y_M_isFree b_M_isFree 4 (some .boolean) r_M_isFree [.ref (Γ.2.1 19), .int x1] Γ σ (f_M_isFree x1 σ) :=
  gM.of [some (.ref (Γ.2.1 19)), some (.int x1), none, none] (by decide) (Nat.le_of_ble_eq_true rfl) rfl rfl (fun κ hX _ => m_M_isFree_0 hX σ x1)
/-! M_stretch -/
theorem d_M_stretch_0 : decode b_M_stretch 0 = .ok (.iconst 0, 1) := by decide +kernel
theorem d_M_stretch_1 : decode b_M_stretch 1 = .ok (.istore_n 2, 1) := by decide +kernel
theorem d_M_stretch_2 : decode b_M_stretch 2 = .ok (.iconst 0, 1) := by decide +kernel
theorem d_M_stretch_3 : decode b_M_stretch 3 = .ok (.istore_n 3, 1) := by decide +kernel
theorem d_M_stretch_4 : decode b_M_stretch 4 = .ok (.iload_n 3, 1) := by decide +kernel
theorem d_M_stretch_5 : decode b_M_stretch 5 = .ok (.sipush 400, 3) := by decide +kernel
theorem d_M_stretch_8 : decode b_M_stretch 8 = .ok (.if_icmp .ge 36, 3) := by decide +kernel
theorem d_M_stretch_11 : decode b_M_stretch 11 = .ok (.aload_n 0, 1) := by decide +kernel
theorem d_M_stretch_12 : decode b_M_stretch 12 = .ok (.iload_n 3, 1) := by decide +kernel
theorem d_M_stretch_13 : decode b_M_stretch 13 = .ok (.invokevirtual 105, 3) := by decide +kernel
theorem d_M_stretch_16 : decode b_M_stretch 16 = .ok (.ifCond .eq 9, 3) := by decide +kernel
theorem d_M_stretch_19 : decode b_M_stretch 19 = .ok (.iload_n 2, 1) := by decide +kernel
theorem d_M_stretch_20 : decode b_M_stretch 20 = .ok (.iconst 1, 1) := by decide +kernel
theorem d_M_stretch_21 : decode b_M_stretch 21 = .ok (.iadd, 1) := by decide +kernel
theorem d_M_stretch_22 : decode b_M_stretch 22 = .ok (.goto 4, 3) := by decide +kernel
theorem d_M_stretch_25 : decode b_M_stretch 25 = .ok (.iconst 0, 1) := by decide +kernel
theorem d_M_stretch_26 : decode b_M_stretch 26 = .ok (.istore_n 2, 1) := by decide +kernel
theorem d_M_stretch_27 : decode b_M_stretch 27 = .ok (.iload_n 2, 1) := by decide +kernel
theorem d_M_stretch_28 : decode b_M_stretch 28 = .ok (.iload_n 1, 1) := by decide +kernel
theorem d_M_stretch_29 : decode b_M_stretch 29 = .ok (.if_icmp .ne 9, 3) := by decide +kernel
theorem d_M_stretch_32 : decode b_M_stretch 32 = .ok (.iload_n 3, 1) := by decide +kernel
theorem d_M_stretch_33 : decode b_M_stretch 33 = .ok (.iconst 1, 1) := by decide +kernel
theorem d_M_stretch_34 : decode b_M_stretch 34 = .ok (.iadd, 1) := by decide +kernel
theorem d_M_stretch_35 : decode b_M_stretch 35 = .ok (.iload_n 1, 1) := by decide +kernel
theorem d_M_stretch_36 : decode b_M_stretch 36 = .ok (.isub, 1) := by decide +kernel
theorem d_M_stretch_37 : decode b_M_stretch 37 = .ok (.ireturn, 1) := by decide +kernel
theorem d_M_stretch_38 : decode b_M_stretch 38 = .ok (.iinc 3 1, 3) := by decide +kernel
theorem d_M_stretch_41 : decode b_M_stretch 41 = .ok (.goto (-37), 3) := by decide +kernel
theorem d_M_stretch_44 : decode b_M_stretch 44 = .ok (.iconst (-1), 1) := by decide +kernel
theorem d_M_stretch_45 : decode b_M_stretch 45 = .ok (.ireturn, 1) := by decide +kernel
abbrev r_M_stretch : Room := ⟨1, 0, 0, 23⟩
def f_M_stretch_26 (K4 : Mem → Int32 → Int32 → Int32 → Option (Int32 × Mem)) (σ : Mem) (x1 : Int32) (x3 : Int32) (s0 : Int32) : Option (Int32 × Mem) :=
  if s0 = x1 then
    some (((x3 + 1) - x1), σ)
  else
    K4 σ x1 s0 (x3 + 1)
set_option maxRecDepth 100000 in
theorem m_M_stretch_26 {κ : GC} {Γ : GA} (hX : Gx κ Γ 4 b_M_stretch "PaneScreenModel" r_M_stretch (some .int)) (K4 : Mem → Int32 → Int32 → Int32 → Option (Int32 × Mem)) (hK4 : ∀ (σ : Mem) (x1 : Int32) (x2 : Int32) (x3 : Int32), GG κ Γ 4 (gQ gqi κ Γ r_M_stretch) 0 0 σ [some (.ref (Γ.2.1 19)), some (.int x1), some (.int x2), some (.int x3)] 4 [] (K4 σ x1 x2 x3)) (σ : Mem) (x1 : Int32) (x3 : Int32) (s0 : Int32) : GG κ Γ 4 (gQ gqi κ Γ r_M_stretch) 0 0 σ [some (.ref (Γ.2.1 19)), some (.int x1), none, some (.int x3)] 26 [.int s0] (f_M_stretch_26 K4 σ x1 x3 s0) := by
  unfold f_M_stretch_26
  refine g_istore_n hX 2 [_, _, _, _] d_M_stretch_26 (n := 27) rfl rfl (by decide) rfl ?_
  refine g_iload_n hX 2 d_M_stretch_27 (n := 28) rfl rfl rfl ?_
  refine g_iload_n hX 1 d_M_stretch_28 (n := 29) rfl rfl rfl ?_
  refine g_icmp_ne hX 38 d_M_stretch_29 (n := 32) rfl rfl ?_ ?_
  · refine g_iinc hX 1 _ [_, _, _, _] d_M_stretch_38 (n := 41) rfl rfl k_iconst_1 rfl (by decide) rfl ?_
    refine g_goto hX 4 d_M_stretch_41 rfl ?_
    exact (hK4 σ x1 s0 (x3 + 1))
  · refine g_iload_n hX 3 d_M_stretch_32 (n := 33) rfl rfl rfl ?_
    refine g_iconst hX 1 d_M_stretch_33 (n := 34) rfl k_iconst_1 ?_
    refine g_iadd hX d_M_stretch_34 (n := 35) rfl ?_
    refine g_iload_n hX 1 d_M_stretch_35 (n := 36) rfl rfl rfl ?_
    refine g_isub hX d_M_stretch_36 (n := 37) rfl ?_
    exact g_iret hX d_M_stretch_37 (by decide) (by decide)
def f_M_stretch_4B (K4 : Mem → Int32 → Int32 → Int32 → Option (Int32 × Mem)) (σ : Mem) (x1 : Int32) (x2 : Int32) (x3 : Int32) : Option (Int32 × Mem) :=
  if 400 ≤ x3 then
    some ((-1), σ)
  else
    gb (f_M_isFree x3 σ) fun r2 u1 =>
    if r2 = 0 then
      f_M_stretch_26 K4 u1 x1 x3 0
    else
      f_M_stretch_26 K4 u1 x1 x3 (x2 + 1)
set_option maxRecDepth 100000 in
theorem m_M_stretch_4B {κ : GC} {Γ : GA} (hX : Gx κ Γ 4 b_M_stretch "PaneScreenModel" r_M_stretch (some .int)) (K4 : Mem → Int32 → Int32 → Int32 → Option (Int32 × Mem)) (hK4 : ∀ (σ : Mem) (x1 : Int32) (x2 : Int32) (x3 : Int32), GG κ Γ 4 (gQ gqi κ Γ r_M_stretch) 0 0 σ [some (.ref (Γ.2.1 19)), some (.int x1), some (.int x2), some (.int x3)] 4 [] (K4 σ x1 x2 x3)) (σ : Mem) (x1 : Int32) (x2 : Int32) (x3 : Int32) : GG κ Γ 4 (gQ gqi κ Γ r_M_stretch) 0 0 σ [some (.ref (Γ.2.1 19)), some (.int x1), some (.int x2), some (.int x3)] 4 [] (f_M_stretch_4B K4 σ x1 x2 x3) := by
  unfold f_M_stretch_4B
  refine g_iload_n hX 3 d_M_stretch_4 (n := 5) rfl rfl rfl ?_
  refine g_sipush hX 400 d_M_stretch_5 (n := 8) rfl k_sipush_400 ?_
  refine g_icmp_ge hX 44 d_M_stretch_8 (n := 11) rfl rfl ?_ ?_
  · refine g_iconst hX (-1) d_M_stretch_44 (n := 45) rfl k_iconst_m1 ?_
    exact g_iret hX d_M_stretch_45 (by decide) (by decide)
  · refine g_aload_n hX 0 d_M_stretch_11 (n := 12) rfl rfl rfl ?_
    refine g_iload_n hX 3 d_M_stretch_12 (n := 13) rfl rfl rfl ?_
    refine g_cVi hX [_] rfl 0 0 (c_M_isFree _ Γ x3 σ) gw_M_105 rfl sh_19 rfl d_M_stretch_13 (n := 16) rfl ⟨by decide, by decide⟩ ⟨by decide, by decide⟩ (Nat.le_of_ble_eq_true rfl) rfl rfl (fun r2 u1 => ?_)
    refine g_if_eq hX 25 d_M_stretch_16 (n := 19) rfl rfl ?_ ?_
    · refine g_iconst hX 0 d_M_stretch_25 (n := 26) rfl k_iconst_0 ?_
      exact (g_sub (lw := [some (.ref (Γ.2.1 19)), some (.int x1), none, some (.int x3)]) (And.intro rfl (And.intro rfl (And.intro rfl (True.intro)))) (m_M_stretch_26 hX K4 hK4 u1 x1 x3 0))
    · refine g_iload_n hX 2 d_M_stretch_19 (n := 20) rfl rfl rfl ?_
      refine g_iconst hX 1 d_M_stretch_20 (n := 21) rfl k_iconst_1 ?_
      refine g_iadd hX d_M_stretch_21 (n := 22) rfl ?_
      refine g_goto hX 26 d_M_stretch_22 rfl ?_
      exact (g_sub (lw := [some (.ref (Γ.2.1 19)), some (.int x1), none, some (.int x3)]) (And.intro rfl (And.intro rfl (And.intro rfl (True.intro)))) (m_M_stretch_26 hX K4 hK4 u1 x1 x3 (x2 + 1)))
def f_M_stretch_4 (n : Nat) : Mem → Int32 → Int32 → Int32 → Option (Int32 × Mem) := gfix (fun _ _ _ _ => none) (fun K4 => f_M_stretch_4B K4) n
theorem m_M_stretch_4 {κ : GC} {Γ : GA} (hX : Gx κ Γ 4 b_M_stretch "PaneScreenModel" r_M_stretch (some .int)) (n : Nat) : ∀ (σ : Mem) (x1 : Int32) (x2 : Int32) (x3 : Int32), GG κ Γ 4 (gQ gqi κ Γ r_M_stretch) 0 0 σ [some (.ref (Γ.2.1 19)), some (.int x1), some (.int x2), some (.int x3)] 4 [] (f_M_stretch_4 n σ x1 x2 x3) := by
  induction n with
  | zero => intros; exact g_none
  | succ n ih => intro σ x1 x2 x3; exact m_M_stretch_4B hX (f_M_stretch_4 n) ih σ x1 x2 x3
def f_M_stretch_0 (σ : Mem) (x1 : Int32) : Option (Int32 × Mem) :=
  f_M_stretch_4 gN σ x1 0 0
set_option maxRecDepth 100000 in
theorem m_M_stretch_0 {κ : GC} {Γ : GA} (hX : Gx κ Γ 4 b_M_stretch "PaneScreenModel" r_M_stretch (some .int)) (σ : Mem) (x1 : Int32) : GG κ Γ 4 (gQ gqi κ Γ r_M_stretch) 0 0 σ [some (.ref (Γ.2.1 19)), some (.int x1), none, none] 0 [] (f_M_stretch_0 σ x1) := by
  unfold f_M_stretch_0
  refine g_iconst hX 0 d_M_stretch_0 (n := 1) rfl k_iconst_0 ?_
  refine g_istore_n hX 2 [_, _, _, _] d_M_stretch_1 (n := 2) rfl rfl (by decide) rfl ?_
  refine g_iconst hX 0 d_M_stretch_2 (n := 3) rfl k_iconst_0 ?_
  refine g_istore_n hX 3 [_, _, _, _] d_M_stretch_3 (n := 4) rfl rfl (by decide) rfl ?_
  exact (m_M_stretch_4 hX gN σ x1 0 0)
def f_M_stretch (x1 : Int32) (σ : Mem) : Option (Int32 × Mem) := f_M_stretch_0 σ x1
theorem c_M_stretch (l : Launch) (Γ : GA) (x1 : Int32) (σ : Mem) : gM gqi l y_M_stretch b_M_stretch 4 (some .int) r_M_stretch [.ref (Γ.2.1 19), .int x1] Γ σ (f_M_stretch x1 σ) :=
  gM.of [some (.ref (Γ.2.1 19)), some (.int x1), none, none] (by decide) (Nat.le_of_ble_eq_true rfl) rfl rfl (fun κ hX _ => m_M_stretch_0 hX σ x1)
/-! M_firstClosed -/
theorem d_M_firstClosed_0 : decode b_M_firstClosed 0 = .ok (.iconst 0, 1) := by decide +kernel
theorem d_M_firstClosed_1 : decode b_M_firstClosed 1 = .ok (.istore_n 1, 1) := by decide +kernel
theorem d_M_firstClosed_2 : decode b_M_firstClosed 2 = .ok (.iload_n 1, 1) := by decide +kernel
theorem d_M_firstClosed_3 : decode b_M_firstClosed 3 = .ok (.bipush 8, 2) := by decide +kernel
theorem d_M_firstClosed_5 : decode b_M_firstClosed 5 = .ok (.if_icmp .ge 18, 3) := by decide +kernel
theorem d_M_firstClosed_8 : decode b_M_firstClosed 8 = .ok (.aload_n 0, 1) := by decide +kernel
theorem d_M_firstClosed_9 : decode b_M_firstClosed 9 = .ok (.getfield 13, 3) := by decide +kernel
theorem d_M_firstClosed_12 : decode b_M_firstClosed 12 = .ok (.iload_n 1, 1) := by decide +kernel
theorem d_M_firstClosed_13 : decode b_M_firstClosed 13 = .ok (.baload, 1) := by decide +kernel
theorem d_M_firstClosed_14 : decode b_M_firstClosed 14 = .ok (.ifCond .eq 9, 3) := by decide +kernel
theorem d_M_firstClosed_17 : decode b_M_firstClosed 17 = .ok (.iinc 1 1, 3) := by decide +kernel
theorem d_M_firstClosed_20 : decode b_M_firstClosed 20 = .ok (.goto (-18), 3) := by decide +kernel
theorem d_M_firstClosed_23 : decode b_M_firstClosed 23 = .ok (.iload_n 1, 1) := by decide +kernel
theorem d_M_firstClosed_24 : decode b_M_firstClosed 24 = .ok (.ireturn, 1) := by decide +kernel
abbrev r_M_firstClosed : Room := ⟨0, 0, 0, 0⟩
def f_M_firstClosed_23 (σ : Mem) (x1 : Int32) : Option (Int32 × Mem) :=
  some (x1, σ)
set_option maxRecDepth 100000 in
theorem m_M_firstClosed_23 {κ : GC} {Γ : GA} (hX : Gx κ Γ 2 b_M_firstClosed "PaneScreenModel" r_M_firstClosed (some .int)) (σ : Mem) (x1 : Int32) : GG κ Γ 2 (gQ gqi κ Γ r_M_firstClosed) 0 0 σ [none, some (.int x1)] 23 [] (f_M_firstClosed_23 σ x1) := by
  unfold f_M_firstClosed_23
  refine g_iload_n hX 1 d_M_firstClosed_23 (n := 24) rfl rfl rfl ?_
  exact g_iret hX d_M_firstClosed_24 (by decide) (by decide)
def f_M_firstClosed_2B (K2 : Mem → Int32 → Option (Int32 × Mem)) (σ : Mem) (x1 : Int32) : Option (Int32 × Mem) :=
  if 8 ≤ x1 then
    f_M_firstClosed_23 σ x1
  else
    if gin x1 8 = true then
      if (σ 21 x1.toNatClampNeg) = 0 then
        f_M_firstClosed_23 σ x1
      else
        K2 σ (x1 + 1)
    else none
set_option maxRecDepth 100000 in
theorem m_M_firstClosed_2B {κ : GC} {Γ : GA} (hX : Gx κ Γ 2 b_M_firstClosed "PaneScreenModel" r_M_firstClosed (some .int)) (K2 : Mem → Int32 → Option (Int32 × Mem)) (hK2 : ∀ (σ : Mem) (x1 : Int32), GG κ Γ 2 (gQ gqi κ Γ r_M_firstClosed) 0 0 σ [some (.ref (Γ.2.1 19)), some (.int x1)] 2 [] (K2 σ x1)) (σ : Mem) (x1 : Int32) : GG κ Γ 2 (gQ gqi κ Γ r_M_firstClosed) 0 0 σ [some (.ref (Γ.2.1 19)), some (.int x1)] 2 [] (f_M_firstClosed_2B K2 σ x1) := by
  unfold f_M_firstClosed_2B
  refine g_iload_n hX 1 d_M_firstClosed_2 (n := 3) rfl rfl rfl ?_
  refine g_bipush hX 8 d_M_firstClosed_3 (n := 5) rfl k_bipush_8 ?_
  refine g_icmp_ge hX 23 d_M_firstClosed_5 (n := 8) rfl rfl ?_ ?_
  · exact (g_sub (lw := [none, some (.int x1)]) (And.intro rfl (True.intro)) (m_M_firstClosed_23 hX σ x1))
  · refine g_aload_n hX 0 d_M_firstClosed_8 (n := 9) rfl rfl rfl ?_
    refine g_geta hX 21 gf_M_13 d_M_firstClosed_9 (n := 12) rfl sh_19 rfl ?_
    refine g_iload_n hX 1 d_M_firstClosed_12 (n := 13) rfl rfl rfl ?_
    refine g_zald hX d_M_firstClosed_13 (n := 14) rfl sh_21 ?_
    refine g_if_eq hX 23 d_M_firstClosed_14 (n := 17) rfl rfl ?_ ?_
    · exact (g_sub (lw := [none, some (.int x1)]) (And.intro rfl (True.intro)) (m_M_firstClosed_23 hX σ x1))
    · refine g_iinc hX 1 _ [_, _] d_M_firstClosed_17 (n := 20) rfl rfl k_iconst_1 rfl (by decide) rfl ?_
      refine g_goto hX 2 d_M_firstClosed_20 rfl ?_
      exact (hK2 σ (x1 + 1))
def f_M_firstClosed_2 (n : Nat) : Mem → Int32 → Option (Int32 × Mem) := gfix (fun _ _ => none) (fun K2 => f_M_firstClosed_2B K2) n
theorem m_M_firstClosed_2 {κ : GC} {Γ : GA} (hX : Gx κ Γ 2 b_M_firstClosed "PaneScreenModel" r_M_firstClosed (some .int)) (n : Nat) : ∀ (σ : Mem) (x1 : Int32), GG κ Γ 2 (gQ gqi κ Γ r_M_firstClosed) 0 0 σ [some (.ref (Γ.2.1 19)), some (.int x1)] 2 [] (f_M_firstClosed_2 n σ x1) := by
  induction n with
  | zero => intros; exact g_none
  | succ n ih => intro σ x1; exact m_M_firstClosed_2B hX (f_M_firstClosed_2 n) ih σ x1
def f_M_firstClosed_0 (σ : Mem) : Option (Int32 × Mem) :=
  f_M_firstClosed_2 gN σ 0
set_option maxRecDepth 100000 in
theorem m_M_firstClosed_0 {κ : GC} {Γ : GA} (hX : Gx κ Γ 2 b_M_firstClosed "PaneScreenModel" r_M_firstClosed (some .int)) (σ : Mem) : GG κ Γ 2 (gQ gqi κ Γ r_M_firstClosed) 0 0 σ [some (.ref (Γ.2.1 19)), none] 0 [] (f_M_firstClosed_0 σ) := by
  unfold f_M_firstClosed_0
  refine g_iconst hX 0 d_M_firstClosed_0 (n := 1) rfl k_iconst_0 ?_
  refine g_istore_n hX 1 [_, _] d_M_firstClosed_1 (n := 2) rfl rfl (by decide) rfl ?_
  exact (m_M_firstClosed_2 hX gN σ 0)
def f_M_firstClosed (σ : Mem) : Option (Int32 × Mem) := f_M_firstClosed_0 σ
theorem c_M_firstClosed (l : Launch) (Γ : GA) (σ : Mem) : gM gqi l y_M_firstClosed b_M_firstClosed 2 (some .int) r_M_firstClosed [.ref (Γ.2.1 19)] Γ σ (f_M_firstClosed σ) :=
  gM.of [some (.ref (Γ.2.1 19)), none] (by decide) (Nat.le_of_ble_eq_true rfl) rfl rfl (fun κ hX _ => m_M_firstClosed_0 hX σ)
/-! M_open -/
theorem d_M_open_0 : decode b_M_open 0 = .ok (.aload_n 0, 1) := by decide +kernel
theorem d_M_open_1 : decode b_M_open 1 = .ok (.iload_n 1, 1) := by decide +kernel
theorem d_M_open_2 : decode b_M_open 2 = .ok (.invokestatic 109, 3) := by decide +kernel
theorem d_M_open_5 : decode b_M_open 5 = .ok (.ifCond .eq 38, 3) := by decide +kernel
theorem d_M_open_8 : decode b_M_open 8 = .ok (.iload_n 2, 1) := by decide +kernel
theorem d_M_open_9 : decode b_M_open 9 = .ok (.invokestatic 109, 3) := by decide +kernel
theorem d_M_open_12 : decode b_M_open 12 = .ok (.ifCond .eq 31, 3) := by decide +kernel
theorem d_M_open_15 : decode b_M_open 15 = .ok (.iload_n 3, 1) := by decide +kernel
theorem d_M_open_16 : decode b_M_open 16 = .ok (.iconst 1, 1) := by decide +kernel
theorem d_M_open_17 : decode b_M_open 17 = .ok (.if_icmp .lt 26, 3) := by decide +kernel
theorem d_M_open_20 : decode b_M_open 20 = .ok (.iload_n 3, 1) := by decide +kernel
theorem d_M_open_21 : decode b_M_open 21 = .ok (.bipush 24, 2) := by decide +kernel
theorem d_M_open_23 : decode b_M_open 23 = .ok (.if_icmp .gt 20, 3) := by decide +kernel
theorem d_M_open_26 : decode b_M_open 26 = .ok (.iload 4, 2) := by decide +kernel
theorem d_M_open_28 : decode b_M_open 28 = .ok (.iconst 1, 1) := by decide +kernel
theorem d_M_open_29 : decode b_M_open 29 = .ok (.if_icmp .lt 14, 3) := by decide +kernel
theorem d_M_open_32 : decode b_M_open 32 = .ok (.iload 4, 2) := by decide +kernel
theorem d_M_open_34 : decode b_M_open 34 = .ok (.bipush 16, 2) := by decide +kernel
theorem d_M_open_36 : decode b_M_open 36 = .ok (.if_icmp .gt 7, 3) := by decide +kernel
theorem d_M_open_39 : decode b_M_open 39 = .ok (.iconst 0, 1) := by decide +kernel
theorem d_M_open_40 : decode b_M_open 40 = .ok (.goto 4, 3) := by decide +kernel
theorem d_M_open_43 : decode b_M_open 43 = .ok (.iconst 1, 1) := by decide +kernel
theorem d_M_open_44 : decode b_M_open 44 = .ok (.putfield 75, 3) := by decide +kernel
theorem d_M_open_47 : decode b_M_open 47 = .ok (.aload_n 0, 1) := by decide +kernel
theorem d_M_open_48 : decode b_M_open 48 = .ok (.getfield 75, 3) := by decide +kernel
theorem d_M_open_51 : decode b_M_open 51 = .ok (.ifCond .le 7, 3) := by decide +kernel
theorem d_M_open_54 : decode b_M_open 54 = .ok (.iconst (-1), 1) := by decide +kernel
theorem d_M_open_55 : decode b_M_open 55 = .ok (.goto 11, 3) := by decide +kernel
theorem d_M_open_58 : decode b_M_open 58 = .ok (.aload_n 0, 1) := by decide +kernel
theorem d_M_open_59 : decode b_M_open 59 = .ok (.iload_n 3, 1) := by decide +kernel
theorem d_M_open_60 : decode b_M_open 60 = .ok (.iload 4, 2) := by decide +kernel
theorem d_M_open_62 : decode b_M_open 62 = .ok (.imul, 1) := by decide +kernel
theorem d_M_open_63 : decode b_M_open 63 = .ok (.invokevirtual 112, 3) := by decide +kernel
theorem d_M_open_66 : decode b_M_open 66 = .ok (.istore 5, 2) := by decide +kernel
theorem d_M_open_68 : decode b_M_open 68 = .ok (.aload_n 0, 1) := by decide +kernel
theorem d_M_open_69 : decode b_M_open 69 = .ok (.invokevirtual 116, 3) := by decide +kernel
theorem d_M_open_72 : decode b_M_open 72 = .ok (.istore 6, 2) := by decide +kernel
theorem d_M_open_74 : decode b_M_open 74 = .ok (.aload_n 0, 1) := by decide +kernel
theorem d_M_open_75 : decode b_M_open 75 = .ok (.getfield 75, 3) := by decide +kernel
theorem d_M_open_78 : decode b_M_open 78 = .ok (.ifCond .ne 20, 3) := by decide +kernel
theorem d_M_open_81 : decode b_M_open 81 = .ok (.iload 6, 2) := by decide +kernel
theorem d_M_open_83 : decode b_M_open 83 = .ok (.bipush 8, 2) := by decide +kernel
theorem d_M_open_85 : decode b_M_open 85 = .ok (.if_icmp .eq 8, 3) := by decide +kernel
theorem d_M_open_88 : decode b_M_open 88 = .ok (.iload 5, 2) := by decide +kernel
theorem d_M_open_90 : decode b_M_open 90 = .ok (.ifCond .ge 8, 3) := by decide +kernel
theorem d_M_open_93 : decode b_M_open 93 = .ok (.aload_n 0, 1) := by decide +kernel
theorem d_M_open_94 : decode b_M_open 94 = .ok (.iconst 2, 1) := by decide +kernel
theorem d_M_open_95 : decode b_M_open 95 = .ok (.putfield 75, 3) := by decide +kernel
theorem d_M_open_98 : decode b_M_open 98 = .ok (.aload_n 0, 1) := by decide +kernel
theorem d_M_open_99 : decode b_M_open 99 = .ok (.getfield 75, 3) := by decide +kernel
theorem d_M_open_102 : decode b_M_open 102 = .ok (.ifCond .le 5, 3) := by decide +kernel
theorem d_M_open_105 : decode b_M_open 105 = .ok (.iconst 0, 1) := by decide +kernel
theorem d_M_open_106 : decode b_M_open 106 = .ok (.ireturn, 1) := by decide +kernel
theorem d_M_open_107 : decode b_M_open 107 = .ok (.aload_n 0, 1) := by decide +kernel
theorem d_M_open_108 : decode b_M_open 108 = .ok (.getfield 13, 3) := by decide +kernel
theorem d_M_open_111 : decode b_M_open 111 = .ok (.iload 6, 2) := by decide +kernel
theorem d_M_open_113 : decode b_M_open 113 = .ok (.iconst 1, 1) := by decide +kernel
theorem d_M_open_114 : decode b_M_open 114 = .ok (.bastore, 1) := by decide +kernel
theorem d_M_open_115 : decode b_M_open 115 = .ok (.aload_n 0, 1) := by decide +kernel
theorem d_M_open_116 : decode b_M_open 116 = .ok (.getfield 35, 3) := by decide +kernel
theorem d_M_open_119 : decode b_M_open 119 = .ok (.iload 6, 2) := by decide +kernel
theorem d_M_open_121 : decode b_M_open 121 = .ok (.iload 5, 2) := by decide +kernel
theorem d_M_open_123 : decode b_M_open 123 = .ok (.iastore, 1) := by decide +kernel
theorem d_M_open_124 : decode b_M_open 124 = .ok (.aload_n 0, 1) := by decide +kernel
theorem d_M_open_125 : decode b_M_open 125 = .ok (.getfield 17, 3) := by decide +kernel
theorem d_M_open_128 : decode b_M_open 128 = .ok (.iload 6, 2) := by decide +kernel
theorem d_M_open_130 : decode b_M_open 130 = .ok (.iload_n 1, 1) := by decide +kernel
theorem d_M_open_131 : decode b_M_open 131 = .ok (.iastore, 1) := by decide +kernel
theorem d_M_open_132 : decode b_M_open 132 = .ok (.aload_n 0, 1) := by decide +kernel
theorem d_M_open_133 : decode b_M_open 133 = .ok (.getfield 20, 3) := by decide +kernel
theorem d_M_open_136 : decode b_M_open 136 = .ok (.iload 6, 2) := by decide +kernel
theorem d_M_open_138 : decode b_M_open 138 = .ok (.iload_n 2, 1) := by decide +kernel
theorem d_M_open_139 : decode b_M_open 139 = .ok (.iastore, 1) := by decide +kernel
theorem d_M_open_140 : decode b_M_open 140 = .ok (.aload_n 0, 1) := by decide +kernel
theorem d_M_open_141 : decode b_M_open 141 = .ok (.getfield 23, 3) := by decide +kernel
theorem d_M_open_144 : decode b_M_open 144 = .ok (.iload 6, 2) := by decide +kernel
theorem d_M_open_146 : decode b_M_open 146 = .ok (.iload_n 3, 1) := by decide +kernel
theorem d_M_open_147 : decode b_M_open 147 = .ok (.iastore, 1) := by decide +kernel
theorem d_M_open_148 : decode b_M_open 148 = .ok (.aload_n 0, 1) := by decide +kernel
theorem d_M_open_149 : decode b_M_open 149 = .ok (.getfield 26, 3) := by decide +kernel
theorem d_M_open_152 : decode b_M_open 152 = .ok (.iload 6, 2) := by decide +kernel
theorem d_M_open_154 : decode b_M_open 154 = .ok (.iload 4, 2) := by decide +kernel
theorem d_M_open_156 : decode b_M_open 156 = .ok (.iastore, 1) := by decide +kernel
theorem d_M_open_157 : decode b_M_open 157 = .ok (.aload_n 0, 1) := by decide +kernel
theorem d_M_open_158 : decode b_M_open 158 = .ok (.getfield 29, 3) := by decide +kernel
theorem d_M_open_161 : decode b_M_open 161 = .ok (.iload 6, 2) := by decide +kernel
theorem d_M_open_163 : decode b_M_open 163 = .ok (.iconst 0, 1) := by decide +kernel
theorem d_M_open_164 : decode b_M_open 164 = .ok (.iastore, 1) := by decide +kernel
theorem d_M_open_165 : decode b_M_open 165 = .ok (.aload_n 0, 1) := by decide +kernel
theorem d_M_open_166 : decode b_M_open 166 = .ok (.getfield 32, 3) := by decide +kernel
theorem d_M_open_169 : decode b_M_open 169 = .ok (.iload 6, 2) := by decide +kernel
theorem d_M_open_171 : decode b_M_open 171 = .ok (.iconst 0, 1) := by decide +kernel
theorem d_M_open_172 : decode b_M_open 172 = .ok (.iastore, 1) := by decide +kernel
theorem d_M_open_173 : decode b_M_open 173 = .ok (.iconst 0, 1) := by decide +kernel
theorem d_M_open_174 : decode b_M_open 174 = .ok (.istore 7, 2) := by decide +kernel
theorem d_M_open_176 : decode b_M_open 176 = .ok (.iload 7, 2) := by decide +kernel
theorem d_M_open_178 : decode b_M_open 178 = .ok (.sipush 384, 3) := by decide +kernel
theorem d_M_open_181 : decode b_M_open 181 = .ok (.if_icmp .ge 24, 3) := by decide +kernel
theorem d_M_open_184 : decode b_M_open 184 = .ok (.aload_n 0, 1) := by decide +kernel
theorem d_M_open_185 : decode b_M_open 185 = .ok (.getfield 41, 3) := by decide +kernel
theorem d_M_open_188 : decode b_M_open 188 = .ok (.sipush 384, 3) := by decide +kernel
theorem d_M_open_191 : decode b_M_open 191 = .ok (.iload 6, 2) := by decide +kernel
theorem d_M_open_193 : decode b_M_open 193 = .ok (.imul, 1) := by decide +kernel
theorem d_M_open_194 : decode b_M_open 194 = .ok (.iload 7, 2) := by decide +kernel
theorem d_M_open_196 : decode b_M_open 196 = .ok (.iadd, 1) := by decide +kernel
theorem d_M_open_197 : decode b_M_open 197 = .ok (.iconst 0, 1) := by decide +kernel
theorem d_M_open_198 : decode b_M_open 198 = .ok (.iastore, 1) := by decide +kernel
theorem d_M_open_199 : decode b_M_open 199 = .ok (.iinc 7 1, 3) := by decide +kernel
theorem d_M_open_202 : decode b_M_open 202 = .ok (.goto (-26), 3) := by decide +kernel
theorem d_M_open_205 : decode b_M_open 205 = .ok (.aload_n 0, 1) := by decide +kernel
theorem d_M_open_206 : decode b_M_open 206 = .ok (.dup, 1) := by decide +kernel
theorem d_M_open_207 : decode b_M_open 207 = .ok (.getfield 120, 3) := by decide +kernel
theorem d_M_open_210 : decode b_M_open 210 = .ok (.iconst 1, 1) := by decide +kernel
theorem d_M_open_211 : decode b_M_open 211 = .ok (.isub, 1) := by decide +kernel
theorem d_M_open_212 : decode b_M_open 212 = .ok (.putfield 120, 3) := by decide +kernel
theorem d_M_open_215 : decode b_M_open 215 = .ok (.aload_n 0, 1) := by decide +kernel
theorem d_M_open_216 : decode b_M_open 216 = .ok (.getfield 38, 3) := by decide +kernel
theorem d_M_open_219 : decode b_M_open 219 = .ok (.iload 6, 2) := by decide +kernel
theorem d_M_open_221 : decode b_M_open 221 = .ok (.aload_n 0, 1) := by decide +kernel
theorem d_M_open_222 : decode b_M_open 222 = .ok (.getfield 120, 3) := by decide +kernel
theorem d_M_open_225 : decode b_M_open 225 = .ok (.iastore, 1) := by decide +kernel
theorem d_M_open_226 : decode b_M_open 226 = .ok (.aload_n 0, 1) := by decide +kernel
theorem d_M_open_227 : decode b_M_open 227 = .ok (.iload 6, 2) := by decide +kernel
theorem d_M_open_229 : decode b_M_open 229 = .ok (.invokevirtual 123, 3) := by decide +kernel
theorem d_M_open_232 : decode b_M_open 232 = .ok (.aload_n 0, 1) := by decide +kernel
theorem d_M_open_233 : decode b_M_open 233 = .ok (.iload 6, 2) := by decide +kernel
theorem d_M_open_235 : decode b_M_open 235 = .ok (.putfield 47, 3) := by decide +kernel
theorem d_M_open_238 : decode b_M_open 238 = .ok (.iload 6, 2) := by decide +kernel
theorem d_M_open_240 : decode b_M_open 240 = .ok (.ireturn, 1) := by decide +kernel
abbrev r_M_open : Room := ⟨2, 0, 0, 50⟩
def f_M_open_176B (K176 : Mem → Int32 → Int32 → Option (Int32 × Mem)) (σ : Mem) (x6 : Int32) (x7 : Int32) : Option (Int32 × Mem) :=
  if 384 ≤ x7 then
    gbm (m2 σ 19 11 ((σ 19 11) - 1)) fun u1 =>
    if gin x6 8 = true then
      gbm (m2 u1 29 x6.toNatClampNeg (u1 19 11)) fun u2 =>
      gbv (f_M_damageFrame x6 u2) fun u3 =>
      gbm (m2 u3 19 15 x6) fun u4 =>
      some (x6, u4)
    else none
  else
    if gin ((384 * x6) + x7) 3072 = true then
      gbm (m2 σ 30 ((384 * x6) + x7).toNatClampNeg 0) fun u5 =>
      K176 u5 x6 (x7 + 1)
    else none
set_option maxRecDepth 100000 in
theorem m_M_open_176B {κ : GC} {Γ : GA} (hX : Gx κ Γ 8 b_M_open "PaneScreenModel" r_M_open (some .int)) (K176 : Mem → Int32 → Int32 → Option (Int32 × Mem)) (hK176 : ∀ (σ : Mem) (x6 : Int32) (x7 : Int32), GG κ Γ 8 (gQ gqi κ Γ r_M_open) 0 0 σ [some (.ref (Γ.2.1 19)), none, none, none, none, none, some (.int x6), some (.int x7)] 176 [] (K176 σ x6 x7)) (σ : Mem) (x6 : Int32) (x7 : Int32) : GG κ Γ 8 (gQ gqi κ Γ r_M_open) 0 0 σ [some (.ref (Γ.2.1 19)), none, none, none, none, none, some (.int x6), some (.int x7)] 176 [] (f_M_open_176B K176 σ x6 x7) := by
  unfold f_M_open_176B
  refine g_iload hX d_M_open_176 (n := 178) rfl rfl ?_
  refine g_sipush hX 384 d_M_open_178 (n := 181) rfl k_sipush_384 ?_
  refine g_icmp_ge hX 205 d_M_open_181 (n := 184) rfl rfl ?_ ?_
  · refine g_aload_n hX 0 d_M_open_205 (n := 206) rfl rfl rfl ?_
    refine g_dup hX d_M_open_206 (n := 207) rfl rfl ?_
    refine g_geti hX gf_M_120 d_M_open_207 (n := 210) rfl sh_19 rfl ?_
    refine g_iconst hX 1 d_M_open_210 (n := 211) rfl k_iconst_1 ?_
    refine g_isub hX d_M_open_211 (n := 212) rfl ?_
    refine g_puti hX gp_M_120 d_M_open_212 (n := 215) rfl sh_19 rfl ?_
    refine g_mem (fun u1 => ?_)
    refine g_aload_n hX 0 d_M_open_215 (n := 216) rfl rfl rfl ?_
    refine g_geta hX 29 gf_M_38 d_M_open_216 (n := 219) rfl sh_19 rfl ?_
    refine g_iload hX d_M_open_219 (n := 221) rfl rfl ?_
    refine g_aload_n hX 0 d_M_open_221 (n := 222) rfl rfl rfl ?_
    refine g_geti hX gf_M_120 d_M_open_222 (n := 225) rfl sh_19 rfl ?_
    refine g_iast hX d_M_open_225 (n := 226) rfl sh_29 ?_
    refine g_mem (fun u2 => ?_)
    refine g_aload_n hX 0 d_M_open_226 (n := 227) rfl rfl rfl ?_
    refine g_iload hX d_M_open_227 (n := 229) rfl rfl ?_
    refine g_cVv hX [_] rfl 0 0 (c_M_damageFrame _ Γ x6 u2) gw_M_123 rfl sh_19 rfl d_M_open_229 (n := 232) rfl ⟨by decide, by decide⟩ ⟨by decide, by decide⟩ (Nat.le_of_ble_eq_true rfl) rfl rfl (fun u3 => ?_)
    refine g_aload_n hX 0 d_M_open_232 (n := 233) rfl rfl rfl ?_
    refine g_iload hX d_M_open_233 (n := 235) rfl rfl ?_
    refine g_puti hX gp_M_47 d_M_open_235 (n := 238) rfl sh_19 rfl ?_
    refine g_mem (fun u4 => ?_)
    refine g_iload hX d_M_open_238 (n := 240) rfl rfl ?_
    exact g_iret hX d_M_open_240 (by decide) (by decide)
  · refine g_aload_n hX 0 d_M_open_184 (n := 185) rfl rfl rfl ?_
    refine g_geta hX 30 gf_M_41 d_M_open_185 (n := 188) rfl sh_19 rfl ?_
    refine g_sipush hX 384 d_M_open_188 (n := 191) rfl k_sipush_384 ?_
    refine g_iload hX d_M_open_191 (n := 193) rfl rfl ?_
    refine g_imul hX d_M_open_193 (n := 194) rfl ?_
    refine g_iload hX d_M_open_194 (n := 196) rfl rfl ?_
    refine g_iadd hX d_M_open_196 (n := 197) rfl ?_
    refine g_iconst hX 0 d_M_open_197 (n := 198) rfl k_iconst_0 ?_
    refine g_iast hX d_M_open_198 (n := 199) rfl sh_30 ?_
    refine g_mem (fun u5 => ?_)
    refine g_iinc hX 1 _ [_, _, _, _, _, _, _, _] d_M_open_199 (n := 202) rfl rfl k_iconst_1 rfl (by decide) rfl ?_
    refine g_goto hX 176 d_M_open_202 rfl ?_
    exact (hK176 u5 x6 (x7 + 1))
def f_M_open_176 (n : Nat) : Mem → Int32 → Int32 → Option (Int32 × Mem) := gfix (fun _ _ _ => none) (fun K176 => f_M_open_176B K176) n
theorem m_M_open_176 {κ : GC} {Γ : GA} (hX : Gx κ Γ 8 b_M_open "PaneScreenModel" r_M_open (some .int)) (n : Nat) : ∀ (σ : Mem) (x6 : Int32) (x7 : Int32), GG κ Γ 8 (gQ gqi κ Γ r_M_open) 0 0 σ [some (.ref (Γ.2.1 19)), none, none, none, none, none, some (.int x6), some (.int x7)] 176 [] (f_M_open_176 n σ x6 x7) := by
  induction n with
  | zero => intros; exact g_none
  | succ n ih => intro σ x6 x7; exact m_M_open_176B hX (f_M_open_176 n) ih σ x6 x7
def f_M_open_98 (σ : Mem) (x1 : Int32) (x2 : Int32) (x3 : Int32) (x4 : Int32) (x5 : Int32) (x6 : Int32) : Option (Int32 × Mem) :=
  if (σ 19 0) ≤ 0 then
    if gin x6 8 = true then
      gbm (m2 σ 21 x6.toNatClampNeg 1) fun u1 =>
      if gin x6 8 = true then
        gbm (m2 u1 28 x6.toNatClampNeg x5) fun u2 =>
        if gin x6 8 = true then
          gbm (m2 u2 22 x6.toNatClampNeg x1) fun u3 =>
          if gin x6 8 = true then
            gbm (m2 u3 23 x6.toNatClampNeg x2) fun u4 =>
            if gin x6 8 = true then
              gbm (m2 u4 24 x6.toNatClampNeg x3) fun u5 =>
              if gin x6 8 = true then
                gbm (m2 u5 25 x6.toNatClampNeg x4) fun u6 =>
                if gin x6 8 = true then
                  gbm (m2 u6 26 x6.toNatClampNeg 0) fun u7 =>
                  if gin x6 8 = true then
                    gbm (m2 u7 27 x6.toNatClampNeg 0) fun u8 =>
                    f_M_open_176 gN u8 x6 0
                  else none
                else none
              else none
            else none
          else none
        else none
      else none
    else none
  else
    some (0, σ)
set_option maxRecDepth 100000 in
theorem m_M_open_98 {κ : GC} {Γ : GA} (hX : Gx κ Γ 8 b_M_open "PaneScreenModel" r_M_open (some .int)) (σ : Mem) (x1 : Int32) (x2 : Int32) (x3 : Int32) (x4 : Int32) (x5 : Int32) (x6 : Int32) : GG κ Γ 8 (gQ gqi κ Γ r_M_open) 0 0 σ [some (.ref (Γ.2.1 19)), some (.int x1), some (.int x2), some (.int x3), some (.int x4), some (.int x5), some (.int x6), none] 98 [] (f_M_open_98 σ x1 x2 x3 x4 x5 x6) := by
  unfold f_M_open_98
  refine g_aload_n hX 0 d_M_open_98 (n := 99) rfl rfl rfl ?_
  refine g_geti hX gf_M_75 d_M_open_99 (n := 102) rfl sh_19 rfl ?_
  refine g_if_le hX 107 d_M_open_102 (n := 105) rfl rfl ?_ ?_
  · refine g_aload_n hX 0 d_M_open_107 (n := 108) rfl rfl rfl ?_
    refine g_geta hX 21 gf_M_13 d_M_open_108 (n := 111) rfl sh_19 rfl ?_
    refine g_iload hX d_M_open_111 (n := 113) rfl rfl ?_
    refine g_iconst hX 1 d_M_open_113 (n := 114) rfl k_iconst_1 ?_
    refine g_zast hX d_M_open_114 (n := 115) rfl sh_21 rfl ?_
    refine g_mem (fun u1 => ?_)
    refine g_aload_n hX 0 d_M_open_115 (n := 116) rfl rfl rfl ?_
    refine g_geta hX 28 gf_M_35 d_M_open_116 (n := 119) rfl sh_19 rfl ?_
    refine g_iload hX d_M_open_119 (n := 121) rfl rfl ?_
    refine g_iload hX d_M_open_121 (n := 123) rfl rfl ?_
    refine g_iast hX d_M_open_123 (n := 124) rfl sh_28 ?_
    refine g_mem (fun u2 => ?_)
    refine g_aload_n hX 0 d_M_open_124 (n := 125) rfl rfl rfl ?_
    refine g_geta hX 22 gf_M_17 d_M_open_125 (n := 128) rfl sh_19 rfl ?_
    refine g_iload hX d_M_open_128 (n := 130) rfl rfl ?_
    refine g_iload_n hX 1 d_M_open_130 (n := 131) rfl rfl rfl ?_
    refine g_iast hX d_M_open_131 (n := 132) rfl sh_22 ?_
    refine g_mem (fun u3 => ?_)
    refine g_aload_n hX 0 d_M_open_132 (n := 133) rfl rfl rfl ?_
    refine g_geta hX 23 gf_M_20 d_M_open_133 (n := 136) rfl sh_19 rfl ?_
    refine g_iload hX d_M_open_136 (n := 138) rfl rfl ?_
    refine g_iload_n hX 2 d_M_open_138 (n := 139) rfl rfl rfl ?_
    refine g_iast hX d_M_open_139 (n := 140) rfl sh_23 ?_
    refine g_mem (fun u4 => ?_)
    refine g_aload_n hX 0 d_M_open_140 (n := 141) rfl rfl rfl ?_
    refine g_geta hX 24 gf_M_23 d_M_open_141 (n := 144) rfl sh_19 rfl ?_
    refine g_iload hX d_M_open_144 (n := 146) rfl rfl ?_
    refine g_iload_n hX 3 d_M_open_146 (n := 147) rfl rfl rfl ?_
    refine g_iast hX d_M_open_147 (n := 148) rfl sh_24 ?_
    refine g_mem (fun u5 => ?_)
    refine g_aload_n hX 0 d_M_open_148 (n := 149) rfl rfl rfl ?_
    refine g_geta hX 25 gf_M_26 d_M_open_149 (n := 152) rfl sh_19 rfl ?_
    refine g_iload hX d_M_open_152 (n := 154) rfl rfl ?_
    refine g_iload hX d_M_open_154 (n := 156) rfl rfl ?_
    refine g_iast hX d_M_open_156 (n := 157) rfl sh_25 ?_
    refine g_mem (fun u6 => ?_)
    refine g_aload_n hX 0 d_M_open_157 (n := 158) rfl rfl rfl ?_
    refine g_geta hX 26 gf_M_29 d_M_open_158 (n := 161) rfl sh_19 rfl ?_
    refine g_iload hX d_M_open_161 (n := 163) rfl rfl ?_
    refine g_iconst hX 0 d_M_open_163 (n := 164) rfl k_iconst_0 ?_
    refine g_iast hX d_M_open_164 (n := 165) rfl sh_26 ?_
    refine g_mem (fun u7 => ?_)
    refine g_aload_n hX 0 d_M_open_165 (n := 166) rfl rfl rfl ?_
    refine g_geta hX 27 gf_M_32 d_M_open_166 (n := 169) rfl sh_19 rfl ?_
    refine g_iload hX d_M_open_169 (n := 171) rfl rfl ?_
    refine g_iconst hX 0 d_M_open_171 (n := 172) rfl k_iconst_0 ?_
    refine g_iast hX d_M_open_172 (n := 173) rfl sh_27 ?_
    refine g_mem (fun u8 => ?_)
    refine g_iconst hX 0 d_M_open_173 (n := 174) rfl k_iconst_0 ?_
    refine g_istore hX [_, _, _, _, _, _, _, _] d_M_open_174 (n := 176) rfl (by decide) rfl ?_
    exact (g_sub (lw := [some (.ref (Γ.2.1 19)), none, none, none, none, none, some (.int x6), some (.int 0)]) (And.intro rfl (And.intro rfl (And.intro rfl (True.intro)))) (m_M_open_176 hX gN u8 x6 0))
  · refine g_iconst hX 0 d_M_open_105 (n := 106) rfl k_iconst_0 ?_
    exact g_iret hX d_M_open_106 (by decide) (by decide)
def f_M_open_93 (σ : Mem) (x1 : Int32) (x2 : Int32) (x3 : Int32) (x4 : Int32) (x5 : Int32) (x6 : Int32) : Option (Int32 × Mem) :=
  gbm (m2 σ 19 0 2) fun u1 =>
  f_M_open_98 u1 x1 x2 x3 x4 x5 x6
set_option maxRecDepth 100000 in
theorem m_M_open_93 {κ : GC} {Γ : GA} (hX : Gx κ Γ 8 b_M_open "PaneScreenModel" r_M_open (some .int)) (σ : Mem) (x1 : Int32) (x2 : Int32) (x3 : Int32) (x4 : Int32) (x5 : Int32) (x6 : Int32) : GG κ Γ 8 (gQ gqi κ Γ r_M_open) 0 0 σ [some (.ref (Γ.2.1 19)), some (.int x1), some (.int x2), some (.int x3), some (.int x4), some (.int x5), some (.int x6), none] 93 [] (f_M_open_93 σ x1 x2 x3 x4 x5 x6) := by
  unfold f_M_open_93
  refine g_aload_n hX 0 d_M_open_93 (n := 94) rfl rfl rfl ?_
  refine g_iconst hX 2 d_M_open_94 (n := 95) rfl k_iconst_2 ?_
  refine g_puti hX gp_M_75 d_M_open_95 (n := 98) rfl sh_19 rfl ?_
  refine g_mem (fun u1 => ?_)
  exact (m_M_open_98 hX u1 x1 x2 x3 x4 x5 x6)
def f_M_open_66 (σ : Mem) (x1 : Int32) (x2 : Int32) (x3 : Int32) (x4 : Int32) (s0 : Int32) : Option (Int32 × Mem) :=
  gb (f_M_firstClosed σ) fun r2 u1 =>
  if (u1 19 0) = 0 then
    if r2 = 8 then
      f_M_open_93 u1 x1 x2 x3 x4 s0 r2
    else
      if 0 ≤ s0 then
        f_M_open_98 u1 x1 x2 x3 x4 s0 r2
      else
        f_M_open_93 u1 x1 x2 x3 x4 s0 r2
  else
    f_M_open_98 u1 x1 x2 x3 x4 s0 r2
set_option maxRecDepth 100000 in
theorem m_M_open_66 {κ : GC} {Γ : GA} (hX : Gx κ Γ 8 b_M_open "PaneScreenModel" r_M_open (some .int)) (σ : Mem) (x1 : Int32) (x2 : Int32) (x3 : Int32) (x4 : Int32) (s0 : Int32) : GG κ Γ 8 (gQ gqi κ Γ r_M_open) 0 0 σ [some (.ref (Γ.2.1 19)), some (.int x1), some (.int x2), some (.int x3), some (.int x4), none, none, none] 66 [.int s0] (f_M_open_66 σ x1 x2 x3 x4 s0) := by
  unfold f_M_open_66
  refine g_istore hX [_, _, _, _, _, _, _, _] d_M_open_66 (n := 68) rfl (by decide) rfl ?_
  refine g_aload_n hX 0 d_M_open_68 (n := 69) rfl rfl rfl ?_
  refine g_cVi hX [] rfl 0 0 (c_M_firstClosed _ Γ σ) gw_M_116 rfl sh_19 rfl d_M_open_69 (n := 72) rfl ⟨by decide, by decide⟩ ⟨by decide, by decide⟩ (Nat.le_of_ble_eq_true rfl) rfl rfl (fun r2 u1 => ?_)
  refine g_istore hX [_, _, _, _, _, _, _, _] d_M_open_72 (n := 74) rfl (by decide) rfl ?_
  refine g_aload_n hX 0 d_M_open_74 (n := 75) rfl rfl rfl ?_
  refine g_geti hX gf_M_75 d_M_open_75 (n := 78) rfl sh_19 rfl ?_
  refine g_if_ne hX 98 d_M_open_78 (n := 81) rfl rfl ?_ ?_
  · exact (m_M_open_98 hX u1 x1 x2 x3 x4 s0 r2)
  · refine g_iload hX d_M_open_81 (n := 83) rfl rfl ?_
    refine g_bipush hX 8 d_M_open_83 (n := 85) rfl k_bipush_8 ?_
    refine g_icmp_eq hX 93 d_M_open_85 (n := 88) rfl rfl ?_ ?_
    · exact (m_M_open_93 hX u1 x1 x2 x3 x4 s0 r2)
    · refine g_iload hX d_M_open_88 (n := 90) rfl rfl ?_
      refine g_if_ge hX 98 d_M_open_90 (n := 93) rfl rfl ?_ ?_
      · exact (m_M_open_98 hX u1 x1 x2 x3 x4 s0 r2)
      · exact (m_M_open_93 hX u1 x1 x2 x3 x4 s0 r2)
def f_M_open_44 (σ : Mem) (x1 : Int32) (x2 : Int32) (x3 : Int32) (x4 : Int32) (s0 : Int32) : Option (Int32 × Mem) :=
  gbm (m2 σ 19 0 s0) fun u1 =>
  if (u1 19 0) ≤ 0 then
    gb (f_M_stretch (x3 * x4) u1) fun r3 u2 =>
    f_M_open_66 u2 x1 x2 x3 x4 r3
  else
    f_M_open_66 u1 x1 x2 x3 x4 (-1)
set_option maxRecDepth 100000 in
theorem m_M_open_44 {κ : GC} {Γ : GA} (hX : Gx κ Γ 8 b_M_open "PaneScreenModel" r_M_open (some .int)) (σ : Mem) (x1 : Int32) (x2 : Int32) (x3 : Int32) (x4 : Int32) (s0 : Int32) : GG κ Γ 8 (gQ gqi κ Γ r_M_open) 0 0 σ [some (.ref (Γ.2.1 19)), some (.int x1), some (.int x2), some (.int x3), some (.int x4), none, none, none] 44 [.int s0, .ref (Γ.2.1 19)] (f_M_open_44 σ x1 x2 x3 x4 s0) := by
  unfold f_M_open_44
  refine g_puti hX gp_M_75 d_M_open_44 (n := 47) rfl sh_19 rfl ?_
  refine g_mem (fun u1 => ?_)
  refine g_aload_n hX 0 d_M_open_47 (n := 48) rfl rfl rfl ?_
  refine g_geti hX gf_M_75 d_M_open_48 (n := 51) rfl sh_19 rfl ?_
  refine g_if_le hX 58 d_M_open_51 (n := 54) rfl rfl ?_ ?_
  · refine g_aload_n hX 0 d_M_open_58 (n := 59) rfl rfl rfl ?_
    refine g_iload_n hX 3 d_M_open_59 (n := 60) rfl rfl rfl ?_
    refine g_iload hX d_M_open_60 (n := 62) rfl rfl ?_
    refine g_imul hX d_M_open_62 (n := 63) rfl ?_
    refine g_cVi hX [_] rfl 0 0 (c_M_stretch _ Γ (x3 * x4) u1) gw_M_112 rfl sh_19 rfl d_M_open_63 (n := 66) rfl ⟨by decide, by decide⟩ ⟨by decide, by decide⟩ (Nat.le_of_ble_eq_true rfl) rfl rfl (fun r3 u2 => ?_)
    exact (m_M_open_66 hX u2 x1 x2 x3 x4 r3)
  · refine g_iconst hX (-1) d_M_open_54 (n := 55) rfl k_iconst_m1 ?_
    refine g_goto hX 66 d_M_open_55 rfl ?_
    exact (m_M_open_66 hX u1 x1 x2 x3 x4 (-1))
def f_M_open_43 (σ : Mem) (x1 : Int32) (x2 : Int32) (x3 : Int32) (x4 : Int32) : Option (Int32 × Mem) :=
  f_M_open_44 σ x1 x2 x3 x4 1
set_option maxRecDepth 100000 in
theorem m_M_open_43 {κ : GC} {Γ : GA} (hX : Gx κ Γ 8 b_M_open "PaneScreenModel" r_M_open (some .int)) (σ : Mem) (x1 : Int32) (x2 : Int32) (x3 : Int32) (x4 : Int32) : GG κ Γ 8 (gQ gqi κ Γ r_M_open) 0 0 σ [some (.ref (Γ.2.1 19)), some (.int x1), some (.int x2), some (.int x3), some (.int x4), none, none, none] 43 [.ref (Γ.2.1 19)] (f_M_open_43 σ x1 x2 x3 x4) := by
  unfold f_M_open_43
  refine g_iconst hX 1 d_M_open_43 (n := 44) rfl k_iconst_1 ?_
  exact (m_M_open_44 hX σ x1 x2 x3 x4 1)
def f_M_open_0 (σ : Mem) (x1 : Int32) (x2 : Int32) (x3 : Int32) (x4 : Int32) : Option (Int32 × Mem) :=
  gb (f_M_near x1 σ) fun r2 u1 =>
  if r2 = 0 then
    f_M_open_43 u1 x1 x2 x3 x4
  else
    gb (f_M_near x2 u1) fun r4 u3 =>
    if r4 = 0 then
      f_M_open_43 u3 x1 x2 x3 x4
    else
      if x3 < 1 then
        f_M_open_43 u3 x1 x2 x3 x4
      else
        if 24 < x3 then
          f_M_open_43 u3 x1 x2 x3 x4
        else
          if x4 < 1 then
            f_M_open_43 u3 x1 x2 x3 x4
          else
            if 16 < x4 then
              f_M_open_43 u3 x1 x2 x3 x4
            else
              f_M_open_44 u3 x1 x2 x3 x4 0
set_option maxRecDepth 100000 in
theorem m_M_open_0 {κ : GC} {Γ : GA} (hX : Gx κ Γ 8 b_M_open "PaneScreenModel" r_M_open (some .int)) (σ : Mem) (x1 : Int32) (x2 : Int32) (x3 : Int32) (x4 : Int32) : GG κ Γ 8 (gQ gqi κ Γ r_M_open) 0 0 σ [some (.ref (Γ.2.1 19)), some (.int x1), some (.int x2), some (.int x3), some (.int x4), none, none, none] 0 [] (f_M_open_0 σ x1 x2 x3 x4) := by
  unfold f_M_open_0
  refine g_aload_n hX 0 d_M_open_0 (n := 1) rfl rfl rfl ?_
  refine g_iload_n hX 1 d_M_open_1 (n := 2) rfl rfl rfl ?_
  refine g_cSi hX [_] rfl 0 0 (c_M_near _ Γ x1 σ) gw_M_109 rfl d_M_open_2 (n := 5) rfl ⟨by decide, by decide⟩ ⟨by decide, by decide⟩ (Nat.le_of_ble_eq_true rfl) rfl rfl (fun r2 u1 => ?_)
  refine g_if_eq hX 43 d_M_open_5 (n := 8) rfl rfl ?_ ?_
  · exact (m_M_open_43 hX u1 x1 x2 x3 x4)
  · refine g_iload_n hX 2 d_M_open_8 (n := 9) rfl rfl rfl ?_
    refine g_cSi hX [_] rfl 0 0 (c_M_near _ Γ x2 u1) gw_M_109 rfl d_M_open_9 (n := 12) rfl ⟨by decide, by decide⟩ ⟨by decide, by decide⟩ (Nat.le_of_ble_eq_true rfl) rfl rfl (fun r4 u3 => ?_)
    refine g_if_eq hX 43 d_M_open_12 (n := 15) rfl rfl ?_ ?_
    · exact (m_M_open_43 hX u3 x1 x2 x3 x4)
    · refine g_iload_n hX 3 d_M_open_15 (n := 16) rfl rfl rfl ?_
      refine g_iconst hX 1 d_M_open_16 (n := 17) rfl k_iconst_1 ?_
      refine g_icmp_lt hX 43 d_M_open_17 (n := 20) rfl rfl ?_ ?_
      · exact (m_M_open_43 hX u3 x1 x2 x3 x4)
      · refine g_iload_n hX 3 d_M_open_20 (n := 21) rfl rfl rfl ?_
        refine g_bipush hX 24 d_M_open_21 (n := 23) rfl k_bipush_24 ?_
        refine g_icmp_gt hX 43 d_M_open_23 (n := 26) rfl rfl ?_ ?_
        · exact (m_M_open_43 hX u3 x1 x2 x3 x4)
        · refine g_iload hX d_M_open_26 (n := 28) rfl rfl ?_
          refine g_iconst hX 1 d_M_open_28 (n := 29) rfl k_iconst_1 ?_
          refine g_icmp_lt hX 43 d_M_open_29 (n := 32) rfl rfl ?_ ?_
          · exact (m_M_open_43 hX u3 x1 x2 x3 x4)
          · refine g_iload hX d_M_open_32 (n := 34) rfl rfl ?_
            refine g_bipush hX 16 d_M_open_34 (n := 36) rfl k_bipush_16 ?_
            refine g_icmp_gt hX 43 d_M_open_36 (n := 39) rfl rfl ?_ ?_
            · exact (m_M_open_43 hX u3 x1 x2 x3 x4)
            · refine g_iconst hX 0 d_M_open_39 (n := 40) rfl k_iconst_0 ?_
              refine g_goto hX 44 d_M_open_40 rfl ?_
              exact (m_M_open_44 hX u3 x1 x2 x3 x4 0)
def f_M_open (x1 : Int32) (x2 : Int32) (x3 : Int32) (x4 : Int32) (σ : Mem) : Option (Int32 × Mem) := f_M_open_0 σ x1 x2 x3 x4
theorem c_M_open (l : Launch) (Γ : GA) (x1 : Int32) (x2 : Int32) (x3 : Int32) (x4 : Int32) (σ : Mem) : gM gqi l y_M_open b_M_open 8 (some .int) r_M_open [.ref (Γ.2.1 19), .int x1, .int x2, .int x3, .int x4] Γ σ (f_M_open x1 x2 x3 x4 σ) :=
  gM.of [some (.ref (Γ.2.1 19)), some (.int x1), some (.int x2), some (.int x3), some (.int x4), none, none, none] (by decide) (Nat.le_of_ble_eq_true rfl) rfl rfl (fun κ hX _ => m_M_open_0 hX σ x1 x2 x3 x4)
/-! M_foremost -/
theorem d_M_foremost_0 : decode b_M_foremost 0 = .ok (.iconst (-1), 1) := by decide +kernel
theorem d_M_foremost_1 : decode b_M_foremost 1 = .ok (.istore_n 1, 1) := by decide +kernel
theorem d_M_foremost_2 : decode b_M_foremost 2 = .ok (.iconst 0, 1) := by decide +kernel
theorem d_M_foremost_3 : decode b_M_foremost 3 = .ok (.istore_n 2, 1) := by decide +kernel
theorem d_M_foremost_4 : decode b_M_foremost 4 = .ok (.iload_n 2, 1) := by decide +kernel
theorem d_M_foremost_5 : decode b_M_foremost 5 = .ok (.bipush 8, 2) := by decide +kernel
theorem d_M_foremost_7 : decode b_M_foremost 7 = .ok (.if_icmp .ge 43, 3) := by decide +kernel
theorem d_M_foremost_10 : decode b_M_foremost 10 = .ok (.aload_n 0, 1) := by decide +kernel
theorem d_M_foremost_11 : decode b_M_foremost 11 = .ok (.getfield 13, 3) := by decide +kernel
theorem d_M_foremost_14 : decode b_M_foremost 14 = .ok (.iload_n 2, 1) := by decide +kernel
theorem d_M_foremost_15 : decode b_M_foremost 15 = .ok (.baload, 1) := by decide +kernel
theorem d_M_foremost_16 : decode b_M_foremost 16 = .ok (.ifCond .eq 26, 3) := by decide +kernel
theorem d_M_foremost_19 : decode b_M_foremost 19 = .ok (.iload_n 1, 1) := by decide +kernel
theorem d_M_foremost_20 : decode b_M_foremost 20 = .ok (.ifCond .lt 18, 3) := by decide +kernel
theorem d_M_foremost_23 : decode b_M_foremost 23 = .ok (.aload_n 0, 1) := by decide +kernel
theorem d_M_foremost_24 : decode b_M_foremost 24 = .ok (.getfield 38, 3) := by decide +kernel
theorem d_M_foremost_27 : decode b_M_foremost 27 = .ok (.iload_n 2, 1) := by decide +kernel
theorem d_M_foremost_28 : decode b_M_foremost 28 = .ok (.iaload, 1) := by decide +kernel
theorem d_M_foremost_29 : decode b_M_foremost 29 = .ok (.aload_n 0, 1) := by decide +kernel
theorem d_M_foremost_30 : decode b_M_foremost 30 = .ok (.getfield 38, 3) := by decide +kernel
theorem d_M_foremost_33 : decode b_M_foremost 33 = .ok (.iload_n 1, 1) := by decide +kernel
theorem d_M_foremost_34 : decode b_M_foremost 34 = .ok (.iaload, 1) := by decide +kernel
theorem d_M_foremost_35 : decode b_M_foremost 35 = .ok (.if_icmp .ge 7, 3) := by decide +kernel
theorem d_M_foremost_38 : decode b_M_foremost 38 = .ok (.iload_n 2, 1) := by decide +kernel
theorem d_M_foremost_39 : decode b_M_foremost 39 = .ok (.goto 4, 3) := by decide +kernel
theorem d_M_foremost_42 : decode b_M_foremost 42 = .ok (.iload_n 1, 1) := by decide +kernel
theorem d_M_foremost_43 : decode b_M_foremost 43 = .ok (.istore_n 1, 1) := by decide +kernel
theorem d_M_foremost_44 : decode b_M_foremost 44 = .ok (.iinc 2 1, 3) := by decide +kernel
theorem d_M_foremost_47 : decode b_M_foremost 47 = .ok (.goto (-43), 3) := by decide +kernel
theorem d_M_foremost_50 : decode b_M_foremost 50 = .ok (.iload_n 1, 1) := by decide +kernel
theorem d_M_foremost_51 : decode b_M_foremost 51 = .ok (.ireturn, 1) := by decide +kernel
abbrev r_M_foremost : Room := ⟨0, 0, 0, 0⟩
def f_M_foremost_43 (K4 : Mem → Int32 → Int32 → Option (Int32 × Mem)) (σ : Mem) (x2 : Int32) (s0 : Int32) : Option (Int32 × Mem) :=
  K4 σ s0 (x2 + 1)
set_option maxRecDepth 100000 in
theorem m_M_foremost_43 {κ : GC} {Γ : GA} (hX : Gx κ Γ 3 b_M_foremost "PaneScreenModel" r_M_foremost (some .int)) (K4 : Mem → Int32 → Int32 → Option (Int32 × Mem)) (hK4 : ∀ (σ : Mem) (x1 : Int32) (x2 : Int32), GG κ Γ 3 (gQ gqi κ Γ r_M_foremost) 0 0 σ [some (.ref (Γ.2.1 19)), some (.int x1), some (.int x2)] 4 [] (K4 σ x1 x2)) (σ : Mem) (x2 : Int32) (s0 : Int32) : GG κ Γ 3 (gQ gqi κ Γ r_M_foremost) 0 0 σ [some (.ref (Γ.2.1 19)), none, some (.int x2)] 43 [.int s0] (f_M_foremost_43 K4 σ x2 s0) := by
  unfold f_M_foremost_43
  refine g_istore_n hX 1 [_, _, _] d_M_foremost_43 (n := 44) rfl rfl (by decide) rfl ?_
  refine g_iinc hX 1 _ [_, _, _] d_M_foremost_44 (n := 47) rfl rfl k_iconst_1 rfl (by decide) rfl ?_
  refine g_goto hX 4 d_M_foremost_47 rfl ?_
  exact (hK4 σ s0 (x2 + 1))
def f_M_foremost_42 (K4 : Mem → Int32 → Int32 → Option (Int32 × Mem)) (σ : Mem) (x1 : Int32) (x2 : Int32) : Option (Int32 × Mem) :=
  f_M_foremost_43 K4 σ x2 x1
set_option maxRecDepth 100000 in
theorem m_M_foremost_42 {κ : GC} {Γ : GA} (hX : Gx κ Γ 3 b_M_foremost "PaneScreenModel" r_M_foremost (some .int)) (K4 : Mem → Int32 → Int32 → Option (Int32 × Mem)) (hK4 : ∀ (σ : Mem) (x1 : Int32) (x2 : Int32), GG κ Γ 3 (gQ gqi κ Γ r_M_foremost) 0 0 σ [some (.ref (Γ.2.1 19)), some (.int x1), some (.int x2)] 4 [] (K4 σ x1 x2)) (σ : Mem) (x1 : Int32) (x2 : Int32) : GG κ Γ 3 (gQ gqi κ Γ r_M_foremost) 0 0 σ [some (.ref (Γ.2.1 19)), some (.int x1), some (.int x2)] 42 [] (f_M_foremost_42 K4 σ x1 x2) := by
  unfold f_M_foremost_42
  refine g_iload_n hX 1 d_M_foremost_42 (n := 43) rfl rfl rfl ?_
  exact (g_sub (lw := [some (.ref (Γ.2.1 19)), none, some (.int x2)]) (And.intro rfl (And.intro rfl (True.intro))) (m_M_foremost_43 hX K4 hK4 σ x2 x1))
def f_M_foremost_38 (K4 : Mem → Int32 → Int32 → Option (Int32 × Mem)) (σ : Mem) (x2 : Int32) : Option (Int32 × Mem) :=
  f_M_foremost_43 K4 σ x2 x2
set_option maxRecDepth 100000 in
theorem m_M_foremost_38 {κ : GC} {Γ : GA} (hX : Gx κ Γ 3 b_M_foremost "PaneScreenModel" r_M_foremost (some .int)) (K4 : Mem → Int32 → Int32 → Option (Int32 × Mem)) (hK4 : ∀ (σ : Mem) (x1 : Int32) (x2 : Int32), GG κ Γ 3 (gQ gqi κ Γ r_M_foremost) 0 0 σ [some (.ref (Γ.2.1 19)), some (.int x1), some (.int x2)] 4 [] (K4 σ x1 x2)) (σ : Mem) (x2 : Int32) : GG κ Γ 3 (gQ gqi κ Γ r_M_foremost) 0 0 σ [some (.ref (Γ.2.1 19)), none, some (.int x2)] 38 [] (f_M_foremost_38 K4 σ x2) := by
  unfold f_M_foremost_38
  refine g_iload_n hX 2 d_M_foremost_38 (n := 39) rfl rfl rfl ?_
  refine g_goto hX 43 d_M_foremost_39 rfl ?_
  exact (m_M_foremost_43 hX K4 hK4 σ x2 x2)
def f_M_foremost_4B (K4 : Mem → Int32 → Int32 → Option (Int32 × Mem)) (σ : Mem) (x1 : Int32) (x2 : Int32) : Option (Int32 × Mem) :=
  if 8 ≤ x2 then
    some (x1, σ)
  else
    if gin x2 8 = true then
      if (σ 21 x2.toNatClampNeg) = 0 then
        f_M_foremost_42 K4 σ x1 x2
      else
        if x1 < 0 then
          f_M_foremost_38 K4 σ x2
        else
          if gin x2 8 = true then
            if gin x1 8 = true then
              if (σ 29 x1.toNatClampNeg) ≤ (σ 29 x2.toNatClampNeg) then
                f_M_foremost_42 K4 σ x1 x2
              else
                f_M_foremost_38 K4 σ x2
            else none
          else none
    else none
set_option maxRecDepth 100000 in
theorem m_M_foremost_4B {κ : GC} {Γ : GA} (hX : Gx κ Γ 3 b_M_foremost "PaneScreenModel" r_M_foremost (some .int)) (K4 : Mem → Int32 → Int32 → Option (Int32 × Mem)) (hK4 : ∀ (σ : Mem) (x1 : Int32) (x2 : Int32), GG κ Γ 3 (gQ gqi κ Γ r_M_foremost) 0 0 σ [some (.ref (Γ.2.1 19)), some (.int x1), some (.int x2)] 4 [] (K4 σ x1 x2)) (σ : Mem) (x1 : Int32) (x2 : Int32) : GG κ Γ 3 (gQ gqi κ Γ r_M_foremost) 0 0 σ [some (.ref (Γ.2.1 19)), some (.int x1), some (.int x2)] 4 [] (f_M_foremost_4B K4 σ x1 x2) := by
  unfold f_M_foremost_4B
  refine g_iload_n hX 2 d_M_foremost_4 (n := 5) rfl rfl rfl ?_
  refine g_bipush hX 8 d_M_foremost_5 (n := 7) rfl k_bipush_8 ?_
  refine g_icmp_ge hX 50 d_M_foremost_7 (n := 10) rfl rfl ?_ ?_
  · refine g_iload_n hX 1 d_M_foremost_50 (n := 51) rfl rfl rfl ?_
    exact g_iret hX d_M_foremost_51 (by decide) (by decide)
  · refine g_aload_n hX 0 d_M_foremost_10 (n := 11) rfl rfl rfl ?_
    refine g_geta hX 21 gf_M_13 d_M_foremost_11 (n := 14) rfl sh_19 rfl ?_
    refine g_iload_n hX 2 d_M_foremost_14 (n := 15) rfl rfl rfl ?_
    refine g_zald hX d_M_foremost_15 (n := 16) rfl sh_21 ?_
    refine g_if_eq hX 42 d_M_foremost_16 (n := 19) rfl rfl ?_ ?_
    · exact (m_M_foremost_42 hX K4 hK4 σ x1 x2)
    · refine g_iload_n hX 1 d_M_foremost_19 (n := 20) rfl rfl rfl ?_
      refine g_if_lt hX 38 d_M_foremost_20 (n := 23) rfl rfl ?_ ?_
      · exact (g_sub (lw := [some (.ref (Γ.2.1 19)), none, some (.int x2)]) (And.intro rfl (And.intro rfl (True.intro))) (m_M_foremost_38 hX K4 hK4 σ x2))
      · refine g_aload_n hX 0 d_M_foremost_23 (n := 24) rfl rfl rfl ?_
        refine g_geta hX 29 gf_M_38 d_M_foremost_24 (n := 27) rfl sh_19 rfl ?_
        refine g_iload_n hX 2 d_M_foremost_27 (n := 28) rfl rfl rfl ?_
        refine g_iald hX d_M_foremost_28 (n := 29) rfl sh_29 ?_
        refine g_aload_n hX 0 d_M_foremost_29 (n := 30) rfl rfl rfl ?_
        refine g_geta hX 29 gf_M_38 d_M_foremost_30 (n := 33) rfl sh_19 rfl ?_
        refine g_iload_n hX 1 d_M_foremost_33 (n := 34) rfl rfl rfl ?_
        refine g_iald hX d_M_foremost_34 (n := 35) rfl sh_29 ?_
        refine g_icmp_ge hX 42 d_M_foremost_35 (n := 38) rfl rfl ?_ ?_
        · exact (m_M_foremost_42 hX K4 hK4 σ x1 x2)
        · exact (g_sub (lw := [some (.ref (Γ.2.1 19)), none, some (.int x2)]) (And.intro rfl (And.intro rfl (True.intro))) (m_M_foremost_38 hX K4 hK4 σ x2))
def f_M_foremost_4 (n : Nat) : Mem → Int32 → Int32 → Option (Int32 × Mem) := gfix (fun _ _ _ => none) (fun K4 => f_M_foremost_4B K4) n
theorem m_M_foremost_4 {κ : GC} {Γ : GA} (hX : Gx κ Γ 3 b_M_foremost "PaneScreenModel" r_M_foremost (some .int)) (n : Nat) : ∀ (σ : Mem) (x1 : Int32) (x2 : Int32), GG κ Γ 3 (gQ gqi κ Γ r_M_foremost) 0 0 σ [some (.ref (Γ.2.1 19)), some (.int x1), some (.int x2)] 4 [] (f_M_foremost_4 n σ x1 x2) := by
  induction n with
  | zero => intros; exact g_none
  | succ n ih => intro σ x1 x2; exact m_M_foremost_4B hX (f_M_foremost_4 n) ih σ x1 x2
def f_M_foremost_0 (σ : Mem) : Option (Int32 × Mem) :=
  f_M_foremost_4 gN σ (-1) 0
set_option maxRecDepth 100000 in
theorem m_M_foremost_0 {κ : GC} {Γ : GA} (hX : Gx κ Γ 3 b_M_foremost "PaneScreenModel" r_M_foremost (some .int)) (σ : Mem) : GG κ Γ 3 (gQ gqi κ Γ r_M_foremost) 0 0 σ [some (.ref (Γ.2.1 19)), none, none] 0 [] (f_M_foremost_0 σ) := by
  unfold f_M_foremost_0
  refine g_iconst hX (-1) d_M_foremost_0 (n := 1) rfl k_iconst_m1 ?_
  refine g_istore_n hX 1 [_, _, _] d_M_foremost_1 (n := 2) rfl rfl (by decide) rfl ?_
  refine g_iconst hX 0 d_M_foremost_2 (n := 3) rfl k_iconst_0 ?_
  refine g_istore_n hX 2 [_, _, _] d_M_foremost_3 (n := 4) rfl rfl (by decide) rfl ?_
  exact (m_M_foremost_4 hX gN σ (-1) 0)
def f_M_foremost (σ : Mem) : Option (Int32 × Mem) := f_M_foremost_0 σ
theorem c_M_foremost (l : Launch) (Γ : GA) (σ : Mem) : gM gqi l y_M_foremost b_M_foremost 3 (some .int) r_M_foremost [.ref (Γ.2.1 19)] Γ σ (f_M_foremost σ) :=
  gM.of [some (.ref (Γ.2.1 19)), none, none] (by decide) (Nat.le_of_ble_eq_true rfl) rfl rfl (fun κ hX _ => m_M_foremost_0 hX σ)
/-! M_moveEvent -/
theorem d_M_moveEvent_0 : decode b_M_moveEvent 0 = .ok (.aload_n 0, 1) := by decide +kernel
theorem d_M_moveEvent_1 : decode b_M_moveEvent 1 = .ok (.getfield 63, 3) := by decide +kernel
theorem d_M_moveEvent_4 : decode b_M_moveEvent 4 = .ok (.iload_n 2, 1) := by decide +kernel
theorem d_M_moveEvent_5 : decode b_M_moveEvent 5 = .ok (.aload_n 0, 1) := by decide +kernel
theorem d_M_moveEvent_6 : decode b_M_moveEvent 6 = .ok (.getfield 63, 3) := by decide +kernel
theorem d_M_moveEvent_9 : decode b_M_moveEvent 9 = .ok (.iload_n 1, 1) := by decide +kernel
theorem d_M_moveEvent_10 : decode b_M_moveEvent 10 = .ok (.iaload, 1) := by decide +kernel
theorem d_M_moveEvent_11 : decode b_M_moveEvent 11 = .ok (.iastore, 1) := by decide +kernel
theorem d_M_moveEvent_12 : decode b_M_moveEvent 12 = .ok (.aload_n 0, 1) := by decide +kernel
theorem d_M_moveEvent_13 : decode b_M_moveEvent 13 = .ok (.getfield 66, 3) := by decide +kernel
theorem d_M_moveEvent_16 : decode b_M_moveEvent 16 = .ok (.iload_n 2, 1) := by decide +kernel
theorem d_M_moveEvent_17 : decode b_M_moveEvent 17 = .ok (.aload_n 0, 1) := by decide +kernel
theorem d_M_moveEvent_18 : decode b_M_moveEvent 18 = .ok (.getfield 66, 3) := by decide +kernel
theorem d_M_moveEvent_21 : decode b_M_moveEvent 21 = .ok (.iload_n 1, 1) := by decide +kernel
theorem d_M_moveEvent_22 : decode b_M_moveEvent 22 = .ok (.iaload, 1) := by decide +kernel
theorem d_M_moveEvent_23 : decode b_M_moveEvent 23 = .ok (.iastore, 1) := by decide +kernel
theorem d_M_moveEvent_24 : decode b_M_moveEvent 24 = .ok (.aload_n 0, 1) := by decide +kernel
theorem d_M_moveEvent_25 : decode b_M_moveEvent 25 = .ok (.getfield 69, 3) := by decide +kernel
theorem d_M_moveEvent_28 : decode b_M_moveEvent 28 = .ok (.iload_n 2, 1) := by decide +kernel
theorem d_M_moveEvent_29 : decode b_M_moveEvent 29 = .ok (.aload_n 0, 1) := by decide +kernel
theorem d_M_moveEvent_30 : decode b_M_moveEvent 30 = .ok (.getfield 69, 3) := by decide +kernel
theorem d_M_moveEvent_33 : decode b_M_moveEvent 33 = .ok (.iload_n 1, 1) := by decide +kernel
theorem d_M_moveEvent_34 : decode b_M_moveEvent 34 = .ok (.iaload, 1) := by decide +kernel
theorem d_M_moveEvent_35 : decode b_M_moveEvent 35 = .ok (.iastore, 1) := by decide +kernel
theorem d_M_moveEvent_36 : decode b_M_moveEvent 36 = .ok (.aload_n 0, 1) := by decide +kernel
theorem d_M_moveEvent_37 : decode b_M_moveEvent 37 = .ok (.getfield 72, 3) := by decide +kernel
theorem d_M_moveEvent_40 : decode b_M_moveEvent 40 = .ok (.iload_n 2, 1) := by decide +kernel
theorem d_M_moveEvent_41 : decode b_M_moveEvent 41 = .ok (.aload_n 0, 1) := by decide +kernel
theorem d_M_moveEvent_42 : decode b_M_moveEvent 42 = .ok (.getfield 72, 3) := by decide +kernel
theorem d_M_moveEvent_45 : decode b_M_moveEvent 45 = .ok (.iload_n 1, 1) := by decide +kernel
theorem d_M_moveEvent_46 : decode b_M_moveEvent 46 = .ok (.iaload, 1) := by decide +kernel
theorem d_M_moveEvent_47 : decode b_M_moveEvent 47 = .ok (.iastore, 1) := by decide +kernel
theorem d_M_moveEvent_48 : decode b_M_moveEvent 48 = .ok (.return_, 1) := by decide +kernel
abbrev r_M_moveEvent : Room := ⟨0, 0, 0, 0⟩
def f_M_moveEvent_0 (σ : Mem) (x1 : Int32) (x2 : Int32) : Option Mem :=
  if gin x1 12 = true then
    if gin x2 12 = true then
      gbm (m2 σ 36 x2.toNatClampNeg (σ 36 x1.toNatClampNeg)) fun u1 =>
      if gin x1 12 = true then
        if gin x2 12 = true then
          gbm (m2 u1 37 x2.toNatClampNeg (u1 37 x1.toNatClampNeg)) fun u2 =>
          if gin x1 12 = true then
            if gin x2 12 = true then
              gbm (m2 u2 38 x2.toNatClampNeg (u2 38 x1.toNatClampNeg)) fun u3 =>
              if gin x1 12 = true then
                if gin x2 12 = true then
                  gbm (m2 u3 39 x2.toNatClampNeg (u3 39 x1.toNatClampNeg)) fun u4 =>
                  some u4
                else none
              else none
            else none
          else none
        else none
      else none
    else none
  else none
set_option maxRecDepth 100000 in
theorem m_M_moveEvent_0 {κ : GC} {Γ : GA} (hX : Gx κ Γ 3 b_M_moveEvent "PaneScreenModel" r_M_moveEvent none) (σ : Mem) (x1 : Int32) (x2 : Int32) : GG κ Γ 3 (gQ gqv κ Γ r_M_moveEvent) 0 0 σ [some (.ref (Γ.2.1 19)), some (.int x1), some (.int x2)] 0 [] (f_M_moveEvent_0 σ x1 x2) := by
  unfold f_M_moveEvent_0
  refine g_aload_n hX 0 d_M_moveEvent_0 (n := 1) rfl rfl rfl ?_
  refine g_geta hX 36 gf_M_63 d_M_moveEvent_1 (n := 4) rfl sh_19 rfl ?_
  refine g_iload_n hX 2 d_M_moveEvent_4 (n := 5) rfl rfl rfl ?_
  refine g_aload_n hX 0 d_M_moveEvent_5 (n := 6) rfl rfl rfl ?_
  refine g_geta hX 36 gf_M_63 d_M_moveEvent_6 (n := 9) rfl sh_19 rfl ?_
  refine g_iload_n hX 1 d_M_moveEvent_9 (n := 10) rfl rfl rfl ?_
  refine g_iald hX d_M_moveEvent_10 (n := 11) rfl sh_36 ?_
  refine g_iast hX d_M_moveEvent_11 (n := 12) rfl sh_36 ?_
  refine g_mem (fun u1 => ?_)
  refine g_aload_n hX 0 d_M_moveEvent_12 (n := 13) rfl rfl rfl ?_
  refine g_geta hX 37 gf_M_66 d_M_moveEvent_13 (n := 16) rfl sh_19 rfl ?_
  refine g_iload_n hX 2 d_M_moveEvent_16 (n := 17) rfl rfl rfl ?_
  refine g_aload_n hX 0 d_M_moveEvent_17 (n := 18) rfl rfl rfl ?_
  refine g_geta hX 37 gf_M_66 d_M_moveEvent_18 (n := 21) rfl sh_19 rfl ?_
  refine g_iload_n hX 1 d_M_moveEvent_21 (n := 22) rfl rfl rfl ?_
  refine g_iald hX d_M_moveEvent_22 (n := 23) rfl sh_37 ?_
  refine g_iast hX d_M_moveEvent_23 (n := 24) rfl sh_37 ?_
  refine g_mem (fun u2 => ?_)
  refine g_aload_n hX 0 d_M_moveEvent_24 (n := 25) rfl rfl rfl ?_
  refine g_geta hX 38 gf_M_69 d_M_moveEvent_25 (n := 28) rfl sh_19 rfl ?_
  refine g_iload_n hX 2 d_M_moveEvent_28 (n := 29) rfl rfl rfl ?_
  refine g_aload_n hX 0 d_M_moveEvent_29 (n := 30) rfl rfl rfl ?_
  refine g_geta hX 38 gf_M_69 d_M_moveEvent_30 (n := 33) rfl sh_19 rfl ?_
  refine g_iload_n hX 1 d_M_moveEvent_33 (n := 34) rfl rfl rfl ?_
  refine g_iald hX d_M_moveEvent_34 (n := 35) rfl sh_38 ?_
  refine g_iast hX d_M_moveEvent_35 (n := 36) rfl sh_38 ?_
  refine g_mem (fun u3 => ?_)
  refine g_aload_n hX 0 d_M_moveEvent_36 (n := 37) rfl rfl rfl ?_
  refine g_geta hX 39 gf_M_72 d_M_moveEvent_37 (n := 40) rfl sh_19 rfl ?_
  refine g_iload_n hX 2 d_M_moveEvent_40 (n := 41) rfl rfl rfl ?_
  refine g_aload_n hX 0 d_M_moveEvent_41 (n := 42) rfl rfl rfl ?_
  refine g_geta hX 39 gf_M_72 d_M_moveEvent_42 (n := 45) rfl sh_19 rfl ?_
  refine g_iload_n hX 1 d_M_moveEvent_45 (n := 46) rfl rfl rfl ?_
  refine g_iald hX d_M_moveEvent_46 (n := 47) rfl sh_39 ?_
  refine g_iast hX d_M_moveEvent_47 (n := 48) rfl sh_39 ?_
  refine g_mem (fun u4 => ?_)
  exact g_vret hX d_M_moveEvent_48 (by decide) (by decide)
def f_M_moveEvent (x1 : Int32) (x2 : Int32) (σ : Mem) : Option Mem := f_M_moveEvent_0 σ x1 x2
theorem c_M_moveEvent (l : Launch) (Γ : GA) (x1 : Int32) (x2 : Int32) (σ : Mem) : gM gqv l y_M_moveEvent b_M_moveEvent 3 none r_M_moveEvent [.ref (Γ.2.1 19), .int x1, .int x2] Γ σ (f_M_moveEvent x1 x2 σ) :=
  gM.of [some (.ref (Γ.2.1 19)), some (.int x1), some (.int x2)] (by decide) (Nat.le_of_ble_eq_true rfl) rfl rfl (fun κ hX _ => m_M_moveEvent_0 hX σ x1 x2)
