/-! M_owner -/
theorem d_M_owner_0 : decode b_M_owner 0 = .ok (.iconst (-1), 1) := by decide +kernel
theorem d_M_owner_1 : decode b_M_owner 1 = .ok (.istore_n 3, 1) := by decide +kernel
theorem d_M_owner_2 : decode b_M_owner 2 = .ok (.iconst 0, 1) := by decide +kernel
theorem d_M_owner_3 : decode b_M_owner 3 = .ok (.istore 4, 2) := by decide +kernel
theorem d_M_owner_5 : decode b_M_owner 5 = .ok (.iload 4, 2) := by decide +kernel
theorem d_M_owner_7 : decode b_M_owner 7 = .ok (.bipush 8, 2) := by decide +kernel
theorem d_M_owner_9 : decode b_M_owner 9 = .ok (.if_icmp .ge 85, 3) := by decide +kernel
theorem d_M_owner_12 : decode b_M_owner 12 = .ok (.aload_n 0, 1) := by decide +kernel
theorem d_M_owner_13 : decode b_M_owner 13 = .ok (.getfield 13, 3) := by decide +kernel
theorem d_M_owner_16 : decode b_M_owner 16 = .ok (.iload 4, 2) := by decide +kernel
theorem d_M_owner_18 : decode b_M_owner 18 = .ok (.baload, 1) := by decide +kernel
theorem d_M_owner_19 : decode b_M_owner 19 = .ok (.ifCond .eq 34, 3) := by decide +kernel
theorem d_M_owner_22 : decode b_M_owner 22 = .ok (.aload_n 0, 1) := by decide +kernel
theorem d_M_owner_23 : decode b_M_owner 23 = .ok (.iload 4, 2) := by decide +kernel
theorem d_M_owner_25 : decode b_M_owner 25 = .ok (.iload_n 1, 1) := by decide +kernel
theorem d_M_owner_26 : decode b_M_owner 26 = .ok (.aload_n 0, 1) := by decide +kernel
theorem d_M_owner_27 : decode b_M_owner 27 = .ok (.getfield 17, 3) := by decide +kernel
theorem d_M_owner_30 : decode b_M_owner 30 = .ok (.iload 4, 2) := by decide +kernel
theorem d_M_owner_32 : decode b_M_owner 32 = .ok (.iaload, 1) := by decide +kernel
theorem d_M_owner_33 : decode b_M_owner 33 = .ok (.isub, 1) := by decide +kernel
theorem d_M_owner_34 : decode b_M_owner 34 = .ok (.iload_n 2, 1) := by decide +kernel
theorem d_M_owner_35 : decode b_M_owner 35 = .ok (.aload_n 0, 1) := by decide +kernel
theorem d_M_owner_36 : decode b_M_owner 36 = .ok (.getfield 20, 3) := by decide +kernel
theorem d_M_owner_39 : decode b_M_owner 39 = .ok (.iload 4, 2) := by decide +kernel
theorem d_M_owner_41 : decode b_M_owner 41 = .ok (.iaload, 1) := by decide +kernel
theorem d_M_owner_42 : decode b_M_owner 42 = .ok (.isub, 1) := by decide +kernel
theorem d_M_owner_43 : decode b_M_owner 43 = .ok (.invokevirtual 85, 3) := by decide +kernel
theorem d_M_owner_46 : decode b_M_owner 46 = .ok (.ifCond .eq 7, 3) := by decide +kernel
theorem d_M_owner_49 : decode b_M_owner 49 = .ok (.iconst 1, 1) := by decide +kernel
theorem d_M_owner_50 : decode b_M_owner 50 = .ok (.goto 4, 3) := by decide +kernel
theorem d_M_owner_53 : decode b_M_owner 53 = .ok (.iconst 0, 1) := by decide +kernel
theorem d_M_owner_54 : decode b_M_owner 54 = .ok (.istore 5, 2) := by decide +kernel
theorem d_M_owner_56 : decode b_M_owner 56 = .ok (.iload 5, 2) := by decide +kernel
theorem d_M_owner_58 : decode b_M_owner 58 = .ok (.ifCond .eq 28, 3) := by decide +kernel
theorem d_M_owner_61 : decode b_M_owner 61 = .ok (.iload_n 3, 1) := by decide +kernel
theorem d_M_owner_62 : decode b_M_owner 62 = .ok (.ifCond .lt 19, 3) := by decide +kernel
theorem d_M_owner_65 : decode b_M_owner 65 = .ok (.aload_n 0, 1) := by decide +kernel
theorem d_M_owner_66 : decode b_M_owner 66 = .ok (.getfield 38, 3) := by decide +kernel
theorem d_M_owner_69 : decode b_M_owner 69 = .ok (.iload 4, 2) := by decide +kernel
theorem d_M_owner_71 : decode b_M_owner 71 = .ok (.iaload, 1) := by decide +kernel
theorem d_M_owner_72 : decode b_M_owner 72 = .ok (.aload_n 0, 1) := by decide +kernel
theorem d_M_owner_73 : decode b_M_owner 73 = .ok (.getfield 38, 3) := by decide +kernel
theorem d_M_owner_76 : decode b_M_owner 76 = .ok (.iload_n 3, 1) := by decide +kernel
theorem d_M_owner_77 : decode b_M_owner 77 = .ok (.iaload, 1) := by decide +kernel
theorem d_M_owner_78 : decode b_M_owner 78 = .ok (.if_icmp .ge 8, 3) := by decide +kernel
theorem d_M_owner_81 : decode b_M_owner 81 = .ok (.iload 4, 2) := by decide +kernel
theorem d_M_owner_83 : decode b_M_owner 83 = .ok (.goto 4, 3) := by decide +kernel
theorem d_M_owner_86 : decode b_M_owner 86 = .ok (.iload_n 3, 1) := by decide +kernel
theorem d_M_owner_87 : decode b_M_owner 87 = .ok (.istore_n 3, 1) := by decide +kernel
theorem d_M_owner_88 : decode b_M_owner 88 = .ok (.iinc 4 1, 3) := by decide +kernel
theorem d_M_owner_91 : decode b_M_owner 91 = .ok (.goto (-86), 3) := by decide +kernel
theorem d_M_owner_94 : decode b_M_owner 94 = .ok (.iload_n 3, 1) := by decide +kernel
theorem d_M_owner_95 : decode b_M_owner 95 = .ok (.ireturn, 1) := by decide +kernel
abbrev r_M_owner : Room := ⟨1, 0, 0, 23⟩
def f_M_owner_87 (K5 : Mem → Int32 → Int32 → Int32 → Int32 → Option (Int32 × Mem)) (σ : Mem) (x1 : Int32) (x2 : Int32) (x4 : Int32) (s0 : Int32) : Option (Int32 × Mem) :=
  K5 σ x1 x2 s0 (x4 + 1)
set_option maxRecDepth 100000 in
theorem m_M_owner_87 {κ : GC} {Γ : GA} (hX : Gx κ Γ 6 b_M_owner "PaneScreenModel" r_M_owner (some .int)) (K5 : Mem → Int32 → Int32 → Int32 → Int32 → Option (Int32 × Mem)) (hK5 : ∀ (σ : Mem) (x1 : Int32) (x2 : Int32) (x3 : Int32) (x4 : Int32), GG κ Γ 6 (gQ gqi κ Γ r_M_owner) 0 0 σ [some (.ref (Γ.2.1 19)), some (.int x1), some (.int x2), some (.int x3), some (.int x4), none] 5 [] (K5 σ x1 x2 x3 x4)) (σ : Mem) (x1 : Int32) (x2 : Int32) (x4 : Int32) (s0 : Int32) : GG κ Γ 6 (gQ gqi κ Γ r_M_owner) 0 0 σ [some (.ref (Γ.2.1 19)), some (.int x1), some (.int x2), none, some (.int x4), none] 87 [.int s0] (f_M_owner_87 K5 σ x1 x2 x4 s0) := by
  unfold f_M_owner_87
  refine g_istore_n hX 3 [_, _, _, _, _, _] d_M_owner_87 (n := 88) rfl rfl (by decide) rfl ?_
  refine g_iinc hX 1 _ [_, _, _, _, _, _] d_M_owner_88 (n := 91) rfl rfl k_iconst_1 rfl (by decide) rfl ?_
  refine g_goto hX 5 d_M_owner_91 rfl ?_
  exact (hK5 σ x1 x2 s0 (x4 + 1))
def f_M_owner_86 (K5 : Mem → Int32 → Int32 → Int32 → Int32 → Option (Int32 × Mem)) (σ : Mem) (x1 : Int32) (x2 : Int32) (x3 : Int32) (x4 : Int32) : Option (Int32 × Mem) :=
  f_M_owner_87 K5 σ x1 x2 x4 x3
set_option maxRecDepth 100000 in
theorem m_M_owner_86 {κ : GC} {Γ : GA} (hX : Gx κ Γ 6 b_M_owner "PaneScreenModel" r_M_owner (some .int)) (K5 : Mem → Int32 → Int32 → Int32 → Int32 → Option (Int32 × Mem)) (hK5 : ∀ (σ : Mem) (x1 : Int32) (x2 : Int32) (x3 : Int32) (x4 : Int32), GG κ Γ 6 (gQ gqi κ Γ r_M_owner) 0 0 σ [some (.ref (Γ.2.1 19)), some (.int x1), some (.int x2), some (.int x3), some (.int x4), none] 5 [] (K5 σ x1 x2 x3 x4)) (σ : Mem) (x1 : Int32) (x2 : Int32) (x3 : Int32) (x4 : Int32) : GG κ Γ 6 (gQ gqi κ Γ r_M_owner) 0 0 σ [some (.ref (Γ.2.1 19)), some (.int x1), some (.int x2), some (.int x3), some (.int x4), none] 86 [] (f_M_owner_86 K5 σ x1 x2 x3 x4) := by
  unfold f_M_owner_86
  refine g_iload_n hX 3 d_M_owner_86 (n := 87) rfl rfl rfl ?_
  exact (g_sub (lw := [some (.ref (Γ.2.1 19)), some (.int x1), some (.int x2), none, some (.int x4), none]) (And.intro rfl (And.intro rfl (And.intro rfl (And.intro rfl (True.intro))))) (m_M_owner_87 hX K5 hK5 σ x1 x2 x4 x3))
def f_M_owner_81 (K5 : Mem → Int32 → Int32 → Int32 → Int32 → Option (Int32 × Mem)) (σ : Mem) (x1 : Int32) (x2 : Int32) (x4 : Int32) : Option (Int32 × Mem) :=
  f_M_owner_87 K5 σ x1 x2 x4 x4
set_option maxRecDepth 100000 in
theorem m_M_owner_81 {κ : GC} {Γ : GA} (hX : Gx κ Γ 6 b_M_owner "PaneScreenModel" r_M_owner (some .int)) (K5 : Mem → Int32 → Int32 → Int32 → Int32 → Option (Int32 × Mem)) (hK5 : ∀ (σ : Mem) (x1 : Int32) (x2 : Int32) (x3 : Int32) (x4 : Int32), GG κ Γ 6 (gQ gqi κ Γ r_M_owner) 0 0 σ [some (.ref (Γ.2.1 19)), some (.int x1), some (.int x2), some (.int x3), some (.int x4), none] 5 [] (K5 σ x1 x2 x3 x4)) (σ : Mem) (x1 : Int32) (x2 : Int32) (x4 : Int32) : GG κ Γ 6 (gQ gqi κ Γ r_M_owner) 0 0 σ [some (.ref (Γ.2.1 19)), some (.int x1), some (.int x2), none, some (.int x4), none] 81 [] (f_M_owner_81 K5 σ x1 x2 x4) := by
  unfold f_M_owner_81
  refine g_iload hX d_M_owner_81 (n := 83) rfl rfl ?_
  refine g_goto hX 87 d_M_owner_83 rfl ?_
  exact (m_M_owner_87 hX K5 hK5 σ x1 x2 x4 x4)
def f_M_owner_54 (K5 : Mem → Int32 → Int32 → Int32 → Int32 → Option (Int32 × Mem)) (σ : Mem) (x1 : Int32) (x2 : Int32) (x3 : Int32) (x4 : Int32) (s0 : Int32) : Option (Int32 × Mem) :=
  if s0 = 0 then
    f_M_owner_86 K5 σ x1 x2 x3 x4
  else
    if x3 < 0 then
      f_M_owner_81 K5 σ x1 x2 x4
    else
      if gin x4 8 = true then
        if gin x3 8 = true then
          if (σ 29 x3.toNatClampNeg) ≤ (σ 29 x4.toNatClampNeg) then
            f_M_owner_86 K5 σ x1 x2 x3 x4
          else
            f_M_owner_81 K5 σ x1 x2 x4
        else none
      else none
set_option maxRecDepth 100000 in
theorem m_M_owner_54 {κ : GC} {Γ : GA} (hX : Gx κ Γ 6 b_M_owner "PaneScreenModel" r_M_owner (some .int)) (K5 : Mem → Int32 → Int32 → Int32 → Int32 → Option (Int32 × Mem)) (hK5 : ∀ (σ : Mem) (x1 : Int32) (x2 : Int32) (x3 : Int32) (x4 : Int32), GG κ Γ 6 (gQ gqi κ Γ r_M_owner) 0 0 σ [some (.ref (Γ.2.1 19)), some (.int x1), some (.int x2), some (.int x3), some (.int x4), none] 5 [] (K5 σ x1 x2 x3 x4)) (σ : Mem) (x1 : Int32) (x2 : Int32) (x3 : Int32) (x4 : Int32) (s0 : Int32) : GG κ Γ 6 (gQ gqi κ Γ r_M_owner) 0 0 σ [some (.ref (Γ.2.1 19)), some (.int x1), some (.int x2), some (.int x3), some (.int x4), none] 54 [.int s0] (f_M_owner_54 K5 σ x1 x2 x3 x4 s0) := by
  unfold f_M_owner_54
  refine g_istore hX [_, _, _, _, _, _] d_M_owner_54 (n := 56) rfl (by decide) rfl ?_
  refine g_iload hX d_M_owner_56 (n := 58) rfl rfl ?_
  refine g_if_eq hX 86 d_M_owner_58 (n := 61) rfl rfl ?_ ?_
  · exact (g_sub (lw := [some (.ref (Γ.2.1 19)), some (.int x1), some (.int x2), some (.int x3), some (.int x4), none]) (And.intro rfl (And.intro rfl (And.intro rfl (And.intro rfl (And.intro rfl (True.intro)))))) (m_M_owner_86 hX K5 hK5 σ x1 x2 x3 x4))
  · refine g_iload_n hX 3 d_M_owner_61 (n := 62) rfl rfl rfl ?_
    refine g_if_lt hX 81 d_M_owner_62 (n := 65) rfl rfl ?_ ?_
    · exact (g_sub (lw := [some (.ref (Γ.2.1 19)), some (.int x1), some (.int x2), none, some (.int x4), none]) (And.intro rfl (And.intro rfl (And.intro rfl (And.intro rfl (True.intro))))) (m_M_owner_81 hX K5 hK5 σ x1 x2 x4))
    · refine g_aload_n hX 0 d_M_owner_65 (n := 66) rfl rfl rfl ?_
      refine g_geta hX 29 gf_M_38 d_M_owner_66 (n := 69) rfl sh_19 rfl ?_
      refine g_iload hX d_M_owner_69 (n := 71) rfl rfl ?_
      refine g_iald hX d_M_owner_71 (n := 72) rfl sh_29 ?_
      refine g_aload_n hX 0 d_M_owner_72 (n := 73) rfl rfl rfl ?_
      refine g_geta hX 29 gf_M_38 d_M_owner_73 (n := 76) rfl sh_19 rfl ?_
      refine g_iload_n hX 3 d_M_owner_76 (n := 77) rfl rfl rfl ?_
      refine g_iald hX d_M_owner_77 (n := 78) rfl sh_29 ?_
      refine g_icmp_ge hX 86 d_M_owner_78 (n := 81) rfl rfl ?_ ?_
      · exact (g_sub (lw := [some (.ref (Γ.2.1 19)), some (.int x1), some (.int x2), some (.int x3), some (.int x4), none]) (And.intro rfl (And.intro rfl (And.intro rfl (And.intro rfl (And.intro rfl (True.intro)))))) (m_M_owner_86 hX K5 hK5 σ x1 x2 x3 x4))
      · exact (g_sub (lw := [some (.ref (Γ.2.1 19)), some (.int x1), some (.int x2), none, some (.int x4), none]) (And.intro rfl (And.intro rfl (And.intro rfl (And.intro rfl (True.intro))))) (m_M_owner_81 hX K5 hK5 σ x1 x2 x4))
def f_M_owner_53 (K5 : Mem → Int32 → Int32 → Int32 → Int32 → Option (Int32 × Mem)) (σ : Mem) (x1 : Int32) (x2 : Int32) (x3 : Int32) (x4 : Int32) : Option (Int32 × Mem) :=
  f_M_owner_54 K5 σ x1 x2 x3 x4 0
set_option maxRecDepth 100000 in
theorem m_M_owner_53 {κ : GC} {Γ : GA} (hX : Gx κ Γ 6 b_M_owner "PaneScreenModel" r_M_owner (some .int)) (K5 : Mem → Int32 → Int32 → Int32 → Int32 → Option (Int32 × Mem)) (hK5 : ∀ (σ : Mem) (x1 : Int32) (x2 : Int32) (x3 : Int32) (x4 : Int32), GG κ Γ 6 (gQ gqi κ Γ r_M_owner) 0 0 σ [some (.ref (Γ.2.1 19)), some (.int x1), some (.int x2), some (.int x3), some (.int x4), none] 5 [] (K5 σ x1 x2 x3 x4)) (σ : Mem) (x1 : Int32) (x2 : Int32) (x3 : Int32) (x4 : Int32) : GG κ Γ 6 (gQ gqi κ Γ r_M_owner) 0 0 σ [some (.ref (Γ.2.1 19)), some (.int x1), some (.int x2), some (.int x3), some (.int x4), none] 53 [] (f_M_owner_53 K5 σ x1 x2 x3 x4) := by
  unfold f_M_owner_53
  refine g_iconst hX 0 d_M_owner_53 (n := 54) rfl k_iconst_0 ?_
  exact (m_M_owner_54 hX K5 hK5 σ x1 x2 x3 x4 0)
def f_M_owner_5B (K5 : Mem → Int32 → Int32 → Int32 → Int32 → Option (Int32 × Mem)) (σ : Mem) (x1 : Int32) (x2 : Int32) (x3 : Int32) (x4 : Int32) : Option (Int32 × Mem) :=
  if 8 ≤ x4 then
    some (x3, σ)
  else
    if gin x4 8 = true then
      if (σ 21 x4.toNatClampNeg) = 0 then
        f_M_owner_53 K5 σ x1 x2 x3 x4
      else
        if gin x4 8 = true then
          if gin x4 8 = true then
            gb (f_M_inPicture x4 (x1 - (σ 22 x4.toNatClampNeg)) (x2 - (σ 23 x4.toNatClampNeg)) σ) fun r2 u1 =>
            if r2 = 0 then
              f_M_owner_53 K5 u1 x1 x2 x3 x4
            else
              f_M_owner_54 K5 u1 x1 x2 x3 x4 1
          else none
        else none
    else none
set_option maxRecDepth 100000 in
theorem m_M_owner_5B {κ : GC} {Γ : GA} (hX : Gx κ Γ 6 b_M_owner "PaneScreenModel" r_M_owner (some .int)) (K5 : Mem → Int32 → Int32 → Int32 → Int32 → Option (Int32 × Mem)) (hK5 : ∀ (σ : Mem) (x1 : Int32) (x2 : Int32) (x3 : Int32) (x4 : Int32), GG κ Γ 6 (gQ gqi κ Γ r_M_owner) 0 0 σ [some (.ref (Γ.2.1 19)), some (.int x1), some (.int x2), some (.int x3), some (.int x4), none] 5 [] (K5 σ x1 x2 x3 x4)) (σ : Mem) (x1 : Int32) (x2 : Int32) (x3 : Int32) (x4 : Int32) : GG κ Γ 6 (gQ gqi κ Γ r_M_owner) 0 0 σ [some (.ref (Γ.2.1 19)), some (.int x1), some (.int x2), some (.int x3), some (.int x4), none] 5 [] (f_M_owner_5B K5 σ x1 x2 x3 x4) := by
  unfold f_M_owner_5B
  refine g_iload hX d_M_owner_5 (n := 7) rfl rfl ?_
  refine g_bipush hX 8 d_M_owner_7 (n := 9) rfl k_bipush_8 ?_
  refine g_icmp_ge hX 94 d_M_owner_9 (n := 12) rfl rfl ?_ ?_
  · refine g_iload_n hX 3 d_M_owner_94 (n := 95) rfl rfl rfl ?_
    exact g_iret hX d_M_owner_95 (by decide) (by decide)
  · refine g_aload_n hX 0 d_M_owner_12 (n := 13) rfl rfl rfl ?_
    refine g_geta hX 21 gf_M_13 d_M_owner_13 (n := 16) rfl sh_19 rfl ?_
    refine g_iload hX d_M_owner_16 (n := 18) rfl rfl ?_
    refine g_zald hX d_M_owner_18 (n := 19) rfl sh_21 ?_
    refine g_if_eq hX 53 d_M_owner_19 (n := 22) rfl rfl ?_ ?_
    · exact (m_M_owner_53 hX K5 hK5 σ x1 x2 x3 x4)
    · refine g_aload_n hX 0 d_M_owner_22 (n := 23) rfl rfl rfl ?_
      refine g_iload hX d_M_owner_23 (n := 25) rfl rfl ?_
      refine g_iload_n hX 1 d_M_owner_25 (n := 26) rfl rfl rfl ?_
      refine g_aload_n hX 0 d_M_owner_26 (n := 27) rfl rfl rfl ?_
      refine g_geta hX 22 gf_M_17 d_M_owner_27 (n := 30) rfl sh_19 rfl ?_
      refine g_iload hX d_M_owner_30 (n := 32) rfl rfl ?_
      refine g_iald hX d_M_owner_32 (n := 33) rfl sh_22 ?_
      refine g_isub hX d_M_owner_33 (n := 34) rfl ?_
      refine g_iload_n hX 2 d_M_owner_34 (n := 35) rfl rfl rfl ?_
      refine g_aload_n hX 0 d_M_owner_35 (n := 36) rfl rfl rfl ?_
      refine g_geta hX 23 gf_M_20 d_M_owner_36 (n := 39) rfl sh_19 rfl ?_
      refine g_iload hX d_M_owner_39 (n := 41) rfl rfl ?_
      refine g_iald hX d_M_owner_41 (n := 42) rfl sh_23 ?_
      refine g_isub hX d_M_owner_42 (n := 43) rfl ?_
      refine g_cVi hX [_, _, _] rfl 0 0 (c_M_inPicture _ Γ x4 (x1 - (σ 22 x4.toNatClampNeg)) (x2 - (σ 23 x4.toNatClampNeg)) σ) gw_M_85 rfl sh_19 rfl d_M_owner_43 (n := 46) rfl ⟨by decide, by decide⟩ ⟨by decide, by decide⟩ (Nat.le_of_ble_eq_true rfl) rfl rfl (fun r2 u1 => ?_)
      refine g_if_eq hX 53 d_M_owner_46 (n := 49) rfl rfl ?_ ?_
      · exact (m_M_owner_53 hX K5 hK5 u1 x1 x2 x3 x4)
      · refine g_iconst hX 1 d_M_owner_49 (n := 50) rfl k_iconst_1 ?_
        refine g_goto hX 54 d_M_owner_50 rfl ?_
        exact (m_M_owner_54 hX K5 hK5 u1 x1 x2 x3 x4 1)
def f_M_owner_5 (n : Nat) : Mem → Int32 → Int32 → Int32 → Int32 → Option (Int32 × Mem) := gfix (fun _ _ _ _ _ => none) (fun K5 => f_M_owner_5B K5) n
theorem m_M_owner_5 {κ : GC} {Γ : GA} (hX : Gx κ Γ 6 b_M_owner "PaneScreenModel" r_M_owner (some .int)) (n : Nat) : ∀ (σ : Mem) (x1 : Int32) (x2 : Int32) (x3 : Int32) (x4 : Int32), GG κ Γ 6 (gQ gqi κ Γ r_M_owner) 0 0 σ [some (.ref (Γ.2.1 19)), some (.int x1), some (.int x2), some (.int x3), some (.int x4), none] 5 [] (f_M_owner_5 n σ x1 x2 x3 x4) := by
  induction n with
  | zero => intros; exact g_none
  | succ n ih => intro σ x1 x2 x3 x4; exact m_M_owner_5B hX (f_M_owner_5 n) ih σ x1 x2 x3 x4
def f_M_owner_0 (σ : Mem) (x1 : Int32) (x2 : Int32) : Option (Int32 × Mem) :=
  f_M_owner_5 gN σ x1 x2 (-1) 0
set_option maxRecDepth 100000 in
theorem m_M_owner_0 {κ : GC} {Γ : GA} (hX : Gx κ Γ 6 b_M_owner "PaneScreenModel" r_M_owner (some .int)) (σ : Mem) (x1 : Int32) (x2 : Int32) : GG κ Γ 6 (gQ gqi κ Γ r_M_owner) 0 0 σ [some (.ref (Γ.2.1 19)), some (.int x1), some (.int x2), none, none, none] 0 [] (f_M_owner_0 σ x1 x2) := by
  unfold f_M_owner_0
  refine g_iconst hX (-1) d_M_owner_0 (n := 1) rfl k_iconst_m1 ?_
  refine g_istore_n hX 3 [_, _, _, _, _, _] d_M_owner_1 (n := 2) rfl rfl (by decide) rfl ?_
  refine g_iconst hX 0 d_M_owner_2 (n := 3) rfl k_iconst_0 ?_
  refine g_istore hX [_, _, _, _, _, _] d_M_owner_3 (n := 5) rfl (by decide) rfl ?_
  exact (m_M_owner_5 hX gN σ x1 x2 (-1) 0)
def f_M_owner (x1 : Int32) (x2 : Int32) (σ : Mem) : Option (Int32 × Mem) := f_M_owner_0 σ x1 x2
theorem c_M_owner (l : Launch) (Γ : GA) (x1 : Int32) (x2 : Int32) (σ : Mem) : gM gqi l y_M_owner b_M_owner 6 (some .int) r_M_owner [.ref (Γ.2.1 19), .int x1, .int x2] Γ σ (f_M_owner x1 x2 σ) :=
  gM.of [some (.ref (Γ.2.1 19)), some (.int x1), some (.int x2), none, none, none] (by decide) (Nat.le_of_ble_eq_true rfl) rfl rfl (fun κ hX _ => m_M_owner_0 hX σ x1 x2)
/-! M_flush -/
theorem d_M_flush_0 : decode b_M_flush 0 = .ok (.aload_n 0, 1) := by decide +kernel
theorem d_M_flush_1 : decode b_M_flush 1 = .ok (.iconst 0, 1) := by decide +kernel
theorem d_M_flush_2 : decode b_M_flush 2 = .ok (.putfield 75, 3) := by decide +kernel
theorem d_M_flush_5 : decode b_M_flush 5 = .ok (.iconst 0, 1) := by decide +kernel
theorem d_M_flush_6 : decode b_M_flush 6 = .ok (.istore_n 1, 1) := by decide +kernel
theorem d_M_flush_7 : decode b_M_flush 7 = .ok (.iconst 0, 1) := by decide +kernel
theorem d_M_flush_8 : decode b_M_flush 8 = .ok (.istore_n 2, 1) := by decide +kernel
theorem d_M_flush_9 : decode b_M_flush 9 = .ok (.iload_n 2, 1) := by decide +kernel
theorem d_M_flush_10 : decode b_M_flush 10 = .ok (.bipush 16, 2) := by decide +kernel
theorem d_M_flush_12 : decode b_M_flush 12 = .ok (.if_icmp .ge 97, 3) := by decide +kernel
theorem d_M_flush_15 : decode b_M_flush 15 = .ok (.iconst 0, 1) := by decide +kernel
theorem d_M_flush_16 : decode b_M_flush 16 = .ok (.istore_n 3, 1) := by decide +kernel
theorem d_M_flush_17 : decode b_M_flush 17 = .ok (.iload_n 3, 1) := by decide +kernel
theorem d_M_flush_18 : decode b_M_flush 18 = .ok (.bipush 24, 2) := by decide +kernel
theorem d_M_flush_20 : decode b_M_flush 20 = .ok (.if_icmp .ge 83, 3) := by decide +kernel
theorem d_M_flush_23 : decode b_M_flush 23 = .ok (.aload_n 0, 1) := by decide +kernel
theorem d_M_flush_24 : decode b_M_flush 24 = .ok (.iload_n 3, 1) := by decide +kernel
theorem d_M_flush_25 : decode b_M_flush 25 = .ok (.iload_n 2, 1) := by decide +kernel
theorem d_M_flush_26 : decode b_M_flush 26 = .ok (.invokevirtual 161, 3) := by decide +kernel
theorem d_M_flush_29 : decode b_M_flush 29 = .ok (.ifCond .eq 68, 3) := by decide +kernel
theorem d_M_flush_32 : decode b_M_flush 32 = .ok (.aload_n 0, 1) := by decide +kernel
theorem d_M_flush_33 : decode b_M_flush 33 = .ok (.iload_n 3, 1) := by decide +kernel
theorem d_M_flush_34 : decode b_M_flush 34 = .ok (.iload_n 2, 1) := by decide +kernel
theorem d_M_flush_35 : decode b_M_flush 35 = .ok (.invokevirtual 165, 3) := by decide +kernel
theorem d_M_flush_38 : decode b_M_flush 38 = .ok (.istore 4, 2) := by decide +kernel
theorem d_M_flush_40 : decode b_M_flush 40 = .ok (.aload_n 0, 1) := by decide +kernel
theorem d_M_flush_41 : decode b_M_flush 41 = .ok (.getfield 7, 3) := by decide +kernel
theorem d_M_flush_44 : decode b_M_flush 44 = .ok (.bipush 24, 2) := by decide +kernel
theorem d_M_flush_46 : decode b_M_flush 46 = .ok (.iload_n 2, 1) := by decide +kernel
theorem d_M_flush_47 : decode b_M_flush 47 = .ok (.imul, 1) := by decide +kernel
theorem d_M_flush_48 : decode b_M_flush 48 = .ok (.iload_n 3, 1) := by decide +kernel
theorem d_M_flush_49 : decode b_M_flush 49 = .ok (.iadd, 1) := by decide +kernel
theorem d_M_flush_50 : decode b_M_flush 50 = .ok (.iload 4, 2) := by decide +kernel
theorem d_M_flush_52 : decode b_M_flush 52 = .ok (.ifCond .ge 7, 3) := by decide +kernel
theorem d_M_flush_55 : decode b_M_flush 55 = .ok (.iconst 0, 1) := by decide +kernel
theorem d_M_flush_56 : decode b_M_flush 56 = .ok (.goto 37, 3) := by decide +kernel
theorem d_M_flush_59 : decode b_M_flush 59 = .ok (.aload_n 0, 1) := by decide +kernel
theorem d_M_flush_60 : decode b_M_flush 60 = .ok (.getfield 41, 3) := by decide +kernel
theorem d_M_flush_63 : decode b_M_flush 63 = .ok (.sipush 384, 3) := by decide +kernel
theorem d_M_flush_66 : decode b_M_flush 66 = .ok (.iload 4, 2) := by decide +kernel
theorem d_M_flush_68 : decode b_M_flush 68 = .ok (.imul, 1) := by decide +kernel
theorem d_M_flush_69 : decode b_M_flush 69 = .ok (.bipush 24, 2) := by decide +kernel
theorem d_M_flush_71 : decode b_M_flush 71 = .ok (.iload_n 2, 1) := by decide +kernel
theorem d_M_flush_72 : decode b_M_flush 72 = .ok (.aload_n 0, 1) := by decide +kernel
theorem d_M_flush_73 : decode b_M_flush 73 = .ok (.getfield 20, 3) := by decide +kernel
theorem d_M_flush_76 : decode b_M_flush 76 = .ok (.iload 4, 2) := by decide +kernel
theorem d_M_flush_78 : decode b_M_flush 78 = .ok (.iaload, 1) := by decide +kernel
theorem d_M_flush_79 : decode b_M_flush 79 = .ok (.isub, 1) := by decide +kernel
theorem d_M_flush_80 : decode b_M_flush 80 = .ok (.imul, 1) := by decide +kernel
theorem d_M_flush_81 : decode b_M_flush 81 = .ok (.iadd, 1) := by decide +kernel
theorem d_M_flush_82 : decode b_M_flush 82 = .ok (.iload_n 3, 1) := by decide +kernel
theorem d_M_flush_83 : decode b_M_flush 83 = .ok (.iadd, 1) := by decide +kernel
theorem d_M_flush_84 : decode b_M_flush 84 = .ok (.aload_n 0, 1) := by decide +kernel
theorem d_M_flush_85 : decode b_M_flush 85 = .ok (.getfield 17, 3) := by decide +kernel
theorem d_M_flush_88 : decode b_M_flush 88 = .ok (.iload 4, 2) := by decide +kernel
theorem d_M_flush_90 : decode b_M_flush 90 = .ok (.iaload, 1) := by decide +kernel
theorem d_M_flush_91 : decode b_M_flush 91 = .ok (.isub, 1) := by decide +kernel
theorem d_M_flush_92 : decode b_M_flush 92 = .ok (.iaload, 1) := by decide +kernel
theorem d_M_flush_93 : decode b_M_flush 93 = .ok (.iastore, 1) := by decide +kernel
theorem d_M_flush_94 : decode b_M_flush 94 = .ok (.iinc 1 1, 3) := by decide +kernel
theorem d_M_flush_97 : decode b_M_flush 97 = .ok (.iinc 3 1, 3) := by decide +kernel
theorem d_M_flush_100 : decode b_M_flush 100 = .ok (.goto (-83), 3) := by decide +kernel
theorem d_M_flush_103 : decode b_M_flush 103 = .ok (.iinc 2 1, 3) := by decide +kernel
theorem d_M_flush_106 : decode b_M_flush 106 = .ok (.goto (-97), 3) := by decide +kernel
theorem d_M_flush_109 : decode b_M_flush 109 = .ok (.aload_n 0, 1) := by decide +kernel
theorem d_M_flush_110 : decode b_M_flush 110 = .ok (.iconst 0, 1) := by decide +kernel
theorem d_M_flush_111 : decode b_M_flush 111 = .ok (.putfield 78, 3) := by decide +kernel
theorem d_M_flush_114 : decode b_M_flush 114 = .ok (.aload_n 0, 1) := by decide +kernel
theorem d_M_flush_115 : decode b_M_flush 115 = .ok (.dup, 1) := by decide +kernel
theorem d_M_flush_116 : decode b_M_flush 116 = .ok (.getfield 168, 3) := by decide +kernel
theorem d_M_flush_119 : decode b_M_flush 119 = .ok (.iload_n 1, 1) := by decide +kernel
theorem d_M_flush_120 : decode b_M_flush 120 = .ok (.iadd, 1) := by decide +kernel
theorem d_M_flush_121 : decode b_M_flush 121 = .ok (.putfield 168, 3) := by decide +kernel
theorem d_M_flush_124 : decode b_M_flush 124 = .ok (.iload_n 1, 1) := by decide +kernel
theorem d_M_flush_125 : decode b_M_flush 125 = .ok (.ireturn, 1) := by decide +kernel
abbrev r_M_flush : Room := ⟨2, 0, 0, 48⟩
def f_M_flush_97 (K9 : Mem → Int32 → Int32 → Option (Int32 × Mem)) (K17 : Mem → Int32 → Int32 → Int32 → Option (Int32 × Mem)) (σ : Mem) (x1 : Int32) (x2 : Int32) (x3 : Int32) : Option (Int32 × Mem) :=
  K17 σ x1 x2 (x3 + 1)
set_option maxRecDepth 100000 in
theorem m_M_flush_97 {κ : GC} {Γ : GA} (hX : Gx κ Γ 5 b_M_flush "PaneScreenModel" r_M_flush (some .int)) (K9 : Mem → Int32 → Int32 → Option (Int32 × Mem)) (hK9 : ∀ (σ : Mem) (x1 : Int32) (x2 : Int32), GG κ Γ 5 (gQ gqi κ Γ r_M_flush) 0 0 σ [some (.ref (Γ.2.1 19)), some (.int x1), some (.int x2), none, none] 9 [] (K9 σ x1 x2)) (K17 : Mem → Int32 → Int32 → Int32 → Option (Int32 × Mem)) (hK17 : ∀ (σ : Mem) (x1 : Int32) (x2 : Int32) (x3 : Int32), GG κ Γ 5 (gQ gqi κ Γ r_M_flush) 0 0 σ [some (.ref (Γ.2.1 19)), some (.int x1), some (.int x2), some (.int x3), none] 17 [] (K17 σ x1 x2 x3)) (σ : Mem) (x1 : Int32) (x2 : Int32) (x3 : Int32) : GG κ Γ 5 (gQ gqi κ Γ r_M_flush) 0 0 σ [some (.ref (Γ.2.1 19)), some (.int x1), some (.int x2), some (.int x3), none] 97 [] (f_M_flush_97 K9 K17 σ x1 x2 x3) := by
  unfold f_M_flush_97
  refine g_iinc hX 1 _ [_, _, _, _, _] d_M_flush_97 (n := 100) rfl rfl k_iconst_1 rfl (by decide) rfl ?_
  refine g_goto hX 17 d_M_flush_100 rfl ?_
  exact (hK17 σ x1 x2 (x3 + 1))
def f_M_flush_93 (K9 : Mem → Int32 → Int32 → Option (Int32 × Mem)) (K17 : Mem → Int32 → Int32 → Int32 → Option (Int32 × Mem)) (σ : Mem) (x1 : Int32) (x2 : Int32) (x3 : Int32) (s0 : Int32) (s1 : Int32) : Option (Int32 × Mem) :=
  if gin s1 384 = true then
    gbm (m2 σ 20 s1.toNatClampNeg s0) fun u1 =>
    f_M_flush_97 K9 K17 u1 (x1 + 1) x2 x3
  else none
set_option maxRecDepth 100000 in
theorem m_M_flush_93 {κ : GC} {Γ : GA} (hX : Gx κ Γ 5 b_M_flush "PaneScreenModel" r_M_flush (some .int)) (K9 : Mem → Int32 → Int32 → Option (Int32 × Mem)) (hK9 : ∀ (σ : Mem) (x1 : Int32) (x2 : Int32), GG κ Γ 5 (gQ gqi κ Γ r_M_flush) 0 0 σ [some (.ref (Γ.2.1 19)), some (.int x1), some (.int x2), none, none] 9 [] (K9 σ x1 x2)) (K17 : Mem → Int32 → Int32 → Int32 → Option (Int32 × Mem)) (hK17 : ∀ (σ : Mem) (x1 : Int32) (x2 : Int32) (x3 : Int32), GG κ Γ 5 (gQ gqi κ Γ r_M_flush) 0 0 σ [some (.ref (Γ.2.1 19)), some (.int x1), some (.int x2), some (.int x3), none] 17 [] (K17 σ x1 x2 x3)) (σ : Mem) (x1 : Int32) (x2 : Int32) (x3 : Int32) (s0 : Int32) (s1 : Int32) : GG κ Γ 5 (gQ gqi κ Γ r_M_flush) 0 0 σ [some (.ref (Γ.2.1 19)), some (.int x1), some (.int x2), some (.int x3), none] 93 [.int s0, .int s1, .ref (Γ.2.1 20)] (f_M_flush_93 K9 K17 σ x1 x2 x3 s0 s1) := by
  unfold f_M_flush_93
  refine g_iast hX d_M_flush_93 (n := 94) rfl sh_20 ?_
  refine g_mem (fun u1 => ?_)
  refine g_iinc hX 1 _ [_, _, _, _, _] d_M_flush_94 (n := 97) rfl rfl k_iconst_1 rfl (by decide) rfl ?_
  exact (m_M_flush_97 hX K9 hK9 K17 hK17 u1 (x1 + 1) x2 x3)
def f_M_flush_17B (K9 : Mem → Int32 → Int32 → Option (Int32 × Mem)) (K17 : Mem → Int32 → Int32 → Int32 → Option (Int32 × Mem)) (σ : Mem) (x1 : Int32) (x2 : Int32) (x3 : Int32) : Option (Int32 × Mem) :=
  if 24 ≤ x3 then
    K9 σ x1 (x2 + 1)
  else
    gb (f_M_isDamaged x3 x2 σ) fun r2 u1 =>
    if r2 = 0 then
      f_M_flush_97 K9 K17 u1 x1 x2 x3
    else
      gb (f_M_owner x3 x2 u1) fun r4 u3 =>
      if 0 ≤ r4 then
        if gin r4 8 = true then
          if gin r4 8 = true then
            if gin ((((384 * r4) + (24 * (x2 - (u3 23 r4.toNatClampNeg)))) + x3) - (u3 22 r4.toNatClampNeg)) 3072 = true then
              f_M_flush_93 K9 K17 u3 x1 x2 x3 (u3 30 ((((384 * r4) + (24 * (x2 - (u3 23 r4.toNatClampNeg)))) + x3) - (u3 22 r4.toNatClampNeg)).toNatClampNeg) ((24 * x2) + x3)
            else none
          else none
        else none
      else
        f_M_flush_93 K9 K17 u3 x1 x2 x3 0 ((24 * x2) + x3)
set_option maxRecDepth 100000 in
theorem m_M_flush_17B {κ : GC} {Γ : GA} (hX : Gx κ Γ 5 b_M_flush "PaneScreenModel" r_M_flush (some .int)) (K9 : Mem → Int32 → Int32 → Option (Int32 × Mem)) (hK9 : ∀ (σ : Mem) (x1 : Int32) (x2 : Int32), GG κ Γ 5 (gQ gqi κ Γ r_M_flush) 0 0 σ [some (.ref (Γ.2.1 19)), some (.int x1), some (.int x2), none, none] 9 [] (K9 σ x1 x2)) (K17 : Mem → Int32 → Int32 → Int32 → Option (Int32 × Mem)) (hK17 : ∀ (σ : Mem) (x1 : Int32) (x2 : Int32) (x3 : Int32), GG κ Γ 5 (gQ gqi κ Γ r_M_flush) 0 0 σ [some (.ref (Γ.2.1 19)), some (.int x1), some (.int x2), some (.int x3), none] 17 [] (K17 σ x1 x2 x3)) (σ : Mem) (x1 : Int32) (x2 : Int32) (x3 : Int32) : GG κ Γ 5 (gQ gqi κ Γ r_M_flush) 0 0 σ [some (.ref (Γ.2.1 19)), some (.int x1), some (.int x2), some (.int x3), none] 17 [] (f_M_flush_17B K9 K17 σ x1 x2 x3) := by
  unfold f_M_flush_17B
  refine g_iload_n hX 3 d_M_flush_17 (n := 18) rfl rfl rfl ?_
  refine g_bipush hX 24 d_M_flush_18 (n := 20) rfl k_bipush_24 ?_
  refine g_icmp_ge hX 103 d_M_flush_20 (n := 23) rfl rfl ?_ ?_
  · refine g_iinc hX 1 _ [_, _, _, _, _] d_M_flush_103 (n := 106) rfl rfl k_iconst_1 rfl (by decide) rfl ?_
    refine g_goto hX 9 d_M_flush_106 rfl ?_
    exact (g_sub (lw := [some (.ref (Γ.2.1 19)), some (.int x1), some (.int (x2 + 1)), none, none]) (And.intro rfl (And.intro rfl (And.intro rfl (True.intro)))) (hK9 σ x1 (x2 + 1)))
  · refine g_aload_n hX 0 d_M_flush_23 (n := 24) rfl rfl rfl ?_
    refine g_iload_n hX 3 d_M_flush_24 (n := 25) rfl rfl rfl ?_
    refine g_iload_n hX 2 d_M_flush_25 (n := 26) rfl rfl rfl ?_
    refine g_cVi hX [_, _] rfl 0 0 (c_M_isDamaged _ Γ x3 x2 σ) gw_M_161 rfl sh_19 rfl d_M_flush_26 (n := 29) rfl ⟨by decide, by decide⟩ ⟨by decide, by decide⟩ (Nat.le_of_ble_eq_true rfl) rfl rfl (fun r2 u1 => ?_)
    refine g_if_eq hX 97 d_M_flush_29 (n := 32) rfl rfl ?_ ?_
    · exact (m_M_flush_97 hX K9 hK9 K17 hK17 u1 x1 x2 x3)
    · refine g_aload_n hX 0 d_M_flush_32 (n := 33) rfl rfl rfl ?_
      refine g_iload_n hX 3 d_M_flush_33 (n := 34) rfl rfl rfl ?_
      refine g_iload_n hX 2 d_M_flush_34 (n := 35) rfl rfl rfl ?_
      refine g_cVi hX [_, _] rfl 0 0 (c_M_owner _ Γ x3 x2 u1) gw_M_165 rfl sh_19 rfl d_M_flush_35 (n := 38) rfl ⟨by decide, by decide⟩ ⟨by decide, by decide⟩ (Nat.le_of_ble_eq_true rfl) rfl rfl (fun r4 u3 => ?_)
      refine g_istore hX [_, _, _, _, _] d_M_flush_38 (n := 40) rfl (by decide) rfl ?_
      refine g_aload_n hX 0 d_M_flush_40 (n := 41) rfl rfl rfl ?_
      refine g_geta hX 20 gf_M_7 d_M_flush_41 (n := 44) rfl sh_19 rfl ?_
      refine g_bipush hX 24 d_M_flush_44 (n := 46) rfl k_bipush_24 ?_
      refine g_iload_n hX 2 d_M_flush_46 (n := 47) rfl rfl rfl ?_
      refine g_imul hX d_M_flush_47 (n := 48) rfl ?_
      refine g_iload_n hX 3 d_M_flush_48 (n := 49) rfl rfl rfl ?_
      refine g_iadd hX d_M_flush_49 (n := 50) rfl ?_
      refine g_iload hX d_M_flush_50 (n := 52) rfl rfl ?_
      refine g_if_ge hX 59 d_M_flush_52 (n := 55) rfl rfl ?_ ?_
      · refine g_aload_n hX 0 d_M_flush_59 (n := 60) rfl rfl rfl ?_
        refine g_geta hX 30 gf_M_41 d_M_flush_60 (n := 63) rfl sh_19 rfl ?_
        refine g_sipush hX 384 d_M_flush_63 (n := 66) rfl k_sipush_384 ?_
        refine g_iload hX d_M_flush_66 (n := 68) rfl rfl ?_
        refine g_imul hX d_M_flush_68 (n := 69) rfl ?_
        refine g_bipush hX 24 d_M_flush_69 (n := 71) rfl k_bipush_24 ?_
        refine g_iload_n hX 2 d_M_flush_71 (n := 72) rfl rfl rfl ?_
        refine g_aload_n hX 0 d_M_flush_72 (n := 73) rfl rfl rfl ?_
        refine g_geta hX 23 gf_M_20 d_M_flush_73 (n := 76) rfl sh_19 rfl ?_
        refine g_iload hX d_M_flush_76 (n := 78) rfl rfl ?_
        refine g_iald hX d_M_flush_78 (n := 79) rfl sh_23 ?_
        refine g_isub hX d_M_flush_79 (n := 80) rfl ?_
        refine g_imul hX d_M_flush_80 (n := 81) rfl ?_
        refine g_iadd hX d_M_flush_81 (n := 82) rfl ?_
        refine g_iload_n hX 3 d_M_flush_82 (n := 83) rfl rfl rfl ?_
        refine g_iadd hX d_M_flush_83 (n := 84) rfl ?_
        refine g_aload_n hX 0 d_M_flush_84 (n := 85) rfl rfl rfl ?_
        refine g_geta hX 22 gf_M_17 d_M_flush_85 (n := 88) rfl sh_19 rfl ?_
        refine g_iload hX d_M_flush_88 (n := 90) rfl rfl ?_
        refine g_iald hX d_M_flush_90 (n := 91) rfl sh_22 ?_
        refine g_isub hX d_M_flush_91 (n := 92) rfl ?_
        refine g_iald hX d_M_flush_92 (n := 93) rfl sh_30 ?_
        exact (g_sub (lw := [some (.ref (Γ.2.1 19)), some (.int x1), some (.int x2), some (.int x3), none]) (And.intro rfl (And.intro rfl (And.intro rfl (And.intro rfl (True.intro))))) (m_M_flush_93 hX K9 hK9 K17 hK17 u3 x1 x2 x3 (u3 30 ((((384 * r4) + (24 * (x2 - (u3 23 r4.toNatClampNeg)))) + x3) - (u3 22 r4.toNatClampNeg)).toNatClampNeg) ((24 * x2) + x3)))
      · refine g_iconst hX 0 d_M_flush_55 (n := 56) rfl k_iconst_0 ?_
        refine g_goto hX 93 d_M_flush_56 rfl ?_
        exact (g_sub (lw := [some (.ref (Γ.2.1 19)), some (.int x1), some (.int x2), some (.int x3), none]) (And.intro rfl (And.intro rfl (And.intro rfl (And.intro rfl (True.intro))))) (m_M_flush_93 hX K9 hK9 K17 hK17 u3 x1 x2 x3 0 ((24 * x2) + x3)))
def f_M_flush_17 (K9 : Mem → Int32 → Int32 → Option (Int32 × Mem)) (n : Nat) : Mem → Int32 → Int32 → Int32 → Option (Int32 × Mem) := gfix (fun _ _ _ _ => none) (fun K17 => f_M_flush_17B K9 K17) n
theorem m_M_flush_17 {κ : GC} {Γ : GA} (hX : Gx κ Γ 5 b_M_flush "PaneScreenModel" r_M_flush (some .int)) (K9 : Mem → Int32 → Int32 → Option (Int32 × Mem)) (hK9 : ∀ (σ : Mem) (x1 : Int32) (x2 : Int32), GG κ Γ 5 (gQ gqi κ Γ r_M_flush) 0 0 σ [some (.ref (Γ.2.1 19)), some (.int x1), some (.int x2), none, none] 9 [] (K9 σ x1 x2)) (n : Nat) : ∀ (σ : Mem) (x1 : Int32) (x2 : Int32) (x3 : Int32), GG κ Γ 5 (gQ gqi κ Γ r_M_flush) 0 0 σ [some (.ref (Γ.2.1 19)), some (.int x1), some (.int x2), some (.int x3), none] 17 [] (f_M_flush_17 K9 n σ x1 x2 x3) := by
  induction n with
  | zero => intros; exact g_none
  | succ n ih => intro σ x1 x2 x3; exact m_M_flush_17B hX K9 hK9 (f_M_flush_17 K9 n) ih σ x1 x2 x3
def f_M_flush_9B (K9 : Mem → Int32 → Int32 → Option (Int32 × Mem)) (σ : Mem) (x1 : Int32) (x2 : Int32) : Option (Int32 × Mem) :=
  if 16 ≤ x2 then
    gbm (m2 σ 19 16 0) fun u1 =>
    gbm (m2 u1 19 36 ((u1 19 36) + x1)) fun u2 =>
    some (x1, u2)
  else
    f_M_flush_17 K9 gN σ x1 x2 0
set_option maxRecDepth 100000 in
theorem m_M_flush_9B {κ : GC} {Γ : GA} (hX : Gx κ Γ 5 b_M_flush "PaneScreenModel" r_M_flush (some .int)) (K9 : Mem → Int32 → Int32 → Option (Int32 × Mem)) (hK9 : ∀ (σ : Mem) (x1 : Int32) (x2 : Int32), GG κ Γ 5 (gQ gqi κ Γ r_M_flush) 0 0 σ [some (.ref (Γ.2.1 19)), some (.int x1), some (.int x2), none, none] 9 [] (K9 σ x1 x2)) (σ : Mem) (x1 : Int32) (x2 : Int32) : GG κ Γ 5 (gQ gqi κ Γ r_M_flush) 0 0 σ [some (.ref (Γ.2.1 19)), some (.int x1), some (.int x2), none, none] 9 [] (f_M_flush_9B K9 σ x1 x2) := by
  unfold f_M_flush_9B
  refine g_iload_n hX 2 d_M_flush_9 (n := 10) rfl rfl rfl ?_
  refine g_bipush hX 16 d_M_flush_10 (n := 12) rfl k_bipush_16 ?_
  refine g_icmp_ge hX 109 d_M_flush_12 (n := 15) rfl rfl ?_ ?_
  · refine g_aload_n hX 0 d_M_flush_109 (n := 110) rfl rfl rfl ?_
    refine g_iconst hX 0 d_M_flush_110 (n := 111) rfl k_iconst_0 ?_
    refine g_puti hX gp_M_78 d_M_flush_111 (n := 114) rfl sh_19 rfl ?_
    refine g_mem (fun u1 => ?_)
    refine g_aload_n hX 0 d_M_flush_114 (n := 115) rfl rfl rfl ?_
    refine g_dup hX d_M_flush_115 (n := 116) rfl rfl ?_
    refine g_geti hX gf_M_168 d_M_flush_116 (n := 119) rfl sh_19 rfl ?_
    refine g_iload_n hX 1 d_M_flush_119 (n := 120) rfl rfl rfl ?_
    refine g_iadd hX d_M_flush_120 (n := 121) rfl ?_
    refine g_puti hX gp_M_168 d_M_flush_121 (n := 124) rfl sh_19 rfl ?_
    refine g_mem (fun u2 => ?_)
    refine g_iload_n hX 1 d_M_flush_124 (n := 125) rfl rfl rfl ?_
    exact g_iret hX d_M_flush_125 (by decide) (by decide)
  · refine g_iconst hX 0 d_M_flush_15 (n := 16) rfl k_iconst_0 ?_
    refine g_istore_n hX 3 [_, _, _, _, _] d_M_flush_16 (n := 17) rfl rfl (by decide) rfl ?_
    exact (m_M_flush_17 hX K9 hK9 gN σ x1 x2 0)
def f_M_flush_9 (n : Nat) : Mem → Int32 → Int32 → Option (Int32 × Mem) := gfix (fun _ _ _ => none) (fun K9 => f_M_flush_9B K9) n
theorem m_M_flush_9 {κ : GC} {Γ : GA} (hX : Gx κ Γ 5 b_M_flush "PaneScreenModel" r_M_flush (some .int)) (n : Nat) : ∀ (σ : Mem) (x1 : Int32) (x2 : Int32), GG κ Γ 5 (gQ gqi κ Γ r_M_flush) 0 0 σ [some (.ref (Γ.2.1 19)), some (.int x1), some (.int x2), none, none] 9 [] (f_M_flush_9 n σ x1 x2) := by
  induction n with
  | zero => intros; exact g_none
  | succ n ih => intro σ x1 x2; exact m_M_flush_9B hX (f_M_flush_9 n) ih σ x1 x2
def f_M_flush_0 (σ : Mem) : Option (Int32 × Mem) :=
  gbm (m2 σ 19 0 0) fun u1 =>
  f_M_flush_9 gN u1 0 0
set_option maxRecDepth 100000 in
theorem m_M_flush_0 {κ : GC} {Γ : GA} (hX : Gx κ Γ 5 b_M_flush "PaneScreenModel" r_M_flush (some .int)) (σ : Mem) : GG κ Γ 5 (gQ gqi κ Γ r_M_flush) 0 0 σ [some (.ref (Γ.2.1 19)), none, none, none, none] 0 [] (f_M_flush_0 σ) := by
  unfold f_M_flush_0
  refine g_aload_n hX 0 d_M_flush_0 (n := 1) rfl rfl rfl ?_
  refine g_iconst hX 0 d_M_flush_1 (n := 2) rfl k_iconst_0 ?_
  refine g_puti hX gp_M_75 d_M_flush_2 (n := 5) rfl sh_19 rfl ?_
  refine g_mem (fun u1 => ?_)
  refine g_iconst hX 0 d_M_flush_5 (n := 6) rfl k_iconst_0 ?_
  refine g_istore_n hX 1 [_, _, _, _, _] d_M_flush_6 (n := 7) rfl rfl (by decide) rfl ?_
  refine g_iconst hX 0 d_M_flush_7 (n := 8) rfl k_iconst_0 ?_
  refine g_istore_n hX 2 [_, _, _, _, _] d_M_flush_8 (n := 9) rfl rfl (by decide) rfl ?_
  exact (m_M_flush_9 hX gN u1 0 0)
def f_M_flush (σ : Mem) : Option (Int32 × Mem) := f_M_flush_0 σ
theorem c_M_flush (l : Launch) (Γ : GA) (σ : Mem) : gM gqi l y_M_flush b_M_flush 5 (some .int) r_M_flush [.ref (Γ.2.1 19)] Γ σ (f_M_flush σ) :=
  gM.of [some (.ref (Γ.2.1 19)), none, none, none, none] (by decide) (Nat.le_of_ble_eq_true rfl) rfl rfl (fun κ hX _ => m_M_flush_0 hX σ)
/-! M_screen -/
theorem d_M_screen_0 : decode b_M_screen 0 = .ok (.aload_n 0, 1) := by decide +kernel
theorem d_M_screen_1 : decode b_M_screen 1 = .ok (.iload_n 1, 1) := by decide +kernel
theorem d_M_screen_2 : decode b_M_screen 2 = .ok (.iload_n 2, 1) := by decide +kernel
theorem d_M_screen_3 : decode b_M_screen 3 = .ok (.invokestatic 171, 3) := by decide +kernel
theorem d_M_screen_6 : decode b_M_screen 6 = .ok (.ifCond .eq 7, 3) := by decide +kernel
theorem d_M_screen_9 : decode b_M_screen 9 = .ok (.iconst 0, 1) := by decide +kernel
theorem d_M_screen_10 : decode b_M_screen 10 = .ok (.goto 4, 3) := by decide +kernel
theorem d_M_screen_13 : decode b_M_screen 13 = .ok (.iconst 1, 1) := by decide +kernel
theorem d_M_screen_14 : decode b_M_screen 14 = .ok (.putfield 75, 3) := by decide +kernel
theorem d_M_screen_17 : decode b_M_screen 17 = .ok (.aload_n 0, 1) := by decide +kernel
theorem d_M_screen_18 : decode b_M_screen 18 = .ok (.getfield 75, 3) := by decide +kernel
theorem d_M_screen_21 : decode b_M_screen 21 = .ok (.ifCond .ne 17, 3) := by decide +kernel
theorem d_M_screen_24 : decode b_M_screen 24 = .ok (.aload_n 0, 1) := by decide +kernel
theorem d_M_screen_25 : decode b_M_screen 25 = .ok (.getfield 7, 3) := by decide +kernel
theorem d_M_screen_28 : decode b_M_screen 28 = .ok (.bipush 24, 2) := by decide +kernel
theorem d_M_screen_30 : decode b_M_screen 30 = .ok (.iload_n 2, 1) := by decide +kernel
theorem d_M_screen_31 : decode b_M_screen 31 = .ok (.imul, 1) := by decide +kernel
theorem d_M_screen_32 : decode b_M_screen 32 = .ok (.iload_n 1, 1) := by decide +kernel
theorem d_M_screen_33 : decode b_M_screen 33 = .ok (.iadd, 1) := by decide +kernel
theorem d_M_screen_34 : decode b_M_screen 34 = .ok (.iaload, 1) := by decide +kernel
theorem d_M_screen_35 : decode b_M_screen 35 = .ok (.goto 4, 3) := by decide +kernel
theorem d_M_screen_38 : decode b_M_screen 38 = .ok (.iconst 0, 1) := by decide +kernel
theorem d_M_screen_39 : decode b_M_screen 39 = .ok (.ireturn, 1) := by decide +kernel
abbrev r_M_screen : Room := ⟨1, 0, 0, 21⟩
def f_M_screen_39 (σ : Mem) (s0 : Int32) : Option (Int32 × Mem) :=
  some (s0, σ)
set_option maxRecDepth 100000 in
theorem m_M_screen_39 {κ : GC} {Γ : GA} (hX : Gx κ Γ 3 b_M_screen "PaneScreenModel" r_M_screen (some .int)) (σ : Mem) (s0 : Int32) : GG κ Γ 3 (gQ gqi κ Γ r_M_screen) 0 0 σ [none, none, none] 39 [.int s0] (f_M_screen_39 σ s0) := by
  unfold f_M_screen_39
  exact g_iret hX d_M_screen_39 (by decide) (by decide)
def f_M_screen_14 (σ : Mem) (x1 : Int32) (x2 : Int32) (s0 : Int32) : Option (Int32 × Mem) :=
  gbm (m2 σ 19 0 s0) fun u1 =>
  if (u1 19 0) = 0 then
    if gin ((24 * x2) + x1) 384 = true then
      f_M_screen_39 u1 (u1 20 ((24 * x2) + x1).toNatClampNeg)
    else none
  else
    f_M_screen_39 u1 0
set_option maxRecDepth 100000 in
theorem m_M_screen_14 {κ : GC} {Γ : GA} (hX : Gx κ Γ 3 b_M_screen "PaneScreenModel" r_M_screen (some .int)) (σ : Mem) (x1 : Int32) (x2 : Int32) (s0 : Int32) : GG κ Γ 3 (gQ gqi κ Γ r_M_screen) 0 0 σ [some (.ref (Γ.2.1 19)), some (.int x1), some (.int x2)] 14 [.int s0, .ref (Γ.2.1 19)] (f_M_screen_14 σ x1 x2 s0) := by
  unfold f_M_screen_14
  refine g_puti hX gp_M_75 d_M_screen_14 (n := 17) rfl sh_19 rfl ?_
  refine g_mem (fun u1 => ?_)
  refine g_aload_n hX 0 d_M_screen_17 (n := 18) rfl rfl rfl ?_
  refine g_geti hX gf_M_75 d_M_screen_18 (n := 21) rfl sh_19 rfl ?_
  refine g_if_ne hX 38 d_M_screen_21 (n := 24) rfl rfl ?_ ?_
  · refine g_iconst hX 0 d_M_screen_38 (n := 39) rfl k_iconst_0 ?_
    exact (g_sub (lw := [none, none, none]) (True.intro) (m_M_screen_39 hX u1 0))
  · refine g_aload_n hX 0 d_M_screen_24 (n := 25) rfl rfl rfl ?_
    refine g_geta hX 20 gf_M_7 d_M_screen_25 (n := 28) rfl sh_19 rfl ?_
    refine g_bipush hX 24 d_M_screen_28 (n := 30) rfl k_bipush_24 ?_
    refine g_iload_n hX 2 d_M_screen_30 (n := 31) rfl rfl rfl ?_
    refine g_imul hX d_M_screen_31 (n := 32) rfl ?_
    refine g_iload_n hX 1 d_M_screen_32 (n := 33) rfl rfl rfl ?_
    refine g_iadd hX d_M_screen_33 (n := 34) rfl ?_
    refine g_iald hX d_M_screen_34 (n := 35) rfl sh_20 ?_
    refine g_goto hX 39 d_M_screen_35 rfl ?_
    exact (g_sub (lw := [none, none, none]) (True.intro) (m_M_screen_39 hX u1 (u1 20 ((24 * x2) + x1).toNatClampNeg)))
def f_M_screen_0 (σ : Mem) (x1 : Int32) (x2 : Int32) : Option (Int32 × Mem) :=
  gb (f_M_onScreen x1 x2 σ) fun r2 u1 =>
  if r2 = 0 then
    f_M_screen_14 u1 x1 x2 1
  else
    f_M_screen_14 u1 x1 x2 0
set_option maxRecDepth 100000 in
theorem m_M_screen_0 {κ : GC} {Γ : GA} (hX : Gx κ Γ 3 b_M_screen "PaneScreenModel" r_M_screen (some .int)) (σ : Mem) (x1 : Int32) (x2 : Int32) : GG κ Γ 3 (gQ gqi κ Γ r_M_screen) 0 0 σ [some (.ref (Γ.2.1 19)), some (.int x1), some (.int x2)] 0 [] (f_M_screen_0 σ x1 x2) := by
  unfold f_M_screen_0
  refine g_aload_n hX 0 d_M_screen_0 (n := 1) rfl rfl rfl ?_
  refine g_iload_n hX 1 d_M_screen_1 (n := 2) rfl rfl rfl ?_
  refine g_iload_n hX 2 d_M_screen_2 (n := 3) rfl rfl rfl ?_
  refine g_cSi hX [_, _] rfl 0 0 (c_M_onScreen _ Γ x1 x2 σ) gw_M_171 rfl d_M_screen_3 (n := 6) rfl ⟨by decide, by decide⟩ ⟨by decide, by decide⟩ (Nat.le_of_ble_eq_true rfl) rfl rfl (fun r2 u1 => ?_)
  refine g_if_eq hX 13 d_M_screen_6 (n := 9) rfl rfl ?_ ?_
  · refine g_iconst hX 1 d_M_screen_13 (n := 14) rfl k_iconst_1 ?_
    exact (m_M_screen_14 hX u1 x1 x2 1)
  · refine g_iconst hX 0 d_M_screen_9 (n := 10) rfl k_iconst_0 ?_
    refine g_goto hX 14 d_M_screen_10 rfl ?_
    exact (m_M_screen_14 hX u1 x1 x2 0)
def f_M_screen (x1 : Int32) (x2 : Int32) (σ : Mem) : Option (Int32 × Mem) := f_M_screen_0 σ x1 x2
theorem c_M_screen (l : Launch) (Γ : GA) (x1 : Int32) (x2 : Int32) (σ : Mem) : gM gqi l y_M_screen b_M_screen 3 (some .int) r_M_screen [.ref (Γ.2.1 19), .int x1, .int x2] Γ σ (f_M_screen x1 x2 σ) :=
  gM.of [some (.ref (Γ.2.1 19)), some (.int x1), some (.int x2)] (by decide) (Nat.le_of_ble_eq_true rfl) rfl rfl (fun κ hX _ => m_M_screen_0 hX σ x1 x2)
/-! M_picture -/
theorem d_M_picture_0 : decode b_M_picture 0 = .ok (.aload_n 0, 1) := by decide +kernel
theorem d_M_picture_1 : decode b_M_picture 1 = .ok (.aload_n 0, 1) := by decide +kernel
theorem d_M_picture_2 : decode b_M_picture 2 = .ok (.iload_n 1, 1) := by decide +kernel
theorem d_M_picture_3 : decode b_M_picture 3 = .ok (.invokevirtual 127, 3) := by decide +kernel
theorem d_M_picture_6 : decode b_M_picture 6 = .ok (.ifCond .ne 7, 3) := by decide +kernel
theorem d_M_picture_9 : decode b_M_picture 9 = .ok (.iconst 1, 1) := by decide +kernel
theorem d_M_picture_10 : decode b_M_picture 10 = .ok (.goto 18, 3) := by decide +kernel
theorem d_M_picture_13 : decode b_M_picture 13 = .ok (.aload_n 0, 1) := by decide +kernel
theorem d_M_picture_14 : decode b_M_picture 14 = .ok (.iload_n 1, 1) := by decide +kernel
theorem d_M_picture_15 : decode b_M_picture 15 = .ok (.iload_n 2, 1) := by decide +kernel
theorem d_M_picture_16 : decode b_M_picture 16 = .ok (.iload_n 3, 1) := by decide +kernel
theorem d_M_picture_17 : decode b_M_picture 17 = .ok (.invokevirtual 85, 3) := by decide +kernel
theorem d_M_picture_20 : decode b_M_picture 20 = .ok (.ifCond .ne 7, 3) := by decide +kernel
theorem d_M_picture_23 : decode b_M_picture 23 = .ok (.iconst 2, 1) := by decide +kernel
theorem d_M_picture_24 : decode b_M_picture 24 = .ok (.goto 4, 3) := by decide +kernel
theorem d_M_picture_27 : decode b_M_picture 27 = .ok (.iconst 0, 1) := by decide +kernel
theorem d_M_picture_28 : decode b_M_picture 28 = .ok (.putfield 75, 3) := by decide +kernel
theorem d_M_picture_31 : decode b_M_picture 31 = .ok (.aload_n 0, 1) := by decide +kernel
theorem d_M_picture_32 : decode b_M_picture 32 = .ok (.getfield 75, 3) := by decide +kernel
theorem d_M_picture_35 : decode b_M_picture 35 = .ok (.ifCond .ne 23, 3) := by decide +kernel
theorem d_M_picture_38 : decode b_M_picture 38 = .ok (.aload_n 0, 1) := by decide +kernel
theorem d_M_picture_39 : decode b_M_picture 39 = .ok (.getfield 41, 3) := by decide +kernel
theorem d_M_picture_42 : decode b_M_picture 42 = .ok (.sipush 384, 3) := by decide +kernel
theorem d_M_picture_45 : decode b_M_picture 45 = .ok (.iload_n 1, 1) := by decide +kernel
theorem d_M_picture_46 : decode b_M_picture 46 = .ok (.imul, 1) := by decide +kernel
theorem d_M_picture_47 : decode b_M_picture 47 = .ok (.bipush 24, 2) := by decide +kernel
theorem d_M_picture_49 : decode b_M_picture 49 = .ok (.iload_n 3, 1) := by decide +kernel
theorem d_M_picture_50 : decode b_M_picture 50 = .ok (.imul, 1) := by decide +kernel
theorem d_M_picture_51 : decode b_M_picture 51 = .ok (.iadd, 1) := by decide +kernel
theorem d_M_picture_52 : decode b_M_picture 52 = .ok (.iload_n 2, 1) := by decide +kernel
theorem d_M_picture_53 : decode b_M_picture 53 = .ok (.iadd, 1) := by decide +kernel
theorem d_M_picture_54 : decode b_M_picture 54 = .ok (.iaload, 1) := by decide +kernel
theorem d_M_picture_55 : decode b_M_picture 55 = .ok (.goto 4, 3) := by decide +kernel
theorem d_M_picture_58 : decode b_M_picture 58 = .ok (.iconst 0, 1) := by decide +kernel
theorem d_M_picture_59 : decode b_M_picture 59 = .ok (.ireturn, 1) := by decide +kernel
abbrev r_M_picture : Room := ⟨1, 0, 0, 23⟩
def f_M_picture_59 (σ : Mem) (s0 : Int32) : Option (Int32 × Mem) :=
  some (s0, σ)
set_option maxRecDepth 100000 in
theorem m_M_picture_59 {κ : GC} {Γ : GA} (hX : Gx κ Γ 4 b_M_picture "PaneScreenModel" r_M_picture (some .int)) (σ : Mem) (s0 : Int32) : GG κ Γ 4 (gQ gqi κ Γ r_M_picture) 0 0 σ [none, none, none, none] 59 [.int s0] (f_M_picture_59 σ s0) := by
  unfold f_M_picture_59
  exact g_iret hX d_M_picture_59 (by decide) (by decide)
def f_M_picture_28 (σ : Mem) (x1 : Int32) (x2 : Int32) (x3 : Int32) (s0 : Int32) : Option (Int32 × Mem) :=
  gbm (m2 σ 19 0 s0) fun u1 =>
  if (u1 19 0) = 0 then
    if gin (((384 * x1) + (24 * x3)) + x2) 3072 = true then
      f_M_picture_59 u1 (u1 30 (((384 * x1) + (24 * x3)) + x2).toNatClampNeg)
    else none
  else
    f_M_picture_59 u1 0
set_option maxRecDepth 100000 in
theorem m_M_picture_28 {κ : GC} {Γ : GA} (hX : Gx κ Γ 4 b_M_picture "PaneScreenModel" r_M_picture (some .int)) (σ : Mem) (x1 : Int32) (x2 : Int32) (x3 : Int32) (s0 : Int32) : GG κ Γ 4 (gQ gqi κ Γ r_M_picture) 0 0 σ [some (.ref (Γ.2.1 19)), some (.int x1), some (.int x2), some (.int x3)] 28 [.int s0, .ref (Γ.2.1 19)] (f_M_picture_28 σ x1 x2 x3 s0) := by
  unfold f_M_picture_28
  refine g_puti hX gp_M_75 d_M_picture_28 (n := 31) rfl sh_19 rfl ?_
  refine g_mem (fun u1 => ?_)
  refine g_aload_n hX 0 d_M_picture_31 (n := 32) rfl rfl rfl ?_
  refine g_geti hX gf_M_75 d_M_picture_32 (n := 35) rfl sh_19 rfl ?_
  refine g_if_ne hX 58 d_M_picture_35 (n := 38) rfl rfl ?_ ?_
  · refine g_iconst hX 0 d_M_picture_58 (n := 59) rfl k_iconst_0 ?_
    exact (g_sub (lw := [none, none, none, none]) (True.intro) (m_M_picture_59 hX u1 0))
  · refine g_aload_n hX 0 d_M_picture_38 (n := 39) rfl rfl rfl ?_
    refine g_geta hX 30 gf_M_41 d_M_picture_39 (n := 42) rfl sh_19 rfl ?_
    refine g_sipush hX 384 d_M_picture_42 (n := 45) rfl k_sipush_384 ?_
    refine g_iload_n hX 1 d_M_picture_45 (n := 46) rfl rfl rfl ?_
    refine g_imul hX d_M_picture_46 (n := 47) rfl ?_
    refine g_bipush hX 24 d_M_picture_47 (n := 49) rfl k_bipush_24 ?_
    refine g_iload_n hX 3 d_M_picture_49 (n := 50) rfl rfl rfl ?_
    refine g_imul hX d_M_picture_50 (n := 51) rfl ?_
    refine g_iadd hX d_M_picture_51 (n := 52) rfl ?_
    refine g_iload_n hX 2 d_M_picture_52 (n := 53) rfl rfl rfl ?_
    refine g_iadd hX d_M_picture_53 (n := 54) rfl ?_
    refine g_iald hX d_M_picture_54 (n := 55) rfl sh_30 ?_
    refine g_goto hX 59 d_M_picture_55 rfl ?_
    exact (g_sub (lw := [none, none, none, none]) (True.intro) (m_M_picture_59 hX u1 (u1 30 (((384 * x1) + (24 * x3)) + x2).toNatClampNeg)))
def f_M_picture_0 (σ : Mem) (x1 : Int32) (x2 : Int32) (x3 : Int32) : Option (Int32 × Mem) :=
  gb (f_M_isOpen x1 σ) fun r2 u1 =>
  if r2 = 0 then
    f_M_picture_28 u1 x1 x2 x3 1
  else
    gb (f_M_inPicture x1 x2 x3 u1) fun r4 u3 =>
    if r4 = 0 then
      f_M_picture_28 u3 x1 x2 x3 2
    else
      f_M_picture_28 u3 x1 x2 x3 0
set_option maxRecDepth 100000 in
theorem m_M_picture_0 {κ : GC} {Γ : GA} (hX : Gx κ Γ 4 b_M_picture "PaneScreenModel" r_M_picture (some .int)) (σ : Mem) (x1 : Int32) (x2 : Int32) (x3 : Int32) : GG κ Γ 4 (gQ gqi κ Γ r_M_picture) 0 0 σ [some (.ref (Γ.2.1 19)), some (.int x1), some (.int x2), some (.int x3)] 0 [] (f_M_picture_0 σ x1 x2 x3) := by
  unfold f_M_picture_0
  refine g_aload_n hX 0 d_M_picture_0 (n := 1) rfl rfl rfl ?_
  refine g_aload_n hX 0 d_M_picture_1 (n := 2) rfl rfl rfl ?_
  refine g_iload_n hX 1 d_M_picture_2 (n := 3) rfl rfl rfl ?_
  refine g_cVi hX [_] rfl 0 0 (c_M_isOpen _ Γ x1 σ) gw_M_127 rfl sh_19 rfl d_M_picture_3 (n := 6) rfl ⟨by decide, by decide⟩ ⟨by decide, by decide⟩ (Nat.le_of_ble_eq_true rfl) rfl rfl (fun r2 u1 => ?_)
  refine g_if_ne hX 13 d_M_picture_6 (n := 9) rfl rfl ?_ ?_
  · refine g_aload_n hX 0 d_M_picture_13 (n := 14) rfl rfl rfl ?_
    refine g_iload_n hX 1 d_M_picture_14 (n := 15) rfl rfl rfl ?_
    refine g_iload_n hX 2 d_M_picture_15 (n := 16) rfl rfl rfl ?_
    refine g_iload_n hX 3 d_M_picture_16 (n := 17) rfl rfl rfl ?_
    refine g_cVi hX [_, _, _] rfl 0 0 (c_M_inPicture _ Γ x1 x2 x3 u1) gw_M_85 rfl sh_19 rfl d_M_picture_17 (n := 20) rfl ⟨by decide, by decide⟩ ⟨by decide, by decide⟩ (Nat.le_of_ble_eq_true rfl) rfl rfl (fun r4 u3 => ?_)
    refine g_if_ne hX 27 d_M_picture_20 (n := 23) rfl rfl ?_ ?_
    · refine g_iconst hX 0 d_M_picture_27 (n := 28) rfl k_iconst_0 ?_
      exact (m_M_picture_28 hX u3 x1 x2 x3 0)
    · refine g_iconst hX 2 d_M_picture_23 (n := 24) rfl k_iconst_2 ?_
      refine g_goto hX 28 d_M_picture_24 rfl ?_
      exact (m_M_picture_28 hX u3 x1 x2 x3 2)
  · refine g_iconst hX 1 d_M_picture_9 (n := 10) rfl k_iconst_1 ?_
    refine g_goto hX 28 d_M_picture_10 rfl ?_
    exact (m_M_picture_28 hX u1 x1 x2 x3 1)
def f_M_picture (x1 : Int32) (x2 : Int32) (x3 : Int32) (σ : Mem) : Option (Int32 × Mem) := f_M_picture_0 σ x1 x2 x3
theorem c_M_picture (l : Launch) (Γ : GA) (x1 : Int32) (x2 : Int32) (x3 : Int32) (σ : Mem) : gM gqi l y_M_picture b_M_picture 4 (some .int) r_M_picture [.ref (Γ.2.1 19), .int x1, .int x2, .int x3] Γ σ (f_M_picture x1 x2 x3 σ) :=
  gM.of [some (.ref (Γ.2.1 19)), some (.int x1), some (.int x2), some (.int x3)] (by decide) (Nat.le_of_ble_eq_true rfl) rfl rfl (fun κ hX _ => m_M_picture_0 hX σ x1 x2 x3)
/-! M_at -/
theorem d_M_at_0 : decode b_M_at 0 = .ok (.aload_n 0, 1) := by decide +kernel
theorem d_M_at_1 : decode b_M_at 1 = .ok (.iload_n 1, 1) := by decide +kernel
theorem d_M_at_2 : decode b_M_at 2 = .ok (.iload_n 2, 1) := by decide +kernel
theorem d_M_at_3 : decode b_M_at 3 = .ok (.invokestatic 171, 3) := by decide +kernel
theorem d_M_at_6 : decode b_M_at 6 = .ok (.ifCond .eq 7, 3) := by decide +kernel
theorem d_M_at_9 : decode b_M_at 9 = .ok (.iconst 0, 1) := by decide +kernel
theorem d_M_at_10 : decode b_M_at 10 = .ok (.goto 4, 3) := by decide +kernel
theorem d_M_at_13 : decode b_M_at 13 = .ok (.iconst 1, 1) := by decide +kernel
theorem d_M_at_14 : decode b_M_at 14 = .ok (.putfield 75, 3) := by decide +kernel
theorem d_M_at_17 : decode b_M_at 17 = .ok (.aload_n 0, 1) := by decide +kernel
theorem d_M_at_18 : decode b_M_at 18 = .ok (.getfield 75, 3) := by decide +kernel
theorem d_M_at_21 : decode b_M_at 21 = .ok (.ifCond .ne 12, 3) := by decide +kernel
theorem d_M_at_24 : decode b_M_at 24 = .ok (.aload_n 0, 1) := by decide +kernel
theorem d_M_at_25 : decode b_M_at 25 = .ok (.iload_n 1, 1) := by decide +kernel
theorem d_M_at_26 : decode b_M_at 26 = .ok (.iload_n 2, 1) := by decide +kernel
theorem d_M_at_27 : decode b_M_at 27 = .ok (.invokevirtual 165, 3) := by decide +kernel
theorem d_M_at_30 : decode b_M_at 30 = .ok (.goto 4, 3) := by decide +kernel
theorem d_M_at_33 : decode b_M_at 33 = .ok (.iconst 0, 1) := by decide +kernel
theorem d_M_at_34 : decode b_M_at 34 = .ok (.ireturn, 1) := by decide +kernel
abbrev r_M_at : Room := ⟨2, 0, 0, 48⟩
def f_M_at_34 (σ : Mem) (s0 : Int32) : Option (Int32 × Mem) :=
  some (s0, σ)
set_option maxRecDepth 100000 in
theorem m_M_at_34 {κ : GC} {Γ : GA} (hX : Gx κ Γ 3 b_M_at "PaneScreenModel" r_M_at (some .int)) (σ : Mem) (s0 : Int32) : GG κ Γ 3 (gQ gqi κ Γ r_M_at) 0 0 σ [none, none, none] 34 [.int s0] (f_M_at_34 σ s0) := by
  unfold f_M_at_34
  exact g_iret hX d_M_at_34 (by decide) (by decide)
def f_M_at_14 (σ : Mem) (x1 : Int32) (x2 : Int32) (s0 : Int32) : Option (Int32 × Mem) :=
  gbm (m2 σ 19 0 s0) fun u1 =>
  if (u1 19 0) = 0 then
    gb (f_M_owner x1 x2 u1) fun r3 u2 =>
    f_M_at_34 u2 r3
  else
    f_M_at_34 u1 0
set_option maxRecDepth 100000 in
theorem m_M_at_14 {κ : GC} {Γ : GA} (hX : Gx κ Γ 3 b_M_at "PaneScreenModel" r_M_at (some .int)) (σ : Mem) (x1 : Int32) (x2 : Int32) (s0 : Int32) : GG κ Γ 3 (gQ gqi κ Γ r_M_at) 0 0 σ [some (.ref (Γ.2.1 19)), some (.int x1), some (.int x2)] 14 [.int s0, .ref (Γ.2.1 19)] (f_M_at_14 σ x1 x2 s0) := by
  unfold f_M_at_14
  refine g_puti hX gp_M_75 d_M_at_14 (n := 17) rfl sh_19 rfl ?_
  refine g_mem (fun u1 => ?_)
  refine g_aload_n hX 0 d_M_at_17 (n := 18) rfl rfl rfl ?_
  refine g_geti hX gf_M_75 d_M_at_18 (n := 21) rfl sh_19 rfl ?_
  refine g_if_ne hX 33 d_M_at_21 (n := 24) rfl rfl ?_ ?_
  · refine g_iconst hX 0 d_M_at_33 (n := 34) rfl k_iconst_0 ?_
    exact (g_sub (lw := [none, none, none]) (True.intro) (m_M_at_34 hX u1 0))
  · refine g_aload_n hX 0 d_M_at_24 (n := 25) rfl rfl rfl ?_
    refine g_iload_n hX 1 d_M_at_25 (n := 26) rfl rfl rfl ?_
    refine g_iload_n hX 2 d_M_at_26 (n := 27) rfl rfl rfl ?_
    refine g_cVi hX [_, _] rfl 0 0 (c_M_owner _ Γ x1 x2 u1) gw_M_165 rfl sh_19 rfl d_M_at_27 (n := 30) rfl ⟨by decide, by decide⟩ ⟨by decide, by decide⟩ (Nat.le_of_ble_eq_true rfl) rfl rfl (fun r3 u2 => ?_)
    refine g_goto hX 34 d_M_at_30 rfl ?_
    exact (g_sub (lw := [none, none, none]) (True.intro) (m_M_at_34 hX u2 r3))
def f_M_at_0 (σ : Mem) (x1 : Int32) (x2 : Int32) : Option (Int32 × Mem) :=
  gb (f_M_onScreen x1 x2 σ) fun r2 u1 =>
  if r2 = 0 then
    f_M_at_14 u1 x1 x2 1
  else
    f_M_at_14 u1 x1 x2 0
set_option maxRecDepth 100000 in
theorem m_M_at_0 {κ : GC} {Γ : GA} (hX : Gx κ Γ 3 b_M_at "PaneScreenModel" r_M_at (some .int)) (σ : Mem) (x1 : Int32) (x2 : Int32) : GG κ Γ 3 (gQ gqi κ Γ r_M_at) 0 0 σ [some (.ref (Γ.2.1 19)), some (.int x1), some (.int x2)] 0 [] (f_M_at_0 σ x1 x2) := by
  unfold f_M_at_0
  refine g_aload_n hX 0 d_M_at_0 (n := 1) rfl rfl rfl ?_
  refine g_iload_n hX 1 d_M_at_1 (n := 2) rfl rfl rfl ?_
  refine g_iload_n hX 2 d_M_at_2 (n := 3) rfl rfl rfl ?_
  refine g_cSi hX [_, _] rfl 0 0 (c_M_onScreen _ Γ x1 x2 σ) gw_M_171 rfl d_M_at_3 (n := 6) rfl ⟨by decide, by decide⟩ ⟨by decide, by decide⟩ (Nat.le_of_ble_eq_true rfl) rfl rfl (fun r2 u1 => ?_)
  refine g_if_eq hX 13 d_M_at_6 (n := 9) rfl rfl ?_ ?_
  · refine g_iconst hX 1 d_M_at_13 (n := 14) rfl k_iconst_1 ?_
    exact (m_M_at_14 hX u1 x1 x2 1)
  · refine g_iconst hX 0 d_M_at_9 (n := 10) rfl k_iconst_0 ?_
    refine g_goto hX 14 d_M_at_10 rfl ?_
    exact (m_M_at_14 hX u1 x1 x2 0)
def f_M_at (x1 : Int32) (x2 : Int32) (σ : Mem) : Option (Int32 × Mem) := f_M_at_0 σ x1 x2
theorem c_M_at (l : Launch) (Γ : GA) (x1 : Int32) (x2 : Int32) (σ : Mem) : gM gqi l y_M_at b_M_at 3 (some .int) r_M_at [.ref (Γ.2.1 19), .int x1, .int x2] Γ σ (f_M_at x1 x2 σ) :=
  gM.of [some (.ref (Γ.2.1 19)), some (.int x1), some (.int x2)] (by decide) (Nat.le_of_ble_eq_true rfl) rfl rfl (fun κ hX _ => m_M_at_0 hX σ x1 x2)
/-! M_visible -/
theorem d_M_visible_0 : decode b_M_visible 0 = .ok (.aload_n 0, 1) := by decide +kernel
theorem d_M_visible_1 : decode b_M_visible 1 = .ok (.aload_n 0, 1) := by decide +kernel
theorem d_M_visible_2 : decode b_M_visible 2 = .ok (.iload_n 1, 1) := by decide +kernel
theorem d_M_visible_3 : decode b_M_visible 3 = .ok (.invokevirtual 127, 3) := by decide +kernel
theorem d_M_visible_6 : decode b_M_visible 6 = .ok (.ifCond .eq 7, 3) := by decide +kernel
theorem d_M_visible_9 : decode b_M_visible 9 = .ok (.iconst 0, 1) := by decide +kernel
theorem d_M_visible_10 : decode b_M_visible 10 = .ok (.goto 4, 3) := by decide +kernel
theorem d_M_visible_13 : decode b_M_visible 13 = .ok (.iconst 1, 1) := by decide +kernel
theorem d_M_visible_14 : decode b_M_visible 14 = .ok (.putfield 75, 3) := by decide +kernel
theorem d_M_visible_17 : decode b_M_visible 17 = .ok (.iconst 0, 1) := by decide +kernel
theorem d_M_visible_18 : decode b_M_visible 18 = .ok (.istore_n 2, 1) := by decide +kernel
theorem d_M_visible_19 : decode b_M_visible 19 = .ok (.iconst 0, 1) := by decide +kernel
theorem d_M_visible_20 : decode b_M_visible 20 = .ok (.istore_n 3, 1) := by decide +kernel
theorem d_M_visible_21 : decode b_M_visible 21 = .ok (.iload_n 3, 1) := by decide +kernel
theorem d_M_visible_22 : decode b_M_visible 22 = .ok (.sipush 384, 3) := by decide +kernel
theorem d_M_visible_25 : decode b_M_visible 25 = .ok (.if_icmp .ge 40, 3) := by decide +kernel
theorem d_M_visible_28 : decode b_M_visible 28 = .ok (.aload_n 0, 1) := by decide +kernel
theorem d_M_visible_29 : decode b_M_visible 29 = .ok (.getfield 75, 3) := by decide +kernel
theorem d_M_visible_32 : decode b_M_visible 32 = .ok (.ifCond .ne 33, 3) := by decide +kernel
theorem d_M_visible_35 : decode b_M_visible 35 = .ok (.iload_n 2, 1) := by decide +kernel
theorem d_M_visible_36 : decode b_M_visible 36 = .ok (.aload_n 0, 1) := by decide +kernel
theorem d_M_visible_37 : decode b_M_visible 37 = .ok (.iload_n 3, 1) := by decide +kernel
theorem d_M_visible_38 : decode b_M_visible 38 = .ok (.bipush 24, 2) := by decide +kernel
theorem d_M_visible_40 : decode b_M_visible 40 = .ok (.irem, 1) := by decide +kernel
theorem d_M_visible_41 : decode b_M_visible 41 = .ok (.iload_n 3, 1) := by decide +kernel
theorem d_M_visible_42 : decode b_M_visible 42 = .ok (.bipush 24, 2) := by decide +kernel
theorem d_M_visible_44 : decode b_M_visible 44 = .ok (.idiv, 1) := by decide +kernel
theorem d_M_visible_45 : decode b_M_visible 45 = .ok (.invokevirtual 165, 3) := by decide +kernel
theorem d_M_visible_48 : decode b_M_visible 48 = .ok (.iload_n 1, 1) := by decide +kernel
theorem d_M_visible_49 : decode b_M_visible 49 = .ok (.if_icmp .ne 7, 3) := by decide +kernel
theorem d_M_visible_52 : decode b_M_visible 52 = .ok (.iconst 1, 1) := by decide +kernel
theorem d_M_visible_53 : decode b_M_visible 53 = .ok (.goto 4, 3) := by decide +kernel
theorem d_M_visible_56 : decode b_M_visible 56 = .ok (.iconst 0, 1) := by decide +kernel
theorem d_M_visible_57 : decode b_M_visible 57 = .ok (.iadd, 1) := by decide +kernel
theorem d_M_visible_58 : decode b_M_visible 58 = .ok (.istore_n 2, 1) := by decide +kernel
theorem d_M_visible_59 : decode b_M_visible 59 = .ok (.iinc 3 1, 3) := by decide +kernel
theorem d_M_visible_62 : decode b_M_visible 62 = .ok (.goto (-41), 3) := by decide +kernel
theorem d_M_visible_65 : decode b_M_visible 65 = .ok (.iload_n 2, 1) := by decide +kernel
theorem d_M_visible_66 : decode b_M_visible 66 = .ok (.ireturn, 1) := by decide +kernel
abbrev r_M_visible : Room := ⟨2, 0, 0, 48⟩
def f_M_visible_65 (σ : Mem) (x2 : Int32) : Option (Int32 × Mem) :=
  some (x2, σ)
set_option maxRecDepth 100000 in
theorem m_M_visible_65 {κ : GC} {Γ : GA} (hX : Gx κ Γ 4 b_M_visible "PaneScreenModel" r_M_visible (some .int)) (σ : Mem) (x2 : Int32) : GG κ Γ 4 (gQ gqi κ Γ r_M_visible) 0 0 σ [none, none, some (.int x2), none] 65 [] (f_M_visible_65 σ x2) := by
  unfold f_M_visible_65
  refine g_iload_n hX 2 d_M_visible_65 (n := 66) rfl rfl rfl ?_
  exact g_iret hX d_M_visible_66 (by decide) (by decide)
def f_M_visible_57 (K21 : Mem → Int32 → Int32 → Int32 → Option (Int32 × Mem)) (σ : Mem) (x1 : Int32) (x3 : Int32) (s0 : Int32) (s1 : Int32) : Option (Int32 × Mem) :=
  gbi (s1 + s0) fun y1 =>
  K21 σ x1 y1 (x3 + 1)
set_option maxRecDepth 100000 in
theorem m_M_visible_57 {κ : GC} {Γ : GA} (hX : Gx κ Γ 4 b_M_visible "PaneScreenModel" r_M_visible (some .int)) (K21 : Mem → Int32 → Int32 → Int32 → Option (Int32 × Mem)) (hK21 : ∀ (σ : Mem) (x1 : Int32) (x2 : Int32) (x3 : Int32), GG κ Γ 4 (gQ gqi κ Γ r_M_visible) 0 0 σ [some (.ref (Γ.2.1 19)), some (.int x1), some (.int x2), some (.int x3)] 21 [] (K21 σ x1 x2 x3)) (σ : Mem) (x1 : Int32) (x3 : Int32) (s0 : Int32) (s1 : Int32) : GG κ Γ 4 (gQ gqi κ Γ r_M_visible) 0 0 σ [some (.ref (Γ.2.1 19)), some (.int x1), none, some (.int x3)] 57 [.int s0, .int s1] (f_M_visible_57 K21 σ x1 x3 s0 s1) := by
  unfold f_M_visible_57
  refine g_iadd hX d_M_visible_57 (n := 58) rfl ?_
  refine g_top (fun y1 => ?_)
  refine g_istore_n hX 2 [_, _, _, _] d_M_visible_58 (n := 59) rfl rfl (by decide) rfl ?_
  refine g_iinc hX 1 _ [_, _, _, _] d_M_visible_59 (n := 62) rfl rfl k_iconst_1 rfl (by decide) rfl ?_
  refine g_goto hX 21 d_M_visible_62 rfl ?_
  exact (hK21 σ x1 y1 (x3 + 1))
def f_M_visible_21B (K21 : Mem → Int32 → Int32 → Int32 → Option (Int32 × Mem)) (σ : Mem) (x1 : Int32) (x2 : Int32) (x3 : Int32) : Option (Int32 × Mem) :=
  if 384 ≤ x3 then
    f_M_visible_65 σ x2
  else
    if (σ 19 0) = 0 then
      gb (f_M_owner (x3 - x3 / 24 * 24) (x3 / 24) σ) fun r2 u1 =>
      if r2 = x1 then
        f_M_visible_57 K21 u1 x1 x3 1 x2
      else
        f_M_visible_57 K21 u1 x1 x3 0 x2
    else
      f_M_visible_65 σ x2
set_option maxRecDepth 100000 in
theorem m_M_visible_21B {κ : GC} {Γ : GA} (hX : Gx κ Γ 4 b_M_visible "PaneScreenModel" r_M_visible (some .int)) (K21 : Mem → Int32 → Int32 → Int32 → Option (Int32 × Mem)) (hK21 : ∀ (σ : Mem) (x1 : Int32) (x2 : Int32) (x3 : Int32), GG κ Γ 4 (gQ gqi κ Γ r_M_visible) 0 0 σ [some (.ref (Γ.2.1 19)), some (.int x1), some (.int x2), some (.int x3)] 21 [] (K21 σ x1 x2 x3)) (σ : Mem) (x1 : Int32) (x2 : Int32) (x3 : Int32) : GG κ Γ 4 (gQ gqi κ Γ r_M_visible) 0 0 σ [some (.ref (Γ.2.1 19)), some (.int x1), some (.int x2), some (.int x3)] 21 [] (f_M_visible_21B K21 σ x1 x2 x3) := by
  unfold f_M_visible_21B
  refine g_iload_n hX 3 d_M_visible_21 (n := 22) rfl rfl rfl ?_
  refine g_sipush hX 384 d_M_visible_22 (n := 25) rfl k_sipush_384 ?_
  refine g_icmp_ge hX 65 d_M_visible_25 (n := 28) rfl rfl ?_ ?_
  · exact (g_sub (lw := [none, none, some (.int x2), none]) (And.intro rfl (True.intro)) (m_M_visible_65 hX σ x2))
  · refine g_aload_n hX 0 d_M_visible_28 (n := 29) rfl rfl rfl ?_
    refine g_geti hX gf_M_75 d_M_visible_29 (n := 32) rfl sh_19 rfl ?_
    refine g_if_ne hX 65 d_M_visible_32 (n := 35) rfl rfl ?_ ?_
    · exact (g_sub (lw := [none, none, some (.int x2), none]) (And.intro rfl (True.intro)) (m_M_visible_65 hX σ x2))
    · refine g_iload_n hX 2 d_M_visible_35 (n := 36) rfl rfl rfl ?_
      refine g_aload_n hX 0 d_M_visible_36 (n := 37) rfl rfl rfl ?_
      refine g_iload_n hX 3 d_M_visible_37 (n := 38) rfl rfl rfl ?_
      refine g_bipush hX 24 d_M_visible_38 (n := 40) rfl k_bipush_24 ?_
      refine g_iremK hX (by decide) d_M_visible_40 (n := 41) rfl ?_
      refine g_iload_n hX 3 d_M_visible_41 (n := 42) rfl rfl rfl ?_
      refine g_bipush hX 24 d_M_visible_42 (n := 44) rfl k_bipush_24 ?_
      refine g_idivK hX (by decide) d_M_visible_44 (n := 45) rfl ?_
      refine g_cVi hX [_, _] rfl 0 0 (c_M_owner _ Γ (x3 - x3 / 24 * 24) (x3 / 24) σ) gw_M_165 rfl sh_19 rfl d_M_visible_45 (n := 48) rfl ⟨by decide, by decide⟩ ⟨by decide, by decide⟩ (Nat.le_of_ble_eq_true rfl) rfl rfl (fun r2 u1 => ?_)
      refine g_iload_n hX 1 d_M_visible_48 (n := 49) rfl rfl rfl ?_
      refine g_icmp_ne hX 56 d_M_visible_49 (n := 52) rfl rfl ?_ ?_
      · refine g_iconst hX 0 d_M_visible_56 (n := 57) rfl k_iconst_0 ?_
        exact (g_sub (lw := [some (.ref (Γ.2.1 19)), some (.int x1), none, some (.int x3)]) (And.intro rfl (And.intro rfl (And.intro rfl (True.intro)))) (m_M_visible_57 hX K21 hK21 u1 x1 x3 0 x2))
      · refine g_iconst hX 1 d_M_visible_52 (n := 53) rfl k_iconst_1 ?_
        refine g_goto hX 57 d_M_visible_53 rfl ?_
        exact (g_sub (lw := [some (.ref (Γ.2.1 19)), some (.int x1), none, some (.int x3)]) (And.intro rfl (And.intro rfl (And.intro rfl (True.intro)))) (m_M_visible_57 hX K21 hK21 u1 x1 x3 1 x2))
def f_M_visible_21 (n : Nat) : Mem → Int32 → Int32 → Int32 → Option (Int32 × Mem) := gfix (fun _ _ _ _ => none) (fun K21 => f_M_visible_21B K21) n
theorem m_M_visible_21 {κ : GC} {Γ : GA} (hX : Gx κ Γ 4 b_M_visible "PaneScreenModel" r_M_visible (some .int)) (n : Nat) : ∀ (σ : Mem) (x1 : Int32) (x2 : Int32) (x3 : Int32), GG κ Γ 4 (gQ gqi κ Γ r_M_visible) 0 0 σ [some (.ref (Γ.2.1 19)), some (.int x1), some (.int x2), some (.int x3)] 21 [] (f_M_visible_21 n σ x1 x2 x3) := by
  induction n with
  | zero => intros; exact g_none
  | succ n ih => intro σ x1 x2 x3; exact m_M_visible_21B hX (f_M_visible_21 n) ih σ x1 x2 x3
def f_M_visible_14 (σ : Mem) (x1 : Int32) (s0 : Int32) : Option (Int32 × Mem) :=
  gbm (m2 σ 19 0 s0) fun u1 =>
  f_M_visible_21 gN u1 x1 0 0
set_option maxRecDepth 100000 in
theorem m_M_visible_14 {κ : GC} {Γ : GA} (hX : Gx κ Γ 4 b_M_visible "PaneScreenModel" r_M_visible (some .int)) (σ : Mem) (x1 : Int32) (s0 : Int32) : GG κ Γ 4 (gQ gqi κ Γ r_M_visible) 0 0 σ [some (.ref (Γ.2.1 19)), some (.int x1), none, none] 14 [.int s0, .ref (Γ.2.1 19)] (f_M_visible_14 σ x1 s0) := by
  unfold f_M_visible_14
  refine g_puti hX gp_M_75 d_M_visible_14 (n := 17) rfl sh_19 rfl ?_
  refine g_mem (fun u1 => ?_)
  refine g_iconst hX 0 d_M_visible_17 (n := 18) rfl k_iconst_0 ?_
  refine g_istore_n hX 2 [_, _, _, _] d_M_visible_18 (n := 19) rfl rfl (by decide) rfl ?_
  refine g_iconst hX 0 d_M_visible_19 (n := 20) rfl k_iconst_0 ?_
  refine g_istore_n hX 3 [_, _, _, _] d_M_visible_20 (n := 21) rfl rfl (by decide) rfl ?_
  exact (m_M_visible_21 hX gN u1 x1 0 0)
def f_M_visible_0 (σ : Mem) (x1 : Int32) : Option (Int32 × Mem) :=
  gb (f_M_isOpen x1 σ) fun r2 u1 =>
  if r2 = 0 then
    f_M_visible_14 u1 x1 1
  else
    f_M_visible_14 u1 x1 0
set_option maxRecDepth 100000 in
theorem m_M_visible_0 {κ : GC} {Γ : GA} (hX : Gx κ Γ 4 b_M_visible "PaneScreenModel" r_M_visible (some .int)) (σ : Mem) (x1 : Int32) : GG κ Γ 4 (gQ gqi κ Γ r_M_visible) 0 0 σ [some (.ref (Γ.2.1 19)), some (.int x1), none, none] 0 [] (f_M_visible_0 σ x1) := by
  unfold f_M_visible_0
  refine g_aload_n hX 0 d_M_visible_0 (n := 1) rfl rfl rfl ?_
  refine g_aload_n hX 0 d_M_visible_1 (n := 2) rfl rfl rfl ?_
  refine g_iload_n hX 1 d_M_visible_2 (n := 3) rfl rfl rfl ?_
  refine g_cVi hX [_] rfl 0 0 (c_M_isOpen _ Γ x1 σ) gw_M_127 rfl sh_19 rfl d_M_visible_3 (n := 6) rfl ⟨by decide, by decide⟩ ⟨by decide, by decide⟩ (Nat.le_of_ble_eq_true rfl) rfl rfl (fun r2 u1 => ?_)
  refine g_if_eq hX 13 d_M_visible_6 (n := 9) rfl rfl ?_ ?_
  · refine g_iconst hX 1 d_M_visible_13 (n := 14) rfl k_iconst_1 ?_
    exact (m_M_visible_14 hX u1 x1 1)
  · refine g_iconst hX 0 d_M_visible_9 (n := 10) rfl k_iconst_0 ?_
    refine g_goto hX 14 d_M_visible_10 rfl ?_
    exact (m_M_visible_14 hX u1 x1 0)
def f_M_visible (x1 : Int32) (σ : Mem) : Option (Int32 × Mem) := f_M_visible_0 σ x1
theorem c_M_visible (l : Launch) (Γ : GA) (x1 : Int32) (σ : Mem) : gM gqi l y_M_visible b_M_visible 4 (some .int) r_M_visible [.ref (Γ.2.1 19), .int x1] Γ σ (f_M_visible x1 σ) :=
  gM.of [some (.ref (Γ.2.1 19)), some (.int x1), none, none] (by decide) (Nat.le_of_ble_eq_true rfl) rfl rfl (fun κ hX _ => m_M_visible_0 hX σ x1)
/-! M_tell -/
theorem d_M_tell_0 : decode b_M_tell 0 = .ok (.aload_n 0, 1) := by decide +kernel
theorem d_M_tell_1 : decode b_M_tell 1 = .ok (.getfield 130, 3) := by decide +kernel
theorem d_M_tell_4 : decode b_M_tell 4 = .ok (.bipush 12, 2) := by decide +kernel
theorem d_M_tell_6 : decode b_M_tell 6 = .ok (.if_icmp .ne 14, 3) := by decide +kernel
theorem d_M_tell_9 : decode b_M_tell 9 = .ok (.aload_n 0, 1) := by decide +kernel
theorem d_M_tell_10 : decode b_M_tell 10 = .ok (.dup, 1) := by decide +kernel
theorem d_M_tell_11 : decode b_M_tell 11 = .ok (.getfield 174, 3) := by decide +kernel
theorem d_M_tell_14 : decode b_M_tell 14 = .ok (.iconst 1, 1) := by decide +kernel
theorem d_M_tell_15 : decode b_M_tell 15 = .ok (.iadd, 1) := by decide +kernel
theorem d_M_tell_16 : decode b_M_tell 16 = .ok (.putfield 174, 3) := by decide +kernel
theorem d_M_tell_19 : decode b_M_tell 19 = .ok (.return_, 1) := by decide +kernel
theorem d_M_tell_20 : decode b_M_tell 20 = .ok (.aload_n 0, 1) := by decide +kernel
theorem d_M_tell_21 : decode b_M_tell 21 = .ok (.getfield 63, 3) := by decide +kernel
theorem d_M_tell_24 : decode b_M_tell 24 = .ok (.aload_n 0, 1) := by decide +kernel
theorem d_M_tell_25 : decode b_M_tell 25 = .ok (.getfield 130, 3) := by decide +kernel
theorem d_M_tell_28 : decode b_M_tell 28 = .ok (.iload_n 1, 1) := by decide +kernel
theorem d_M_tell_29 : decode b_M_tell 29 = .ok (.iastore, 1) := by decide +kernel
theorem d_M_tell_30 : decode b_M_tell 30 = .ok (.aload_n 0, 1) := by decide +kernel
theorem d_M_tell_31 : decode b_M_tell 31 = .ok (.getfield 66, 3) := by decide +kernel
theorem d_M_tell_34 : decode b_M_tell 34 = .ok (.aload_n 0, 1) := by decide +kernel
theorem d_M_tell_35 : decode b_M_tell 35 = .ok (.getfield 130, 3) := by decide +kernel
theorem d_M_tell_38 : decode b_M_tell 38 = .ok (.iload_n 2, 1) := by decide +kernel
theorem d_M_tell_39 : decode b_M_tell 39 = .ok (.iastore, 1) := by decide +kernel
theorem d_M_tell_40 : decode b_M_tell 40 = .ok (.aload_n 0, 1) := by decide +kernel
theorem d_M_tell_41 : decode b_M_tell 41 = .ok (.getfield 69, 3) := by decide +kernel
theorem d_M_tell_44 : decode b_M_tell 44 = .ok (.aload_n 0, 1) := by decide +kernel
theorem d_M_tell_45 : decode b_M_tell 45 = .ok (.getfield 130, 3) := by decide +kernel
theorem d_M_tell_48 : decode b_M_tell 48 = .ok (.iload_n 3, 1) := by decide +kernel
theorem d_M_tell_49 : decode b_M_tell 49 = .ok (.iastore, 1) := by decide +kernel
theorem d_M_tell_50 : decode b_M_tell 50 = .ok (.aload_n 0, 1) := by decide +kernel
theorem d_M_tell_51 : decode b_M_tell 51 = .ok (.getfield 72, 3) := by decide +kernel
theorem d_M_tell_54 : decode b_M_tell 54 = .ok (.aload_n 0, 1) := by decide +kernel
theorem d_M_tell_55 : decode b_M_tell 55 = .ok (.getfield 130, 3) := by decide +kernel
theorem d_M_tell_58 : decode b_M_tell 58 = .ok (.iload 4, 2) := by decide +kernel
theorem d_M_tell_60 : decode b_M_tell 60 = .ok (.iastore, 1) := by decide +kernel
theorem d_M_tell_61 : decode b_M_tell 61 = .ok (.aload_n 0, 1) := by decide +kernel
theorem d_M_tell_62 : decode b_M_tell 62 = .ok (.dup, 1) := by decide +kernel
theorem d_M_tell_63 : decode b_M_tell 63 = .ok (.getfield 130, 3) := by decide +kernel
theorem d_M_tell_66 : decode b_M_tell 66 = .ok (.iconst 1, 1) := by decide +kernel
theorem d_M_tell_67 : decode b_M_tell 67 = .ok (.iadd, 1) := by decide +kernel
theorem d_M_tell_68 : decode b_M_tell 68 = .ok (.putfield 130, 3) := by decide +kernel
theorem d_M_tell_71 : decode b_M_tell 71 = .ok (.return_, 1) := by decide +kernel
abbrev r_M_tell : Room := ⟨0, 0, 0, 0⟩
def f_M_tell_0 (σ : Mem) (x1 : Int32) (x2 : Int32) (x3 : Int32) (x4 : Int32) : Option Mem :=
  if (σ 19 26) = 12 then
    gbm (m2 σ 19 35 ((σ 19 35) + 1)) fun u6 =>
    some u6
  else
    if gin (σ 19 26) 12 = true then
      gbm (m2 σ 36 (σ 19 26).toNatClampNeg x1) fun u1 =>
      if gin (u1 19 26) 12 = true then
        gbm (m2 u1 37 (u1 19 26).toNatClampNeg x2) fun u2 =>
        if gin (u2 19 26) 12 = true then
          gbm (m2 u2 38 (u2 19 26).toNatClampNeg x3) fun u3 =>
          if gin (u3 19 26) 12 = true then
            gbm (m2 u3 39 (u3 19 26).toNatClampNeg x4) fun u4 =>
            gbm (m2 u4 19 26 ((u4 19 26) + 1)) fun u5 =>
            some u5
          else none
        else none
      else none
    else none
set_option maxRecDepth 100000 in
theorem m_M_tell_0 {κ : GC} {Γ : GA} (hX : Gx κ Γ 5 b_M_tell "PaneScreenModel" r_M_tell none) (σ : Mem) (x1 : Int32) (x2 : Int32) (x3 : Int32) (x4 : Int32) : GG κ Γ 5 (gQ gqv κ Γ r_M_tell) 0 0 σ [some (.ref (Γ.2.1 19)), some (.int x1), some (.int x2), some (.int x3), some (.int x4)] 0 [] (f_M_tell_0 σ x1 x2 x3 x4) := by
  unfold f_M_tell_0
  refine g_aload_n hX 0 d_M_tell_0 (n := 1) rfl rfl rfl ?_
  refine g_geti hX gf_M_130 d_M_tell_1 (n := 4) rfl sh_19 rfl ?_
  refine g_bipush hX 12 d_M_tell_4 (n := 6) rfl k_bipush_12 ?_
  refine g_icmp_ne hX 20 d_M_tell_6 (n := 9) rfl rfl ?_ ?_
  · refine g_aload_n hX 0 d_M_tell_20 (n := 21) rfl rfl rfl ?_
    refine g_geta hX 36 gf_M_63 d_M_tell_21 (n := 24) rfl sh_19 rfl ?_
    refine g_aload_n hX 0 d_M_tell_24 (n := 25) rfl rfl rfl ?_
    refine g_geti hX gf_M_130 d_M_tell_25 (n := 28) rfl sh_19 rfl ?_
    refine g_iload_n hX 1 d_M_tell_28 (n := 29) rfl rfl rfl ?_
    refine g_iast hX d_M_tell_29 (n := 30) rfl sh_36 ?_
    refine g_mem (fun u1 => ?_)
    refine g_aload_n hX 0 d_M_tell_30 (n := 31) rfl rfl rfl ?_
    refine g_geta hX 37 gf_M_66 d_M_tell_31 (n := 34) rfl sh_19 rfl ?_
    refine g_aload_n hX 0 d_M_tell_34 (n := 35) rfl rfl rfl ?_
    refine g_geti hX gf_M_130 d_M_tell_35 (n := 38) rfl sh_19 rfl ?_
    refine g_iload_n hX 2 d_M_tell_38 (n := 39) rfl rfl rfl ?_
    refine g_iast hX d_M_tell_39 (n := 40) rfl sh_37 ?_
    refine g_mem (fun u2 => ?_)
    refine g_aload_n hX 0 d_M_tell_40 (n := 41) rfl rfl rfl ?_
    refine g_geta hX 38 gf_M_69 d_M_tell_41 (n := 44) rfl sh_19 rfl ?_
    refine g_aload_n hX 0 d_M_tell_44 (n := 45) rfl rfl rfl ?_
    refine g_geti hX gf_M_130 d_M_tell_45 (n := 48) rfl sh_19 rfl ?_
    refine g_iload_n hX 3 d_M_tell_48 (n := 49) rfl rfl rfl ?_
    refine g_iast hX d_M_tell_49 (n := 50) rfl sh_38 ?_
    refine g_mem (fun u3 => ?_)
    refine g_aload_n hX 0 d_M_tell_50 (n := 51) rfl rfl rfl ?_
    refine g_geta hX 39 gf_M_72 d_M_tell_51 (n := 54) rfl sh_19 rfl ?_
    refine g_aload_n hX 0 d_M_tell_54 (n := 55) rfl rfl rfl ?_
    refine g_geti hX gf_M_130 d_M_tell_55 (n := 58) rfl sh_19 rfl ?_
    refine g_iload hX d_M_tell_58 (n := 60) rfl rfl ?_
    refine g_iast hX d_M_tell_60 (n := 61) rfl sh_39 ?_
    refine g_mem (fun u4 => ?_)
    refine g_aload_n hX 0 d_M_tell_61 (n := 62) rfl rfl rfl ?_
    refine g_dup hX d_M_tell_62 (n := 63) rfl rfl ?_
    refine g_geti hX gf_M_130 d_M_tell_63 (n := 66) rfl sh_19 rfl ?_
    refine g_iconst hX 1 d_M_tell_66 (n := 67) rfl k_iconst_1 ?_
    refine g_iadd hX d_M_tell_67 (n := 68) rfl ?_
    refine g_puti hX gp_M_130 d_M_tell_68 (n := 71) rfl sh_19 rfl ?_
    refine g_mem (fun u5 => ?_)
    exact g_vret hX d_M_tell_71 (by decide) (by decide)
  · refine g_aload_n hX 0 d_M_tell_9 (n := 10) rfl rfl rfl ?_
    refine g_dup hX d_M_tell_10 (n := 11) rfl rfl ?_
    refine g_geti hX gf_M_174 d_M_tell_11 (n := 14) rfl sh_19 rfl ?_
    refine g_iconst hX 1 d_M_tell_14 (n := 15) rfl k_iconst_1 ?_
    refine g_iadd hX d_M_tell_15 (n := 16) rfl ?_
    refine g_puti hX gp_M_174 d_M_tell_16 (n := 19) rfl sh_19 rfl ?_
    refine g_mem (fun u6 => ?_)
    exact g_vret hX d_M_tell_19 (by decide) (by decide)
def f_M_tell (x1 : Int32) (x2 : Int32) (x3 : Int32) (x4 : Int32) (σ : Mem) : Option Mem := f_M_tell_0 σ x1 x2 x3 x4
theorem c_M_tell (l : Launch) (Γ : GA) (x1 : Int32) (x2 : Int32) (x3 : Int32) (x4 : Int32) (σ : Mem) : gM gqv l y_M_tell b_M_tell 5 none r_M_tell [.ref (Γ.2.1 19), .int x1, .int x2, .int x3, .int x4] Γ σ (f_M_tell x1 x2 x3 x4 σ) :=
  gM.of [some (.ref (Γ.2.1 19)), some (.int x1), some (.int x2), some (.int x3), some (.int x4)] (by decide) (Nat.le_of_ble_eq_true rfl) rfl rfl (fun κ hX _ => m_M_tell_0 hX σ x1 x2 x3 x4)
