/-! S_scroll -/
theorem d_S_scroll_0 : decode b_S_scroll 0 = .ok (.aload_n 0, 1) := by decide +kernel
theorem d_S_scroll_1 : decode b_S_scroll 1 = .ok (.iload_n 1, 1) := by decide +kernel
theorem d_S_scroll_2 : decode b_S_scroll 2 = .ok (.invokevirtual 91, 3) := by decide +kernel
theorem d_S_scroll_5 : decode b_S_scroll 5 = .ok (.astore 4, 2) := by decide +kernel
theorem d_S_scroll_7 : decode b_S_scroll 7 = .ok (.iload_n 2, 1) := by decide +kernel
theorem d_S_scroll_8 : decode b_S_scroll 8 = .ok (.iload_n 3, 1) := by decide +kernel
theorem d_S_scroll_9 : decode b_S_scroll 9 = .ok (.invokestatic 55, 3) := by decide +kernel
theorem d_S_scroll_12 : decode b_S_scroll 12 = .ok (.aload_n 0, 1) := by decide +kernel
theorem d_S_scroll_13 : decode b_S_scroll 13 = .ok (.getfield 30, 3) := by decide +kernel
theorem d_S_scroll_16 : decode b_S_scroll 16 = .ok (.invokevirtual 159, 3) := by decide +kernel
theorem d_S_scroll_19 : decode b_S_scroll 19 = .ok (.iconst 0, 1) := by decide +kernel
theorem d_S_scroll_20 : decode b_S_scroll 20 = .ok (.istore 5, 2) := by decide +kernel
theorem d_S_scroll_22 : decode b_S_scroll 22 = .ok (.iload 5, 2) := by decide +kernel
theorem d_S_scroll_24 : decode b_S_scroll 24 = .ok (.aload 4, 2) := by decide +kernel
theorem d_S_scroll_26 : decode b_S_scroll 26 = .ok (.getfield 101, 3) := by decide +kernel
theorem d_S_scroll_29 : decode b_S_scroll 29 = .ok (.if_icmp .ge 90, 3) := by decide +kernel
theorem d_S_scroll_32 : decode b_S_scroll 32 = .ok (.iconst 0, 1) := by decide +kernel
theorem d_S_scroll_33 : decode b_S_scroll 33 = .ok (.istore 6, 2) := by decide +kernel
theorem d_S_scroll_35 : decode b_S_scroll 35 = .ok (.iload 6, 2) := by decide +kernel
theorem d_S_scroll_37 : decode b_S_scroll 37 = .ok (.aload 4, 2) := by decide +kernel
theorem d_S_scroll_39 : decode b_S_scroll 39 = .ok (.getfield 98, 3) := by decide +kernel
theorem d_S_scroll_42 : decode b_S_scroll 42 = .ok (.if_icmp .ge 71, 3) := by decide +kernel
theorem d_S_scroll_45 : decode b_S_scroll 45 = .ok (.aload 4, 2) := by decide +kernel
theorem d_S_scroll_47 : decode b_S_scroll 47 = .ok (.iload 6, 2) := by decide +kernel
theorem d_S_scroll_49 : decode b_S_scroll 49 = .ok (.iload_n 2, 1) := by decide +kernel
theorem d_S_scroll_50 : decode b_S_scroll 50 = .ok (.iadd, 1) := by decide +kernel
theorem d_S_scroll_51 : decode b_S_scroll 51 = .ok (.iload 5, 2) := by decide +kernel
theorem d_S_scroll_53 : decode b_S_scroll 53 = .ok (.iload_n 3, 1) := by decide +kernel
theorem d_S_scroll_54 : decode b_S_scroll 54 = .ok (.iadd, 1) := by decide +kernel
theorem d_S_scroll_55 : decode b_S_scroll 55 = .ok (.invokevirtual 126, 3) := by decide +kernel
theorem d_S_scroll_58 : decode b_S_scroll 58 = .ok (.istore 7, 2) := by decide +kernel
theorem d_S_scroll_60 : decode b_S_scroll 60 = .ok (.aload_n 0, 1) := by decide +kernel
theorem d_S_scroll_61 : decode b_S_scroll 61 = .ok (.getfield 30, 3) := by decide +kernel
theorem d_S_scroll_64 : decode b_S_scroll 64 = .ok (.getfield 130, 3) := by decide +kernel
theorem d_S_scroll_67 : decode b_S_scroll 67 = .ok (.aload 4, 2) := by decide +kernel
theorem d_S_scroll_69 : decode b_S_scroll 69 = .ok (.iload 6, 2) := by decide +kernel
theorem d_S_scroll_71 : decode b_S_scroll 71 = .ok (.iload 5, 2) := by decide +kernel
theorem d_S_scroll_73 : decode b_S_scroll 73 = .ok (.invokevirtual 133, 3) := by decide +kernel
theorem d_S_scroll_76 : decode b_S_scroll 76 = .ok (.iload 7, 2) := by decide +kernel
theorem d_S_scroll_78 : decode b_S_scroll 78 = .ok (.ifCond .eq 27, 3) := by decide +kernel
theorem d_S_scroll_81 : decode b_S_scroll 81 = .ok (.aload_n 0, 1) := by decide +kernel
theorem d_S_scroll_82 : decode b_S_scroll 82 = .ok (.getfield 30, 3) := by decide +kernel
theorem d_S_scroll_85 : decode b_S_scroll 85 = .ok (.getfield 162, 3) := by decide +kernel
theorem d_S_scroll_88 : decode b_S_scroll 88 = .ok (.aload 4, 2) := by decide +kernel
theorem d_S_scroll_90 : decode b_S_scroll 90 = .ok (.iload 6, 2) := by decide +kernel
theorem d_S_scroll_92 : decode b_S_scroll 92 = .ok (.iload_n 2, 1) := by decide +kernel
theorem d_S_scroll_93 : decode b_S_scroll 93 = .ok (.iadd, 1) := by decide +kernel
theorem d_S_scroll_94 : decode b_S_scroll 94 = .ok (.iload 5, 2) := by decide +kernel
theorem d_S_scroll_96 : decode b_S_scroll 96 = .ok (.iload_n 3, 1) := by decide +kernel
theorem d_S_scroll_97 : decode b_S_scroll 97 = .ok (.iadd, 1) := by decide +kernel
theorem d_S_scroll_98 : decode b_S_scroll 98 = .ok (.invokevirtual 133, 3) := by decide +kernel
theorem d_S_scroll_101 : decode b_S_scroll 101 = .ok (.iaload, 1) := by decide +kernel
theorem d_S_scroll_102 : decode b_S_scroll 102 = .ok (.goto 4, 3) := by decide +kernel
theorem d_S_scroll_105 : decode b_S_scroll 105 = .ok (.iconst 0, 1) := by decide +kernel
theorem d_S_scroll_106 : decode b_S_scroll 106 = .ok (.iastore, 1) := by decide +kernel
theorem d_S_scroll_107 : decode b_S_scroll 107 = .ok (.iinc 6 1, 3) := by decide +kernel
theorem d_S_scroll_110 : decode b_S_scroll 110 = .ok (.goto (-75), 3) := by decide +kernel
theorem d_S_scroll_113 : decode b_S_scroll 113 = .ok (.iinc 5 1, 3) := by decide +kernel
theorem d_S_scroll_116 : decode b_S_scroll 116 = .ok (.goto (-94), 3) := by decide +kernel
theorem d_S_scroll_119 : decode b_S_scroll 119 = .ok (.aload_n 0, 1) := by decide +kernel
theorem d_S_scroll_120 : decode b_S_scroll 120 = .ok (.aload 4, 2) := by decide +kernel
theorem d_S_scroll_122 : decode b_S_scroll 122 = .ok (.invokevirtual 87, 3) := by decide +kernel
theorem d_S_scroll_125 : decode b_S_scroll 125 = .ok (.return_, 1) := by decide +kernel
abbrev r_S_scroll : Room := ⟨7, 2, 12, 128⟩
def f_S_scroll_106 (K22 : Mem → Int32 → Int32 → Nat → Int32 → Option ((Unit ⊕ String) × Mem)) (K35 : Mem → Int32 → Int32 → Nat → Int32 → Int32 → Option ((Unit ⊕ String) × Mem)) (σ : Mem) (x2 : Int32) (x3 : Int32) (q4 : Nat) (x5 : Int32) (x6 : Int32) (s0 : Int32) (s1 : Int32) : Option ((Unit ⊕ String) × Mem) :=
  if gin s1 400 = true then
    gbm (m2 σ 6 s1.toNatClampNeg s0) fun u1 =>
    K35 u1 x2 x3 q4 x5 (x6 + 1)
  else none
set_option maxRecDepth 100000 in
theorem m_S_scroll_106 {κ : GC} {Γ : GA} (hX : Gx κ Γ 8 b_S_scroll "PaneScreen" r_S_scroll none) (hE : ∀ x ∈ κ.2.2.2.2.2.2.2.2.2.exceptionTable.toList, False) (hT : κ.2.1.stackTraces = false) (K22 : Mem → Int32 → Int32 → Nat → Int32 → Option ((Unit ⊕ String) × Mem)) (hK22 : ∀ (σ : Mem) (x2 : Int32) (x3 : Int32) (q4 : Nat) (x5 : Int32), gPn q4 → GG κ Γ 8 (gQX gxv κ Γ r_S_scroll) 2 12 σ [some (.ref (Γ.2.1 0)), none, some (.int x2), some (.int x3), some (.ref (Γ.2.1 q4)), some (.int x5), none, none] 22 [] (K22 σ x2 x3 q4 x5)) (K35 : Mem → Int32 → Int32 → Nat → Int32 → Int32 → Option ((Unit ⊕ String) × Mem)) (hK35 : ∀ (σ : Mem) (x2 : Int32) (x3 : Int32) (q4 : Nat) (x5 : Int32) (x6 : Int32), gPn q4 → GG κ Γ 8 (gQX gxv κ Γ r_S_scroll) 2 12 σ [some (.ref (Γ.2.1 0)), none, some (.int x2), some (.int x3), some (.ref (Γ.2.1 q4)), some (.int x5), some (.int x6), none] 35 [] (K35 σ x2 x3 q4 x5 x6)) (σ : Mem) (x2 : Int32) (x3 : Int32) (q4 : Nat) (x5 : Int32) (x6 : Int32) (s0 : Int32) (s1 : Int32) (hq4 : gPn q4) : GG κ Γ 8 (gQX gxv κ Γ r_S_scroll) 2 12 σ [some (.ref (Γ.2.1 0)), none, some (.int x2), some (.int x3), some (.ref (Γ.2.1 q4)), some (.int x5), some (.int x6), none] 106 [.int s0, .int s1, .ref (Γ.2.1 6)] (f_S_scroll_106 K22 K35 σ x2 x3 q4 x5 x6 s0 s1) := by
  unfold f_S_scroll_106
  refine g_iast hX d_S_scroll_106 (n := 107) rfl sh_6 ?_
  refine g_mem (fun u1 => ?_)
  refine g_iinc hX 1 _ [_, _, _, _, _, _, _, _] d_S_scroll_107 (n := 110) rfl rfl k_iconst_1 rfl (by decide) rfl ?_
  refine g_goto hX 35 d_S_scroll_110 rfl ?_
  exact (hK35 u1 x2 x3 q4 x5 (x6 + 1) hq4)
def f_S_scroll_35B (K22 : Mem → Int32 → Int32 → Nat → Int32 → Option ((Unit ⊕ String) × Mem)) (K35 : Mem → Int32 → Int32 → Nat → Int32 → Int32 → Option ((Unit ⊕ String) × Mem)) (σ : Mem) (x2 : Int32) (x3 : Int32) (q4 : Nat) (x5 : Int32) (x6 : Int32) : Option ((Unit ⊕ String) × Mem) :=
  if (σ q4 3) ≤ x6 then
    K22 σ x2 x3 q4 (x5 + 1)
  else
    gb (f_P_has q4 (x6 + x2) (x5 + x3) σ) fun r2 u1 =>
    gb (f_P_cell q4 x6 x5 u1) fun r4 u3 =>
    if r2 = 0 then
      f_S_scroll_106 K22 K35 u3 x2 x3 q4 x5 x6 0 r4
    else
      gb (f_P_cell q4 (x6 + x2) (x5 + x3) u3) fun r6 u5 =>
      if gin r6 400 = true then
        f_S_scroll_106 K22 K35 u5 x2 x3 q4 x5 x6 (u5 7 r6.toNatClampNeg) r4
      else none
set_option maxRecDepth 100000 in
theorem m_S_scroll_35B {κ : GC} {Γ : GA} (hX : Gx κ Γ 8 b_S_scroll "PaneScreen" r_S_scroll none) (hE : ∀ x ∈ κ.2.2.2.2.2.2.2.2.2.exceptionTable.toList, False) (hT : κ.2.1.stackTraces = false) (K22 : Mem → Int32 → Int32 → Nat → Int32 → Option ((Unit ⊕ String) × Mem)) (hK22 : ∀ (σ : Mem) (x2 : Int32) (x3 : Int32) (q4 : Nat) (x5 : Int32), gPn q4 → GG κ Γ 8 (gQX gxv κ Γ r_S_scroll) 2 12 σ [some (.ref (Γ.2.1 0)), none, some (.int x2), some (.int x3), some (.ref (Γ.2.1 q4)), some (.int x5), none, none] 22 [] (K22 σ x2 x3 q4 x5)) (K35 : Mem → Int32 → Int32 → Nat → Int32 → Int32 → Option ((Unit ⊕ String) × Mem)) (hK35 : ∀ (σ : Mem) (x2 : Int32) (x3 : Int32) (q4 : Nat) (x5 : Int32) (x6 : Int32), gPn q4 → GG κ Γ 8 (gQX gxv κ Γ r_S_scroll) 2 12 σ [some (.ref (Γ.2.1 0)), none, some (.int x2), some (.int x3), some (.ref (Γ.2.1 q4)), some (.int x5), some (.int x6), none] 35 [] (K35 σ x2 x3 q4 x5 x6)) (σ : Mem) (x2 : Int32) (x3 : Int32) (q4 : Nat) (x5 : Int32) (x6 : Int32) (hq4 : gPn q4) : GG κ Γ 8 (gQX gxv κ Γ r_S_scroll) 2 12 σ [some (.ref (Γ.2.1 0)), none, some (.int x2), some (.int x3), some (.ref (Γ.2.1 q4)), some (.int x5), some (.int x6), none] 35 [] (f_S_scroll_35B K22 K35 σ x2 x3 q4 x5 x6) := by
  unfold f_S_scroll_35B
  refine g_iload hX d_S_scroll_35 (n := 37) rfl rfl ?_
  refine g_aload hX d_S_scroll_37 (n := 39) rfl rfl ?_
  refine g_geti hX gf_S_98 d_S_scroll_39 (n := 42) rfl hq4 rfl ?_
  refine g_icmp_ge hX 113 d_S_scroll_42 (n := 45) rfl rfl ?_ ?_
  · refine g_iinc hX 1 _ [_, _, _, _, _, _, _, _] d_S_scroll_113 (n := 116) rfl rfl k_iconst_1 rfl (by decide) rfl ?_
    refine g_goto hX 22 d_S_scroll_116 rfl ?_
    exact (g_sub (lw := [some (.ref (Γ.2.1 0)), none, some (.int x2), some (.int x3), some (.ref (Γ.2.1 q4)), some (.int (x5 + 1)), none, none]) (And.intro rfl (And.intro rfl (And.intro rfl (And.intro rfl (And.intro rfl (True.intro)))))) (hK22 σ x2 x3 q4 (x5 + 1) hq4))
  · refine g_aload hX d_S_scroll_45 (n := 47) rfl rfl ?_
    refine g_iload hX d_S_scroll_47 (n := 49) rfl rfl ?_
    refine g_iload_n hX 2 d_S_scroll_49 (n := 50) rfl rfl rfl ?_
    refine g_iadd hX d_S_scroll_50 (n := 51) rfl ?_
    refine g_iload hX d_S_scroll_51 (n := 53) rfl rfl ?_
    refine g_iload_n hX 3 d_S_scroll_53 (n := 54) rfl rfl rfl ?_
    refine g_iadd hX d_S_scroll_54 (n := 55) rfl ?_
    refine g_cVi hX [_, _] rfl 2 12 (c_P_has _ Γ q4 (x6 + x2) (x5 + x3) hq4 σ) gw_S_126 rfl hq4 rfl d_S_scroll_55 (n := 58) rfl ⟨by decide, by decide⟩ ⟨by decide, by decide⟩ (Nat.le_of_ble_eq_true rfl) rfl rfl (fun r2 u1 => ?_)
    refine g_istore hX [_, _, _, _, _, _, _, _] d_S_scroll_58 (n := 60) rfl (by decide) rfl ?_
    refine g_aload_n hX 0 d_S_scroll_60 (n := 61) rfl rfl rfl ?_
    refine g_geta hX 5 gf_S_30 d_S_scroll_61 (n := 64) rfl sh_0 rfl ?_
    refine g_geta hX 6 gf_S_130 d_S_scroll_64 (n := 67) rfl sh_5 rfl ?_
    refine g_aload hX d_S_scroll_67 (n := 69) rfl rfl ?_
    refine g_iload hX d_S_scroll_69 (n := 71) rfl rfl ?_
    refine g_iload hX d_S_scroll_71 (n := 73) rfl rfl ?_
    refine g_cVi hX [_, _] rfl 2 12 (c_P_cell _ Γ q4 x6 x5 hq4 u1) gw_S_133 rfl hq4 rfl d_S_scroll_73 (n := 76) rfl ⟨by decide, by decide⟩ ⟨by decide, by decide⟩ (Nat.le_of_ble_eq_true rfl) rfl rfl (fun r4 u3 => ?_)
    refine g_iload hX d_S_scroll_76 (n := 78) rfl rfl ?_
    refine g_if_eq hX 105 d_S_scroll_78 (n := 81) rfl rfl ?_ ?_
    · refine g_iconst hX 0 d_S_scroll_105 (n := 106) rfl k_iconst_0 ?_
      exact (g_sub (lw := [some (.ref (Γ.2.1 0)), none, some (.int x2), some (.int x3), some (.ref (Γ.2.1 q4)), some (.int x5), some (.int x6), none]) (And.intro rfl (And.intro rfl (And.intro rfl (And.intro rfl (And.intro rfl (And.intro rfl (True.intro))))))) (m_S_scroll_106 hX hE hT K22 hK22 K35 hK35 u3 x2 x3 q4 x5 x6 0 r4 hq4))
    · refine g_aload_n hX 0 d_S_scroll_81 (n := 82) rfl rfl rfl ?_
      refine g_geta hX 5 gf_S_30 d_S_scroll_82 (n := 85) rfl sh_0 rfl ?_
      refine g_geta hX 7 gf_S_162 d_S_scroll_85 (n := 88) rfl sh_5 rfl ?_
      refine g_aload hX d_S_scroll_88 (n := 90) rfl rfl ?_
      refine g_iload hX d_S_scroll_90 (n := 92) rfl rfl ?_
      refine g_iload_n hX 2 d_S_scroll_92 (n := 93) rfl rfl rfl ?_
      refine g_iadd hX d_S_scroll_93 (n := 94) rfl ?_
      refine g_iload hX d_S_scroll_94 (n := 96) rfl rfl ?_
      refine g_iload_n hX 3 d_S_scroll_96 (n := 97) rfl rfl rfl ?_
      refine g_iadd hX d_S_scroll_97 (n := 98) rfl ?_
      refine g_cVi hX [_, _] rfl 2 12 (c_P_cell _ Γ q4 (x6 + x2) (x5 + x3) hq4 u3) gw_S_133 rfl hq4 rfl d_S_scroll_98 (n := 101) rfl ⟨by decide, by decide⟩ ⟨by decide, by decide⟩ (Nat.le_of_ble_eq_true rfl) rfl rfl (fun r6 u5 => ?_)
      refine g_iald hX d_S_scroll_101 (n := 102) rfl sh_7 ?_
      refine g_goto hX 106 d_S_scroll_102 rfl ?_
      exact (g_sub (lw := [some (.ref (Γ.2.1 0)), none, some (.int x2), some (.int x3), some (.ref (Γ.2.1 q4)), some (.int x5), some (.int x6), none]) (And.intro rfl (And.intro rfl (And.intro rfl (And.intro rfl (And.intro rfl (And.intro rfl (True.intro))))))) (m_S_scroll_106 hX hE hT K22 hK22 K35 hK35 u5 x2 x3 q4 x5 x6 (u5 7 r6.toNatClampNeg) r4 hq4))
def f_S_scroll_35 (K22 : Mem → Int32 → Int32 → Nat → Int32 → Option ((Unit ⊕ String) × Mem)) (n : Nat) : Mem → Int32 → Int32 → Nat → Int32 → Int32 → Option ((Unit ⊕ String) × Mem) := gfix (fun _ _ _ _ _ _ => none) (fun K35 => f_S_scroll_35B K22 K35) n
theorem m_S_scroll_35 {κ : GC} {Γ : GA} (hX : Gx κ Γ 8 b_S_scroll "PaneScreen" r_S_scroll none) (hE : ∀ x ∈ κ.2.2.2.2.2.2.2.2.2.exceptionTable.toList, False) (hT : κ.2.1.stackTraces = false) (K22 : Mem → Int32 → Int32 → Nat → Int32 → Option ((Unit ⊕ String) × Mem)) (hK22 : ∀ (σ : Mem) (x2 : Int32) (x3 : Int32) (q4 : Nat) (x5 : Int32), gPn q4 → GG κ Γ 8 (gQX gxv κ Γ r_S_scroll) 2 12 σ [some (.ref (Γ.2.1 0)), none, some (.int x2), some (.int x3), some (.ref (Γ.2.1 q4)), some (.int x5), none, none] 22 [] (K22 σ x2 x3 q4 x5)) (n : Nat) : ∀ (σ : Mem) (x2 : Int32) (x3 : Int32) (q4 : Nat) (x5 : Int32) (x6 : Int32), gPn q4 → GG κ Γ 8 (gQX gxv κ Γ r_S_scroll) 2 12 σ [some (.ref (Γ.2.1 0)), none, some (.int x2), some (.int x3), some (.ref (Γ.2.1 q4)), some (.int x5), some (.int x6), none] 35 [] (f_S_scroll_35 K22 n σ x2 x3 q4 x5 x6) := by
  induction n with
  | zero => intros; exact g_none
  | succ n ih => intro σ x2 x3 q4 x5 x6 hq4; exact m_S_scroll_35B hX hE hT K22 hK22 (f_S_scroll_35 K22 n) ih σ x2 x3 q4 x5 x6 hq4
def f_S_scroll_22B (K22 : Mem → Int32 → Int32 → Nat → Int32 → Option ((Unit ⊕ String) × Mem)) (σ : Mem) (x2 : Int32) (x3 : Int32) (q4 : Nat) (x5 : Int32) : Option ((Unit ⊕ String) × Mem) :=
  if (σ q4 4) ≤ x5 then
    gbv (f_S_damageFrame q4 σ) fun u1 =>
    some (.inl (), u1)
  else
    f_S_scroll_35 K22 gN σ x2 x3 q4 x5 0
set_option maxRecDepth 100000 in
theorem m_S_scroll_22B {κ : GC} {Γ : GA} (hX : Gx κ Γ 8 b_S_scroll "PaneScreen" r_S_scroll none) (hE : ∀ x ∈ κ.2.2.2.2.2.2.2.2.2.exceptionTable.toList, False) (hT : κ.2.1.stackTraces = false) (K22 : Mem → Int32 → Int32 → Nat → Int32 → Option ((Unit ⊕ String) × Mem)) (hK22 : ∀ (σ : Mem) (x2 : Int32) (x3 : Int32) (q4 : Nat) (x5 : Int32), gPn q4 → GG κ Γ 8 (gQX gxv κ Γ r_S_scroll) 2 12 σ [some (.ref (Γ.2.1 0)), none, some (.int x2), some (.int x3), some (.ref (Γ.2.1 q4)), some (.int x5), none, none] 22 [] (K22 σ x2 x3 q4 x5)) (σ : Mem) (x2 : Int32) (x3 : Int32) (q4 : Nat) (x5 : Int32) (hq4 : gPn q4) : GG κ Γ 8 (gQX gxv κ Γ r_S_scroll) 2 12 σ [some (.ref (Γ.2.1 0)), none, some (.int x2), some (.int x3), some (.ref (Γ.2.1 q4)), some (.int x5), none, none] 22 [] (f_S_scroll_22B K22 σ x2 x3 q4 x5) := by
  unfold f_S_scroll_22B
  refine g_iload hX d_S_scroll_22 (n := 24) rfl rfl ?_
  refine g_aload hX d_S_scroll_24 (n := 26) rfl rfl ?_
  refine g_geti hX gf_S_101 d_S_scroll_26 (n := 29) rfl hq4 rfl ?_
  refine g_icmp_ge hX 119 d_S_scroll_29 (n := 32) rfl rfl ?_ ?_
  · refine g_aload_n hX 0 d_S_scroll_119 (n := 120) rfl rfl rfl ?_
    refine g_aload hX d_S_scroll_120 (n := 122) rfl rfl ?_
    refine g_cVv hX [_] rfl 2 12 (c_S_damageFrame _ Γ q4 hq4 σ) gw_S_87 rfl sh_0 rfl d_S_scroll_122 (n := 125) rfl ⟨by decide, by decide⟩ ⟨by decide, by decide⟩ (Nat.le_of_ble_eq_true rfl) rfl rfl (fun u1 => ?_)
    exact g_vxret hX d_S_scroll_125 (by decide) (by decide)
  · refine g_iconst hX 0 d_S_scroll_32 (n := 33) rfl k_iconst_0 ?_
    refine g_istore hX [_, _, _, _, _, _, _, _] d_S_scroll_33 (n := 35) rfl (by decide) rfl ?_
    exact (m_S_scroll_35 hX hE hT K22 hK22 gN σ x2 x3 q4 x5 0 hq4)
def f_S_scroll_22 (n : Nat) : Mem → Int32 → Int32 → Nat → Int32 → Option ((Unit ⊕ String) × Mem) := gfix (fun _ _ _ _ _ => none) (fun K22 => f_S_scroll_22B K22) n
theorem m_S_scroll_22 {κ : GC} {Γ : GA} (hX : Gx κ Γ 8 b_S_scroll "PaneScreen" r_S_scroll none) (hE : ∀ x ∈ κ.2.2.2.2.2.2.2.2.2.exceptionTable.toList, False) (hT : κ.2.1.stackTraces = false) (n : Nat) : ∀ (σ : Mem) (x2 : Int32) (x3 : Int32) (q4 : Nat) (x5 : Int32), gPn q4 → GG κ Γ 8 (gQX gxv κ Γ r_S_scroll) 2 12 σ [some (.ref (Γ.2.1 0)), none, some (.int x2), some (.int x3), some (.ref (Γ.2.1 q4)), some (.int x5), none, none] 22 [] (f_S_scroll_22 n σ x2 x3 q4 x5) := by
  induction n with
  | zero => intros; exact g_none
  | succ n ih => intro σ x2 x3 q4 x5 hq4; exact m_S_scroll_22B hX hE hT (f_S_scroll_22 n) ih σ x2 x3 q4 x5 hq4
def f_S_scroll_0 (σ : Mem) (x1 : Int32) (x2 : Int32) (x3 : Int32) : Option ((Unit ⊕ String) × Mem) :=
  gbx (f_S_openPane x1 σ) (fun p2 u1 =>
    if gpn p2 = true then
      gbx (f_S_requireNear x2 x3 u1) (fun _ u3 =>
        gbv (f_T_keepOld u3) fun u4 =>
        f_S_scroll_22 gN u4 x2 x3 p2 0
        ) (fun E u => some (.inr E, u))
    else none) (fun E u => some (.inr E, u))
set_option maxRecDepth 100000 in
theorem m_S_scroll_0 {κ : GC} {Γ : GA} (hX : Gx κ Γ 8 b_S_scroll "PaneScreen" r_S_scroll none) (hE : ∀ x ∈ κ.2.2.2.2.2.2.2.2.2.exceptionTable.toList, False) (hT : κ.2.1.stackTraces = false) (σ : Mem) (x1 : Int32) (x2 : Int32) (x3 : Int32) : GG κ Γ 8 (gQX gxv κ Γ r_S_scroll) 0 0 σ [some (.ref (Γ.2.1 0)), some (.int x1), some (.int x2), some (.int x3), none, none, none, none] 0 [] (f_S_scroll_0 σ x1 x2 x3) := by
  unfold f_S_scroll_0
  refine g_aload_n hX 0 d_S_scroll_0 (n := 1) rfl rfl rfl ?_
  refine g_iload_n hX 1 d_S_scroll_1 (n := 2) rfl rfl rfl ?_
  refine g_xVr hX hE [_] rfl 1 6 (c_S_openPane _ hT Γ x1 σ) gw_S_91 rfl sh_0 rfl d_S_scroll_2 (n := 5) rfl ⟨by decide, by decide⟩ ⟨by decide, by decide⟩ (Nat.le_of_ble_eq_true rfl) rfl rfl (fun p2 u1 => ?_)
  refine g_pane (fun hp2 => ?_)
  refine g_astore hX [_, _, _, _, _, _, _, _] d_S_scroll_5 (n := 7) rfl (by decide) rfl ?_
  refine g_iload_n hX 2 d_S_scroll_7 (n := 8) rfl rfl rfl ?_
  refine g_iload_n hX 3 d_S_scroll_8 (n := 9) rfl rfl rfl ?_
  refine g_xSv hX hE [_, _] rfl 2 12 (c_S_requireNear _ hT Γ x2 x3 u1) gw_S_55 rfl d_S_scroll_9 (n := 12) rfl ⟨by decide, by decide⟩ ⟨by decide, by decide⟩ (Nat.le_of_ble_eq_true rfl) rfl rfl (fun _ u3 => ?_)
  refine g_aload_n hX 0 d_S_scroll_12 (n := 13) rfl rfl rfl ?_
  refine g_geta hX 5 gf_S_30 d_S_scroll_13 (n := 16) rfl sh_0 rfl ?_
  refine g_cVv hX [] rfl 2 12 (c_T_keepOld _ Γ u3) gw_S_159 rfl sh_5 rfl d_S_scroll_16 (n := 19) rfl ⟨by decide, by decide⟩ ⟨by decide, by decide⟩ (Nat.le_of_ble_eq_true rfl) rfl rfl (fun u4 => ?_)
  refine g_iconst hX 0 d_S_scroll_19 (n := 20) rfl k_iconst_0 ?_
  refine g_istore hX [_, _, _, _, _, _, _, _] d_S_scroll_20 (n := 22) rfl (by decide) rfl ?_
  exact (g_sub (lw := [some (.ref (Γ.2.1 0)), none, some (.int x2), some (.int x3), some (.ref (Γ.2.1 p2)), some (.int 0), none, none]) (And.intro rfl (And.intro rfl (And.intro rfl (And.intro rfl (And.intro rfl (True.intro)))))) (m_S_scroll_22 hX hE hT gN u4 x2 x3 p2 0 hp2))
def f_S_scroll (x1 : Int32) (x2 : Int32) (x3 : Int32) (σ : Mem) : Option ((Unit ⊕ String) × Mem) := f_S_scroll_0 σ x1 x2 x3
theorem c_S_scroll (l : Launch) (hT : l.stackTraces = false) (Γ : GA) (x1 : Int32) (x2 : Int32) (x3 : Int32) (σ : Mem) : gX gxv l y_S_scroll b_S_scroll 8 none r_S_scroll [.ref (Γ.2.1 0), .int x1, .int x2, .int x3] Γ σ (f_S_scroll x1 x2 x3 σ) :=
  gX.of [some (.ref (Γ.2.1 0)), some (.int x1), some (.int x2), some (.int x3), none, none, none, none] (by decide) (Nat.le_of_ble_eq_true rfl) rfl rfl (fun κ hX hκ hE => m_S_scroll_0 hX hE (by rw [hκ]; exact hT) σ x1 x2 x3)
/-! D_holds -/
theorem d_D_holds_0 : decode b_D_holds 0 = .ok (.iconst 0, 1) := by decide +kernel
theorem d_D_holds_1 : decode b_D_holds 1 = .ok (.istore_n 3, 1) := by decide +kernel
theorem d_D_holds_2 : decode b_D_holds 2 = .ok (.iload_n 3, 1) := by decide +kernel
theorem d_D_holds_3 : decode b_D_holds 3 = .ok (.aload_n 0, 1) := by decide +kernel
theorem d_D_holds_4 : decode b_D_holds 4 = .ok (.getfield 33, 3) := by decide +kernel
theorem d_D_holds_7 : decode b_D_holds 7 = .ok (.if_icmp .ge 51, 3) := by decide +kernel
theorem d_D_holds_10 : decode b_D_holds 10 = .ok (.iload_n 1, 1) := by decide +kernel
theorem d_D_holds_11 : decode b_D_holds 11 = .ok (.aload_n 0, 1) := by decide +kernel
theorem d_D_holds_12 : decode b_D_holds 12 = .ok (.getfield 9, 3) := by decide +kernel
theorem d_D_holds_15 : decode b_D_holds 15 = .ok (.iload_n 3, 1) := by decide +kernel
theorem d_D_holds_16 : decode b_D_holds 16 = .ok (.iaload, 1) := by decide +kernel
theorem d_D_holds_17 : decode b_D_holds 17 = .ok (.if_icmp .lt 35, 3) := by decide +kernel
theorem d_D_holds_20 : decode b_D_holds 20 = .ok (.iload_n 1, 1) := by decide +kernel
theorem d_D_holds_21 : decode b_D_holds 21 = .ok (.aload_n 0, 1) := by decide +kernel
theorem d_D_holds_22 : decode b_D_holds 22 = .ok (.getfield 18, 3) := by decide +kernel
theorem d_D_holds_25 : decode b_D_holds 25 = .ok (.iload_n 3, 1) := by decide +kernel
theorem d_D_holds_26 : decode b_D_holds 26 = .ok (.iaload, 1) := by decide +kernel
theorem d_D_holds_27 : decode b_D_holds 27 = .ok (.if_icmp .ge 25, 3) := by decide +kernel
theorem d_D_holds_30 : decode b_D_holds 30 = .ok (.iload_n 2, 1) := by decide +kernel
theorem d_D_holds_31 : decode b_D_holds 31 = .ok (.aload_n 0, 1) := by decide +kernel
theorem d_D_holds_32 : decode b_D_holds 32 = .ok (.getfield 15, 3) := by decide +kernel
theorem d_D_holds_35 : decode b_D_holds 35 = .ok (.iload_n 3, 1) := by decide +kernel
theorem d_D_holds_36 : decode b_D_holds 36 = .ok (.iaload, 1) := by decide +kernel
theorem d_D_holds_37 : decode b_D_holds 37 = .ok (.if_icmp .lt 15, 3) := by decide +kernel
theorem d_D_holds_40 : decode b_D_holds 40 = .ok (.iload_n 2, 1) := by decide +kernel
theorem d_D_holds_41 : decode b_D_holds 41 = .ok (.aload_n 0, 1) := by decide +kernel
theorem d_D_holds_42 : decode b_D_holds 42 = .ok (.getfield 21, 3) := by decide +kernel
theorem d_D_holds_45 : decode b_D_holds 45 = .ok (.iload_n 3, 1) := by decide +kernel
theorem d_D_holds_46 : decode b_D_holds 46 = .ok (.iaload, 1) := by decide +kernel
theorem d_D_holds_47 : decode b_D_holds 47 = .ok (.if_icmp .ge 5, 3) := by decide +kernel
theorem d_D_holds_50 : decode b_D_holds 50 = .ok (.iconst 1, 1) := by decide +kernel
theorem d_D_holds_51 : decode b_D_holds 51 = .ok (.ireturn, 1) := by decide +kernel
theorem d_D_holds_52 : decode b_D_holds 52 = .ok (.iinc 3 1, 3) := by decide +kernel
theorem d_D_holds_55 : decode b_D_holds 55 = .ok (.goto (-53), 3) := by decide +kernel
theorem d_D_holds_58 : decode b_D_holds 58 = .ok (.iconst 0, 1) := by decide +kernel
theorem d_D_holds_59 : decode b_D_holds 59 = .ok (.ireturn, 1) := by decide +kernel
abbrev r_D_holds : Room := ⟨0, 0, 0, 0⟩
def f_D_holds_52 (K2 : Mem → Int32 → Int32 → Int32 → Option (Int32 × Mem)) (σ : Mem) (x1 : Int32) (x2 : Int32) (x3 : Int32) : Option (Int32 × Mem) :=
  K2 σ x1 x2 (x3 + 1)
set_option maxRecDepth 100000 in
theorem m_D_holds_52 {κ : GC} {Γ : GA} (hX : Gx κ Γ 4 b_D_holds "PaneScreen$Damage" r_D_holds (some .boolean)) (K2 : Mem → Int32 → Int32 → Int32 → Option (Int32 × Mem)) (hK2 : ∀ (σ : Mem) (x1 : Int32) (x2 : Int32) (x3 : Int32), GG κ Γ 4 (gQ gqi κ Γ r_D_holds) 0 0 σ [some (.ref (Γ.2.1 9)), some (.int x1), some (.int x2), some (.int x3)] 2 [] (K2 σ x1 x2 x3)) (σ : Mem) (x1 : Int32) (x2 : Int32) (x3 : Int32) : GG κ Γ 4 (gQ gqi κ Γ r_D_holds) 0 0 σ [some (.ref (Γ.2.1 9)), some (.int x1), some (.int x2), some (.int x3)] 52 [] (f_D_holds_52 K2 σ x1 x2 x3) := by
  unfold f_D_holds_52
  refine g_iinc hX 1 _ [_, _, _, _] d_D_holds_52 (n := 55) rfl rfl k_iconst_1 rfl (by decide) rfl ?_
  refine g_goto hX 2 d_D_holds_55 rfl ?_
  exact (hK2 σ x1 x2 (x3 + 1))
def f_D_holds_2B (K2 : Mem → Int32 → Int32 → Int32 → Option (Int32 × Mem)) (σ : Mem) (x1 : Int32) (x2 : Int32) (x3 : Int32) : Option (Int32 × Mem) :=
  if (σ 9 4) ≤ x3 then
    some (0, σ)
  else
    if gin x3 6 = true then
      if x1 < (σ 10 x3.toNatClampNeg) then
        f_D_holds_52 K2 σ x1 x2 x3
      else
        if gin x3 6 = true then
          if (σ 12 x3.toNatClampNeg) ≤ x1 then
            f_D_holds_52 K2 σ x1 x2 x3
          else
            if gin x3 6 = true then
              if x2 < (σ 11 x3.toNatClampNeg) then
                f_D_holds_52 K2 σ x1 x2 x3
              else
                if gin x3 6 = true then
                  if (σ 13 x3.toNatClampNeg) ≤ x2 then
                    f_D_holds_52 K2 σ x1 x2 x3
                  else
                    some (1, σ)
                else none
            else none
        else none
    else none
set_option maxRecDepth 100000 in
theorem m_D_holds_2B {κ : GC} {Γ : GA} (hX : Gx κ Γ 4 b_D_holds "PaneScreen$Damage" r_D_holds (some .boolean)) (K2 : Mem → Int32 → Int32 → Int32 → Option (Int32 × Mem)) (hK2 : ∀ (σ : Mem) (x1 : Int32) (x2 : Int32) (x3 : Int32), GG κ Γ 4 (gQ gqi κ Γ r_D_holds) 0 0 σ [some (.ref (Γ.2.1 9)), some (.int x1), some (.int x2), some (.int x3)] 2 [] (K2 σ x1 x2 x3)) (σ : Mem) (x1 : Int32) (x2 : Int32) (x3 : Int32) : GG κ Γ 4 (gQ gqi κ Γ r_D_holds) 0 0 σ [some (.ref (Γ.2.1 9)), some (.int x1), some (.int x2), some (.int x3)] 2 [] (f_D_holds_2B K2 σ x1 x2 x3) := by
  unfold f_D_holds_2B
  refine g_iload_n hX 3 d_D_holds_2 (n := 3) rfl rfl rfl ?_
  refine g_aload_n hX 0 d_D_holds_3 (n := 4) rfl rfl rfl ?_
  refine g_geti hX gf_D_33 d_D_holds_4 (n := 7) rfl sh_9 rfl ?_
  refine g_icmp_ge hX 58 d_D_holds_7 (n := 10) rfl rfl ?_ ?_
  · refine g_iconst hX 0 d_D_holds_58 (n := 59) rfl k_iconst_0 ?_
    exact g_iretz hX rfl d_D_holds_59 (by decide) (by decide)
  · refine g_iload_n hX 1 d_D_holds_10 (n := 11) rfl rfl rfl ?_
    refine g_aload_n hX 0 d_D_holds_11 (n := 12) rfl rfl rfl ?_
    refine g_geta hX 10 gf_D_9 d_D_holds_12 (n := 15) rfl sh_9 rfl ?_
    refine g_iload_n hX 3 d_D_holds_15 (n := 16) rfl rfl rfl ?_
    refine g_iald hX d_D_holds_16 (n := 17) rfl sh_10 ?_
    refine g_icmp_lt hX 52 d_D_holds_17 (n := 20) rfl rfl ?_ ?_
    · exact (m_D_holds_52 hX K2 hK2 σ x1 x2 x3)
    · refine g_iload_n hX 1 d_D_holds_20 (n := 21) rfl rfl rfl ?_
      refine g_aload_n hX 0 d_D_holds_21 (n := 22) rfl rfl rfl ?_
      refine g_geta hX 12 gf_D_18 d_D_holds_22 (n := 25) rfl sh_9 rfl ?_
      refine g_iload_n hX 3 d_D_holds_25 (n := 26) rfl rfl rfl ?_
      refine g_iald hX d_D_holds_26 (n := 27) rfl sh_12 ?_
      refine g_icmp_ge hX 52 d_D_holds_27 (n := 30) rfl rfl ?_ ?_
      · exact (m_D_holds_52 hX K2 hK2 σ x1 x2 x3)
      · refine g_iload_n hX 2 d_D_holds_30 (n := 31) rfl rfl rfl ?_
        refine g_aload_n hX 0 d_D_holds_31 (n := 32) rfl rfl rfl ?_
        refine g_geta hX 11 gf_D_15 d_D_holds_32 (n := 35) rfl sh_9 rfl ?_
        refine g_iload_n hX 3 d_D_holds_35 (n := 36) rfl rfl rfl ?_
        refine g_iald hX d_D_holds_36 (n := 37) rfl sh_11 ?_
        refine g_icmp_lt hX 52 d_D_holds_37 (n := 40) rfl rfl ?_ ?_
        · exact (m_D_holds_52 hX K2 hK2 σ x1 x2 x3)
        · refine g_iload_n hX 2 d_D_holds_40 (n := 41) rfl rfl rfl ?_
          refine g_aload_n hX 0 d_D_holds_41 (n := 42) rfl rfl rfl ?_
          refine g_geta hX 13 gf_D_21 d_D_holds_42 (n := 45) rfl sh_9 rfl ?_
          refine g_iload_n hX 3 d_D_holds_45 (n := 46) rfl rfl rfl ?_
          refine g_iald hX d_D_holds_46 (n := 47) rfl sh_13 ?_
          refine g_icmp_ge hX 52 d_D_holds_47 (n := 50) rfl rfl ?_ ?_
          · exact (m_D_holds_52 hX K2 hK2 σ x1 x2 x3)
          · refine g_iconst hX 1 d_D_holds_50 (n := 51) rfl k_iconst_1 ?_
            exact g_iretz hX rfl d_D_holds_51 (by decide) (by decide)
def f_D_holds_2 (n : Nat) : Mem → Int32 → Int32 → Int32 → Option (Int32 × Mem) := gfix (fun _ _ _ _ => none) (fun K2 => f_D_holds_2B K2) n
theorem m_D_holds_2 {κ : GC} {Γ : GA} (hX : Gx κ Γ 4 b_D_holds "PaneScreen$Damage" r_D_holds (some .boolean)) (n : Nat) : ∀ (σ : Mem) (x1 : Int32) (x2 : Int32) (x3 : Int32), GG κ Γ 4 (gQ gqi κ Γ r_D_holds) 0 0 σ [some (.ref (Γ.2.1 9)), some (.int x1), some (.int x2), some (.int x3)] 2 [] (f_D_holds_2 n σ x1 x2 x3) := by
  induction n with
  | zero => intros; exact g_none
  | succ n ih => intro σ x1 x2 x3; exact m_D_holds_2B hX (f_D_holds_2 n) ih σ x1 x2 x3
def f_D_holds_0 (σ : Mem) (x1 : Int32) (x2 : Int32) : Option (Int32 × Mem) :=
  f_D_holds_2 gN σ x1 x2 0
set_option maxRecDepth 100000 in
theorem m_D_holds_0 {κ : GC} {Γ : GA} (hX : Gx κ Γ 4 b_D_holds "PaneScreen$Damage" r_D_holds (some .boolean)) (σ : Mem) (x1 : Int32) (x2 : Int32) : GG κ Γ 4 (gQ gqi κ Γ r_D_holds) 0 0 σ [some (.ref (Γ.2.1 9)), some (.int x1), some (.int x2), none] 0 [] (f_D_holds_0 σ x1 x2) := by
  unfold f_D_holds_0
  refine g_iconst hX 0 d_D_holds_0 (n := 1) rfl k_iconst_0 ?_
  refine g_istore_n hX 3 [_, _, _, _] d_D_holds_1 (n := 2) rfl rfl (by decide) rfl ?_
  exact (m_D_holds_2 hX gN σ x1 x2 0)
def f_D_holds (x1 : Int32) (x2 : Int32) (σ : Mem) : Option (Int32 × Mem) := f_D_holds_0 σ x1 x2
theorem c_D_holds (l : Launch) (Γ : GA) (x1 : Int32) (x2 : Int32) (σ : Mem) : gM gqi l y_D_holds b_D_holds 4 (some .boolean) r_D_holds [.ref (Γ.2.1 9), .int x1, .int x2] Γ σ (f_D_holds x1 x2 σ) :=
  gM.of [some (.ref (Γ.2.1 9)), some (.int x1), some (.int x2), none] (by decide) (Nat.le_of_ble_eq_true rfl) rfl rfl (fun κ hX _ => m_D_holds_0 hX σ x1 x2)
/-! P_covers -/
theorem d_P_covers_0 : decode b_P_covers 0 = .ok (.aload_n 0, 1) := by decide +kernel
theorem d_P_covers_1 : decode b_P_covers 1 = .ok (.iload_n 1, 1) := by decide +kernel
theorem d_P_covers_2 : decode b_P_covers 2 = .ok (.aload_n 0, 1) := by decide +kernel
theorem d_P_covers_3 : decode b_P_covers 3 = .ok (.getfield 27, 3) := by decide +kernel
theorem d_P_covers_6 : decode b_P_covers 6 = .ok (.isub, 1) := by decide +kernel
theorem d_P_covers_7 : decode b_P_covers 7 = .ok (.iload_n 2, 1) := by decide +kernel
theorem d_P_covers_8 : decode b_P_covers 8 = .ok (.aload_n 0, 1) := by decide +kernel
theorem d_P_covers_9 : decode b_P_covers 9 = .ok (.getfield 30, 3) := by decide +kernel
theorem d_P_covers_12 : decode b_P_covers 12 = .ok (.isub, 1) := by decide +kernel
theorem d_P_covers_13 : decode b_P_covers 13 = .ok (.invokevirtual 39, 3) := by decide +kernel
theorem d_P_covers_16 : decode b_P_covers 16 = .ok (.ireturn, 1) := by decide +kernel
abbrev r_P_covers : Room := ⟨1, 0, 0, 22⟩
def f_P_covers_0 (σ : Mem) (q0 : Nat) (x1 : Int32) (x2 : Int32) : Option (Int32 × Mem) :=
  gb (f_P_has q0 (x1 - (σ q0 1)) (x2 - (σ q0 2)) σ) fun r2 u1 =>
  if r2 &&& 1 = r2 then some (r2, u1) else none
set_option maxRecDepth 100000 in
theorem m_P_covers_0 {κ : GC} {Γ : GA} (hX : Gx κ Γ 3 b_P_covers "PaneScreen$Pane" r_P_covers (some .boolean)) (σ : Mem) (q0 : Nat) (x1 : Int32) (x2 : Int32) (hq0 : gPn q0) : GG κ Γ 3 (gQ gqi κ Γ r_P_covers) 0 0 σ [some (.ref (Γ.2.1 q0)), some (.int x1), some (.int x2)] 0 [] (f_P_covers_0 σ q0 x1 x2) := by
  unfold f_P_covers_0
  refine g_aload_n hX 0 d_P_covers_0 (n := 1) rfl rfl rfl ?_
  refine g_iload_n hX 1 d_P_covers_1 (n := 2) rfl rfl rfl ?_
  refine g_aload_n hX 0 d_P_covers_2 (n := 3) rfl rfl rfl ?_
  refine g_geti hX gf_P_27 d_P_covers_3 (n := 6) rfl hq0 rfl ?_
  refine g_isub hX d_P_covers_6 (n := 7) rfl ?_
  refine g_iload_n hX 2 d_P_covers_7 (n := 8) rfl rfl rfl ?_
  refine g_aload_n hX 0 d_P_covers_8 (n := 9) rfl rfl rfl ?_
  refine g_geti hX gf_P_30 d_P_covers_9 (n := 12) rfl hq0 rfl ?_
  refine g_isub hX d_P_covers_12 (n := 13) rfl ?_
  refine g_cVi hX [_, _] rfl 0 0 (c_P_has _ Γ q0 (x1 - (σ q0 1)) (x2 - (σ q0 2)) hq0 σ) gw_P_39 rfl hq0 rfl d_P_covers_13 (n := 16) rfl ⟨by decide, by decide⟩ ⟨by decide, by decide⟩ (Nat.le_of_ble_eq_true rfl) rfl rfl (fun r2 u1 => ?_)
  exact g_iretZ hX d_P_covers_16 (by decide) (by decide)
def f_P_covers (q0 : Nat) (x1 : Int32) (x2 : Int32) (σ : Mem) : Option (Int32 × Mem) := f_P_covers_0 σ q0 x1 x2
theorem c_P_covers (l : Launch) (Γ : GA) (q0 : Nat) (x1 : Int32) (x2 : Int32) (hq0 : gPn q0) (σ : Mem) : gM gqi l y_P_covers b_P_covers 3 (some .boolean) r_P_covers [.ref (Γ.2.1 q0), .int x1, .int x2] Γ σ (f_P_covers q0 x1 x2 σ) :=
  gM.of [some (.ref (Γ.2.1 q0)), some (.int x1), some (.int x2)] (by decide) (Nat.le_of_ble_eq_true rfl) rfl rfl (fun κ hX _ => m_P_covers_0 hX σ q0 x1 x2 hq0)
/-! S_ownerOf -/
theorem d_S_ownerOf_0 : decode b_S_ownerOf 0 = .ok (.iconst 0, 1) := by decide +kernel
theorem d_S_ownerOf_1 : decode b_S_ownerOf 1 = .ok (.istore_n 3, 1) := by decide +kernel
theorem d_S_ownerOf_2 : decode b_S_ownerOf 2 = .ok (.iload_n 3, 1) := by decide +kernel
theorem d_S_ownerOf_3 : decode b_S_ownerOf 3 = .ok (.aload_n 0, 1) := by decide +kernel
theorem d_S_ownerOf_4 : decode b_S_ownerOf 4 = .ok (.getfield 23, 3) := by decide +kernel
theorem d_S_ownerOf_7 : decode b_S_ownerOf 7 = .ok (.getfield 220, 3) := by decide +kernel
theorem d_S_ownerOf_10 : decode b_S_ownerOf 10 = .ok (.if_icmp .ge 38, 3) := by decide +kernel
theorem d_S_ownerOf_13 : decode b_S_ownerOf 13 = .ok (.aload_n 0, 1) := by decide +kernel
theorem d_S_ownerOf_14 : decode b_S_ownerOf 14 = .ok (.getfield 23, 3) := by decide +kernel
theorem d_S_ownerOf_17 : decode b_S_ownerOf 17 = .ok (.getfield 235, 3) := by decide +kernel
theorem d_S_ownerOf_20 : decode b_S_ownerOf 20 = .ok (.iload_n 3, 1) := by decide +kernel
theorem d_S_ownerOf_21 : decode b_S_ownerOf 21 = .ok (.iaload, 1) := by decide +kernel
theorem d_S_ownerOf_22 : decode b_S_ownerOf 22 = .ok (.istore 4, 2) := by decide +kernel
theorem d_S_ownerOf_24 : decode b_S_ownerOf 24 = .ok (.aload_n 0, 1) := by decide +kernel
theorem d_S_ownerOf_25 : decode b_S_ownerOf 25 = .ok (.getfield 15, 3) := by decide +kernel
theorem d_S_ownerOf_28 : decode b_S_ownerOf 28 = .ok (.iload 4, 2) := by decide +kernel
theorem d_S_ownerOf_30 : decode b_S_ownerOf 30 = .ok (.aaload, 1) := by decide +kernel
theorem d_S_ownerOf_31 : decode b_S_ownerOf 31 = .ok (.iload_n 1, 1) := by decide +kernel
theorem d_S_ownerOf_32 : decode b_S_ownerOf 32 = .ok (.iload_n 2, 1) := by decide +kernel
theorem d_S_ownerOf_33 : decode b_S_ownerOf 33 = .ok (.invokevirtual 238, 3) := by decide +kernel
theorem d_S_ownerOf_36 : decode b_S_ownerOf 36 = .ok (.ifCond .eq 6, 3) := by decide +kernel
theorem d_S_ownerOf_39 : decode b_S_ownerOf 39 = .ok (.iload 4, 2) := by decide +kernel
theorem d_S_ownerOf_41 : decode b_S_ownerOf 41 = .ok (.ireturn, 1) := by decide +kernel
theorem d_S_ownerOf_42 : decode b_S_ownerOf 42 = .ok (.iinc 3 1, 3) := by decide +kernel
theorem d_S_ownerOf_45 : decode b_S_ownerOf 45 = .ok (.goto (-43), 3) := by decide +kernel
theorem d_S_ownerOf_48 : decode b_S_ownerOf 48 = .ok (.iconst (-1), 1) := by decide +kernel
theorem d_S_ownerOf_49 : decode b_S_ownerOf 49 = .ok (.ireturn, 1) := by decide +kernel
abbrev r_S_ownerOf : Room := ⟨2, 0, 0, 44⟩
def f_S_ownerOf_2B (K2 : Mem → Int32 → Int32 → Int32 → Option (Int32 × Mem)) (σ : Mem) (x1 : Int32) (x2 : Int32) (x3 : Int32) : Option (Int32 × Mem) :=
  if (σ 3 1) ≤ x3 then
    some ((-1), σ)
  else
    if gin x3 8 = true then
      gbi (σ 4 x3.toNatClampNeg) fun y1 =>
      if gin y1 8 = true then
        gbn (gPB + y1.toNatClampNeg) fun p2 =>
        gb (f_P_covers p2 x1 x2 σ) fun r4 u3 =>
        if r4 = 0 then
          K2 u3 x1 x2 (x3 + 1)
        else
          some (y1, u3)
      else none
    else none
set_option maxRecDepth 100000 in
theorem m_S_ownerOf_2B {κ : GC} {Γ : GA} (hX : Gx κ Γ 5 b_S_ownerOf "PaneScreen" r_S_ownerOf (some .int)) (K2 : Mem → Int32 → Int32 → Int32 → Option (Int32 × Mem)) (hK2 : ∀ (σ : Mem) (x1 : Int32) (x2 : Int32) (x3 : Int32), GG κ Γ 5 (gQ gqi κ Γ r_S_ownerOf) 0 0 σ [some (.ref (Γ.2.1 0)), some (.int x1), some (.int x2), some (.int x3), none] 2 [] (K2 σ x1 x2 x3)) (σ : Mem) (x1 : Int32) (x2 : Int32) (x3 : Int32) : GG κ Γ 5 (gQ gqi κ Γ r_S_ownerOf) 0 0 σ [some (.ref (Γ.2.1 0)), some (.int x1), some (.int x2), some (.int x3), none] 2 [] (f_S_ownerOf_2B K2 σ x1 x2 x3) := by
  unfold f_S_ownerOf_2B
  refine g_iload_n hX 3 d_S_ownerOf_2 (n := 3) rfl rfl rfl ?_
  refine g_aload_n hX 0 d_S_ownerOf_3 (n := 4) rfl rfl rfl ?_
  refine g_geta hX 3 gf_S_23 d_S_ownerOf_4 (n := 7) rfl sh_0 rfl ?_
  refine g_geti hX gf_S_220 d_S_ownerOf_7 (n := 10) rfl sh_3 rfl ?_
  refine g_icmp_ge hX 48 d_S_ownerOf_10 (n := 13) rfl rfl ?_ ?_
  · refine g_iconst hX (-1) d_S_ownerOf_48 (n := 49) rfl k_iconst_m1 ?_
    exact g_iret hX d_S_ownerOf_49 (by decide) (by decide)
  · refine g_aload_n hX 0 d_S_ownerOf_13 (n := 14) rfl rfl rfl ?_
    refine g_geta hX 3 gf_S_23 d_S_ownerOf_14 (n := 17) rfl sh_0 rfl ?_
    refine g_geta hX 4 gf_S_235 d_S_ownerOf_17 (n := 20) rfl sh_3 rfl ?_
    refine g_iload_n hX 3 d_S_ownerOf_20 (n := 21) rfl rfl rfl ?_
    refine g_iald hX d_S_ownerOf_21 (n := 22) rfl sh_4 ?_
    refine g_top (fun y1 => ?_)
    refine g_istore hX [_, _, _, _, _] d_S_ownerOf_22 (n := 24) rfl (by decide) rfl ?_
    refine g_aload_n hX 0 d_S_ownerOf_24 (n := 25) rfl rfl rfl ?_
    refine g_geta hX 2 gf_S_15 d_S_ownerOf_25 (n := 28) rfl sh_0 rfl ?_
    refine g_iload hX d_S_ownerOf_28 (n := 30) rfl rfl ?_
    refine g_aaldB hX d_S_ownerOf_30 (n := 31) rfl sh_2 (fun p2 hp2 => ?_)
    refine g_iload_n hX 1 d_S_ownerOf_31 (n := 32) rfl rfl rfl ?_
    refine g_iload_n hX 2 d_S_ownerOf_32 (n := 33) rfl rfl rfl ?_
    refine g_cVi hX [_, _] rfl 0 0 (c_P_covers _ Γ p2 x1 x2 hp2 σ) gw_S_238 rfl hp2 rfl d_S_ownerOf_33 (n := 36) rfl ⟨by decide, by decide⟩ ⟨by decide, by decide⟩ (Nat.le_of_ble_eq_true rfl) rfl rfl (fun r4 u3 => ?_)
    refine g_if_eq hX 42 d_S_ownerOf_36 (n := 39) rfl rfl ?_ ?_
    · refine g_iinc hX 1 _ [_, _, _, _, _] d_S_ownerOf_42 (n := 45) rfl rfl k_iconst_1 rfl (by decide) rfl ?_
      refine g_goto hX 2 d_S_ownerOf_45 rfl ?_
      exact (g_sub (lw := [some (.ref (Γ.2.1 0)), some (.int x1), some (.int x2), some (.int (x3 + 1)), none]) (And.intro rfl (And.intro rfl (And.intro rfl (And.intro rfl (True.intro))))) (hK2 u3 x1 x2 (x3 + 1)))
    · refine g_iload hX d_S_ownerOf_39 (n := 41) rfl rfl ?_
      exact g_iret hX d_S_ownerOf_41 (by decide) (by decide)
def f_S_ownerOf_2 (n : Nat) : Mem → Int32 → Int32 → Int32 → Option (Int32 × Mem) := gfix (fun _ _ _ _ => none) (fun K2 => f_S_ownerOf_2B K2) n
theorem m_S_ownerOf_2 {κ : GC} {Γ : GA} (hX : Gx κ Γ 5 b_S_ownerOf "PaneScreen" r_S_ownerOf (some .int)) (n : Nat) : ∀ (σ : Mem) (x1 : Int32) (x2 : Int32) (x3 : Int32), GG κ Γ 5 (gQ gqi κ Γ r_S_ownerOf) 0 0 σ [some (.ref (Γ.2.1 0)), some (.int x1), some (.int x2), some (.int x3), none] 2 [] (f_S_ownerOf_2 n σ x1 x2 x3) := by
  induction n with
  | zero => intros; exact g_none
  | succ n ih => intro σ x1 x2 x3; exact m_S_ownerOf_2B hX (f_S_ownerOf_2 n) ih σ x1 x2 x3
def f_S_ownerOf_0 (σ : Mem) (x1 : Int32) (x2 : Int32) : Option (Int32 × Mem) :=
  f_S_ownerOf_2 gN σ x1 x2 0
set_option maxRecDepth 100000 in
theorem m_S_ownerOf_0 {κ : GC} {Γ : GA} (hX : Gx κ Γ 5 b_S_ownerOf "PaneScreen" r_S_ownerOf (some .int)) (σ : Mem) (x1 : Int32) (x2 : Int32) : GG κ Γ 5 (gQ gqi κ Γ r_S_ownerOf) 0 0 σ [some (.ref (Γ.2.1 0)), some (.int x1), some (.int x2), none, none] 0 [] (f_S_ownerOf_0 σ x1 x2) := by
  unfold f_S_ownerOf_0
  refine g_iconst hX 0 d_S_ownerOf_0 (n := 1) rfl k_iconst_0 ?_
  refine g_istore_n hX 3 [_, _, _, _, _] d_S_ownerOf_1 (n := 2) rfl rfl (by decide) rfl ?_
  exact (m_S_ownerOf_2 hX gN σ x1 x2 0)
def f_S_ownerOf (x1 : Int32) (x2 : Int32) (σ : Mem) : Option (Int32 × Mem) := f_S_ownerOf_0 σ x1 x2
theorem c_S_ownerOf (l : Launch) (Γ : GA) (x1 : Int32) (x2 : Int32) (σ : Mem) : gM gqi l y_S_ownerOf b_S_ownerOf 5 (some .int) r_S_ownerOf [.ref (Γ.2.1 0), .int x1, .int x2] Γ σ (f_S_ownerOf x1 x2 σ) :=
  gM.of [some (.ref (Γ.2.1 0)), some (.int x1), some (.int x2), none, none] (by decide) (Nat.le_of_ble_eq_true rfl) rfl rfl (fun κ hX _ => m_S_ownerOf_0 hX σ x1 x2)
/-! S_colourBelow -/
theorem d_S_colourBelow_0 : decode b_S_colourBelow 0 = .ok (.aload_n 0, 1) := by decide +kernel
theorem d_S_colourBelow_1 : decode b_S_colourBelow 1 = .ok (.iload_n 1, 1) := by decide +kernel
theorem d_S_colourBelow_2 : decode b_S_colourBelow 2 = .ok (.iload_n 2, 1) := by decide +kernel
theorem d_S_colourBelow_3 : decode b_S_colourBelow 3 = .ok (.invokevirtual 180, 3) := by decide +kernel
theorem d_S_colourBelow_6 : decode b_S_colourBelow 6 = .ok (.istore_n 3, 1) := by decide +kernel
theorem d_S_colourBelow_7 : decode b_S_colourBelow 7 = .ok (.iload_n 3, 1) := by decide +kernel
theorem d_S_colourBelow_8 : decode b_S_colourBelow 8 = .ok (.iconst (-1), 1) := by decide +kernel
theorem d_S_colourBelow_9 : decode b_S_colourBelow 9 = .ok (.if_icmp .ne 5, 3) := by decide +kernel
theorem d_S_colourBelow_12 : decode b_S_colourBelow 12 = .ok (.iconst 0, 1) := by decide +kernel
theorem d_S_colourBelow_13 : decode b_S_colourBelow 13 = .ok (.ireturn, 1) := by decide +kernel
theorem d_S_colourBelow_14 : decode b_S_colourBelow 14 = .ok (.aload_n 0, 1) := by decide +kernel
theorem d_S_colourBelow_15 : decode b_S_colourBelow 15 = .ok (.getfield 15, 3) := by decide +kernel
theorem d_S_colourBelow_18 : decode b_S_colourBelow 18 = .ok (.iload_n 3, 1) := by decide +kernel
theorem d_S_colourBelow_19 : decode b_S_colourBelow 19 = .ok (.aaload, 1) := by decide +kernel
theorem d_S_colourBelow_20 : decode b_S_colourBelow 20 = .ok (.astore 4, 2) := by decide +kernel
theorem d_S_colourBelow_22 : decode b_S_colourBelow 22 = .ok (.aload_n 0, 1) := by decide +kernel
theorem d_S_colourBelow_23 : decode b_S_colourBelow 23 = .ok (.getfield 30, 3) := by decide +kernel
theorem d_S_colourBelow_26 : decode b_S_colourBelow 26 = .ok (.getfield 130, 3) := by decide +kernel
theorem d_S_colourBelow_29 : decode b_S_colourBelow 29 = .ok (.aload 4, 2) := by decide +kernel
theorem d_S_colourBelow_31 : decode b_S_colourBelow 31 = .ok (.iload_n 1, 1) := by decide +kernel
theorem d_S_colourBelow_32 : decode b_S_colourBelow 32 = .ok (.aload 4, 2) := by decide +kernel
theorem d_S_colourBelow_34 : decode b_S_colourBelow 34 = .ok (.getfield 186, 3) := by decide +kernel
theorem d_S_colourBelow_37 : decode b_S_colourBelow 37 = .ok (.isub, 1) := by decide +kernel
theorem d_S_colourBelow_38 : decode b_S_colourBelow 38 = .ok (.iload_n 2, 1) := by decide +kernel
theorem d_S_colourBelow_39 : decode b_S_colourBelow 39 = .ok (.aload 4, 2) := by decide +kernel
theorem d_S_colourBelow_41 : decode b_S_colourBelow 41 = .ok (.getfield 189, 3) := by decide +kernel
theorem d_S_colourBelow_44 : decode b_S_colourBelow 44 = .ok (.isub, 1) := by decide +kernel
theorem d_S_colourBelow_45 : decode b_S_colourBelow 45 = .ok (.invokevirtual 133, 3) := by decide +kernel
theorem d_S_colourBelow_48 : decode b_S_colourBelow 48 = .ok (.iaload, 1) := by decide +kernel
theorem d_S_colourBelow_49 : decode b_S_colourBelow 49 = .ok (.ireturn, 1) := by decide +kernel
abbrev r_S_colourBelow : Room := ⟨3, 0, 0, 68⟩
def f_S_colourBelow_0 (σ : Mem) (x1 : Int32) (x2 : Int32) : Option (Int32 × Mem) :=
  gb (f_S_ownerOf x1 x2 σ) fun r2 u1 =>
  if r2 = (-1) then
    some (0, u1)
  else
    if gin r2 8 = true then
      gbn (gPB + r2.toNatClampNeg) fun p3 =>
      gb (f_P_cell p3 (x1 - (u1 p3 1)) (x2 - (u1 p3 2)) u1) fun r5 u4 =>
      if gin r5 400 = true then
        some ((u4 6 r5.toNatClampNeg), u4)
      else none
    else none
set_option maxRecDepth 100000 in
theorem m_S_colourBelow_0 {κ : GC} {Γ : GA} (hX : Gx κ Γ 5 b_S_colourBelow "PaneScreen" r_S_colourBelow (some .int)) (σ : Mem) (x1 : Int32) (x2 : Int32) : GG κ Γ 5 (gQ gqi κ Γ r_S_colourBelow) 0 0 σ [some (.ref (Γ.2.1 0)), some (.int x1), some (.int x2), none, none] 0 [] (f_S_colourBelow_0 σ x1 x2) := by
  unfold f_S_colourBelow_0
  refine g_aload_n hX 0 d_S_colourBelow_0 (n := 1) rfl rfl rfl ?_
  refine g_iload_n hX 1 d_S_colourBelow_1 (n := 2) rfl rfl rfl ?_
  refine g_iload_n hX 2 d_S_colourBelow_2 (n := 3) rfl rfl rfl ?_
  refine g_cVi hX [_, _] rfl 0 0 (c_S_ownerOf _ Γ x1 x2 σ) gw_S_180 rfl sh_0 rfl d_S_colourBelow_3 (n := 6) rfl ⟨by decide, by decide⟩ ⟨by decide, by decide⟩ (Nat.le_of_ble_eq_true rfl) rfl rfl (fun r2 u1 => ?_)
  refine g_istore_n hX 3 [_, _, _, _, _] d_S_colourBelow_6 (n := 7) rfl rfl (by decide) rfl ?_
  refine g_iload_n hX 3 d_S_colourBelow_7 (n := 8) rfl rfl rfl ?_
  refine g_iconst hX (-1) d_S_colourBelow_8 (n := 9) rfl k_iconst_m1 ?_
  refine g_icmp_ne hX 14 d_S_colourBelow_9 (n := 12) rfl rfl ?_ ?_
  · refine g_aload_n hX 0 d_S_colourBelow_14 (n := 15) rfl rfl rfl ?_
    refine g_geta hX 2 gf_S_15 d_S_colourBelow_15 (n := 18) rfl sh_0 rfl ?_
    refine g_iload_n hX 3 d_S_colourBelow_18 (n := 19) rfl rfl rfl ?_
    refine g_aaldB hX d_S_colourBelow_19 (n := 20) rfl sh_2 (fun p3 hp3 => ?_)
    refine g_astore hX [_, _, _, _, _] d_S_colourBelow_20 (n := 22) rfl (by decide) rfl ?_
    refine g_aload_n hX 0 d_S_colourBelow_22 (n := 23) rfl rfl rfl ?_
    refine g_geta hX 5 gf_S_30 d_S_colourBelow_23 (n := 26) rfl sh_0 rfl ?_
    refine g_geta hX 6 gf_S_130 d_S_colourBelow_26 (n := 29) rfl sh_5 rfl ?_
    refine g_aload hX d_S_colourBelow_29 (n := 31) rfl rfl ?_
    refine g_iload_n hX 1 d_S_colourBelow_31 (n := 32) rfl rfl rfl ?_
    refine g_aload hX d_S_colourBelow_32 (n := 34) rfl rfl ?_
    refine g_geti hX gf_S_186 d_S_colourBelow_34 (n := 37) rfl hp3 rfl ?_
    refine g_isub hX d_S_colourBelow_37 (n := 38) rfl ?_
    refine g_iload_n hX 2 d_S_colourBelow_38 (n := 39) rfl rfl rfl ?_
    refine g_aload hX d_S_colourBelow_39 (n := 41) rfl rfl ?_
    refine g_geti hX gf_S_189 d_S_colourBelow_41 (n := 44) rfl hp3 rfl ?_
    refine g_isub hX d_S_colourBelow_44 (n := 45) rfl ?_
    refine g_cVi hX [_, _] rfl 0 0 (c_P_cell _ Γ p3 (x1 - (u1 p3 1)) (x2 - (u1 p3 2)) hp3 u1) gw_S_133 rfl hp3 rfl d_S_colourBelow_45 (n := 48) rfl ⟨by decide, by decide⟩ ⟨by decide, by decide⟩ (Nat.le_of_ble_eq_true rfl) rfl rfl (fun r5 u4 => ?_)
    refine g_iald hX d_S_colourBelow_48 (n := 49) rfl sh_6 ?_
    exact g_iret hX d_S_colourBelow_49 (by decide) (by decide)
  · refine g_iconst hX 0 d_S_colourBelow_12 (n := 13) rfl k_iconst_0 ?_
    exact g_iret hX d_S_colourBelow_13 (by decide) (by decide)
def f_S_colourBelow (x1 : Int32) (x2 : Int32) (σ : Mem) : Option (Int32 × Mem) := f_S_colourBelow_0 σ x1 x2
theorem c_S_colourBelow (l : Launch) (Γ : GA) (x1 : Int32) (x2 : Int32) (σ : Mem) : gM gqi l y_S_colourBelow b_S_colourBelow 5 (some .int) r_S_colourBelow [.ref (Γ.2.1 0), .int x1, .int x2] Γ σ (f_S_colourBelow x1 x2 σ) :=
  gM.of [some (.ref (Γ.2.1 0)), some (.int x1), some (.int x2), none, none] (by decide) (Nat.le_of_ble_eq_true rfl) rfl rfl (fun κ hX _ => m_S_colourBelow_0 hX σ x1 x2)
/-! D_forget -/
theorem d_D_forget_0 : decode b_D_forget 0 = .ok (.aload_n 0, 1) := by decide +kernel
theorem d_D_forget_1 : decode b_D_forget 1 = .ok (.iconst 0, 1) := by decide +kernel
theorem d_D_forget_2 : decode b_D_forget 2 = .ok (.putfield 33, 3) := by decide +kernel
theorem d_D_forget_5 : decode b_D_forget 5 = .ok (.return_, 1) := by decide +kernel
abbrev r_D_forget : Room := ⟨0, 0, 0, 0⟩
def f_D_forget_0 (σ : Mem) : Option Mem :=
  gbm (m2 σ 9 4 0) fun u1 =>
  some u1
set_option maxRecDepth 100000 in
theorem m_D_forget_0 {κ : GC} {Γ : GA} (hX : Gx κ Γ 1 b_D_forget "PaneScreen$Damage" r_D_forget none) (σ : Mem) : GG κ Γ 1 (gQ gqv κ Γ r_D_forget) 0 0 σ [some (.ref (Γ.2.1 9))] 0 [] (f_D_forget_0 σ) := by
  unfold f_D_forget_0
  refine g_aload_n hX 0 d_D_forget_0 (n := 1) rfl rfl rfl ?_
  refine g_iconst hX 0 d_D_forget_1 (n := 2) rfl k_iconst_0 ?_
  refine g_puti hX gp_D_33 d_D_forget_2 (n := 5) rfl sh_9 rfl ?_
  refine g_mem (fun u1 => ?_)
  exact g_vret hX d_D_forget_5 (by decide) (by decide)
def f_D_forget (σ : Mem) : Option Mem := f_D_forget_0 σ
theorem c_D_forget (l : Launch) (Γ : GA) (σ : Mem) : gM gqv l y_D_forget b_D_forget 1 none r_D_forget [.ref (Γ.2.1 9)] Γ σ (f_D_forget σ) :=
  gM.of [some (.ref (Γ.2.1 9))] (by decide) (Nat.le_of_ble_eq_true rfl) rfl rfl (fun κ hX _ => m_D_forget_0 hX σ)
/-! S_flush -/
theorem d_S_flush_0 : decode b_S_flush 0 = .ok (.iconst 0, 1) := by decide +kernel
theorem d_S_flush_1 : decode b_S_flush 1 = .ok (.istore_n 1, 1) := by decide +kernel
theorem d_S_flush_2 : decode b_S_flush 2 = .ok (.iconst 0, 1) := by decide +kernel
theorem d_S_flush_3 : decode b_S_flush 3 = .ok (.istore_n 2, 1) := by decide +kernel
theorem d_S_flush_4 : decode b_S_flush 4 = .ok (.iload_n 2, 1) := by decide +kernel
theorem d_S_flush_5 : decode b_S_flush 5 = .ok (.bipush 16, 2) := by decide +kernel
theorem d_S_flush_7 : decode b_S_flush 7 = .ok (.if_icmp .ge 55, 3) := by decide +kernel
theorem d_S_flush_10 : decode b_S_flush 10 = .ok (.iconst 0, 1) := by decide +kernel
theorem d_S_flush_11 : decode b_S_flush 11 = .ok (.istore_n 3, 1) := by decide +kernel
theorem d_S_flush_12 : decode b_S_flush 12 = .ok (.iload_n 3, 1) := by decide +kernel
theorem d_S_flush_13 : decode b_S_flush 13 = .ok (.bipush 24, 2) := by decide +kernel
theorem d_S_flush_15 : decode b_S_flush 15 = .ok (.if_icmp .ge 41, 3) := by decide +kernel
theorem d_S_flush_18 : decode b_S_flush 18 = .ok (.aload_n 0, 1) := by decide +kernel
theorem d_S_flush_19 : decode b_S_flush 19 = .ok (.getfield 37, 3) := by decide +kernel
theorem d_S_flush_22 : decode b_S_flush 22 = .ok (.iload_n 3, 1) := by decide +kernel
theorem d_S_flush_23 : decode b_S_flush 23 = .ok (.iload_n 2, 1) := by decide +kernel
theorem d_S_flush_24 : decode b_S_flush 24 = .ok (.invokevirtual 165, 3) := by decide +kernel
theorem d_S_flush_27 : decode b_S_flush 27 = .ok (.ifCond .eq 23, 3) := by decide +kernel
theorem d_S_flush_30 : decode b_S_flush 30 = .ok (.aload_n 0, 1) := by decide +kernel
theorem d_S_flush_31 : decode b_S_flush 31 = .ok (.getfield 9, 3) := by decide +kernel
theorem d_S_flush_34 : decode b_S_flush 34 = .ok (.iload_n 2, 1) := by decide +kernel
theorem d_S_flush_35 : decode b_S_flush 35 = .ok (.bipush 24, 2) := by decide +kernel
theorem d_S_flush_37 : decode b_S_flush 37 = .ok (.imul, 1) := by decide +kernel
theorem d_S_flush_38 : decode b_S_flush 38 = .ok (.iload_n 3, 1) := by decide +kernel
theorem d_S_flush_39 : decode b_S_flush 39 = .ok (.iadd, 1) := by decide +kernel
theorem d_S_flush_40 : decode b_S_flush 40 = .ok (.aload_n 0, 1) := by decide +kernel
theorem d_S_flush_41 : decode b_S_flush 41 = .ok (.iload_n 3, 1) := by decide +kernel
theorem d_S_flush_42 : decode b_S_flush 42 = .ok (.iload_n 2, 1) := by decide +kernel
theorem d_S_flush_43 : decode b_S_flush 43 = .ok (.invokevirtual 168, 3) := by decide +kernel
theorem d_S_flush_46 : decode b_S_flush 46 = .ok (.iastore, 1) := by decide +kernel
theorem d_S_flush_47 : decode b_S_flush 47 = .ok (.iinc 1 1, 3) := by decide +kernel
theorem d_S_flush_50 : decode b_S_flush 50 = .ok (.iinc 3 1, 3) := by decide +kernel
theorem d_S_flush_53 : decode b_S_flush 53 = .ok (.goto (-41), 3) := by decide +kernel
theorem d_S_flush_56 : decode b_S_flush 56 = .ok (.iinc 2 1, 3) := by decide +kernel
theorem d_S_flush_59 : decode b_S_flush 59 = .ok (.goto (-55), 3) := by decide +kernel
theorem d_S_flush_62 : decode b_S_flush 62 = .ok (.aload_n 0, 1) := by decide +kernel
theorem d_S_flush_63 : decode b_S_flush 63 = .ok (.getfield 37, 3) := by decide +kernel
theorem d_S_flush_66 : decode b_S_flush 66 = .ok (.invokevirtual 171, 3) := by decide +kernel
theorem d_S_flush_69 : decode b_S_flush 69 = .ok (.aload_n 0, 1) := by decide +kernel
theorem d_S_flush_70 : decode b_S_flush 70 = .ok (.dup, 1) := by decide +kernel
theorem d_S_flush_71 : decode b_S_flush 71 = .ok (.getfield 52, 3) := by decide +kernel
theorem d_S_flush_74 : decode b_S_flush 74 = .ok (.iload_n 1, 1) := by decide +kernel
theorem d_S_flush_75 : decode b_S_flush 75 = .ok (.iadd, 1) := by decide +kernel
theorem d_S_flush_76 : decode b_S_flush 76 = .ok (.putfield 52, 3) := by decide +kernel
theorem d_S_flush_79 : decode b_S_flush 79 = .ok (.iload_n 1, 1) := by decide +kernel
theorem d_S_flush_80 : decode b_S_flush 80 = .ok (.ireturn, 1) := by decide +kernel
abbrev r_S_flush : Room := ⟨4, 0, 0, 92⟩
def f_S_flush_50 (K4 : Mem → Int32 → Int32 → Option (Int32 × Mem)) (K12 : Mem → Int32 → Int32 → Int32 → Option (Int32 × Mem)) (σ : Mem) (x1 : Int32) (x2 : Int32) (x3 : Int32) : Option (Int32 × Mem) :=
  K12 σ x1 x2 (x3 + 1)
set_option maxRecDepth 100000 in
theorem m_S_flush_50 {κ : GC} {Γ : GA} (hX : Gx κ Γ 4 b_S_flush "PaneScreen" r_S_flush (some .int)) (K4 : Mem → Int32 → Int32 → Option (Int32 × Mem)) (hK4 : ∀ (σ : Mem) (x1 : Int32) (x2 : Int32), GG κ Γ 4 (gQ gqi κ Γ r_S_flush) 0 0 σ [some (.ref (Γ.2.1 0)), some (.int x1), some (.int x2), none] 4 [] (K4 σ x1 x2)) (K12 : Mem → Int32 → Int32 → Int32 → Option (Int32 × Mem)) (hK12 : ∀ (σ : Mem) (x1 : Int32) (x2 : Int32) (x3 : Int32), GG κ Γ 4 (gQ gqi κ Γ r_S_flush) 0 0 σ [some (.ref (Γ.2.1 0)), some (.int x1), some (.int x2), some (.int x3)] 12 [] (K12 σ x1 x2 x3)) (σ : Mem) (x1 : Int32) (x2 : Int32) (x3 : Int32) : GG κ Γ 4 (gQ gqi κ Γ r_S_flush) 0 0 σ [some (.ref (Γ.2.1 0)), some (.int x1), some (.int x2), some (.int x3)] 50 [] (f_S_flush_50 K4 K12 σ x1 x2 x3) := by
  unfold f_S_flush_50
  refine g_iinc hX 1 _ [_, _, _, _] d_S_flush_50 (n := 53) rfl rfl k_iconst_1 rfl (by decide) rfl ?_
  refine g_goto hX 12 d_S_flush_53 rfl ?_
  exact (hK12 σ x1 x2 (x3 + 1))
def f_S_flush_12B (K4 : Mem → Int32 → Int32 → Option (Int32 × Mem)) (K12 : Mem → Int32 → Int32 → Int32 → Option (Int32 × Mem)) (σ : Mem) (x1 : Int32) (x2 : Int32) (x3 : Int32) : Option (Int32 × Mem) :=
  if 24 ≤ x3 then
    K4 σ x1 (x2 + 1)
  else
    gb (f_D_holds x3 x2 σ) fun r2 u1 =>
    if r2 = 0 then
      f_S_flush_50 K4 K12 u1 x1 x2 x3
    else
      gb (f_S_colourBelow x3 x2 u1) fun r4 u3 =>
      if gin ((x2 * 24) + x3) 384 = true then
        gbm (m2 u3 1 ((x2 * 24) + x3).toNatClampNeg r4) fun u5 =>
        f_S_flush_50 K4 K12 u5 (x1 + 1) x2 x3
      else none
set_option maxRecDepth 100000 in
theorem m_S_flush_12B {κ : GC} {Γ : GA} (hX : Gx κ Γ 4 b_S_flush "PaneScreen" r_S_flush (some .int)) (K4 : Mem → Int32 → Int32 → Option (Int32 × Mem)) (hK4 : ∀ (σ : Mem) (x1 : Int32) (x2 : Int32), GG κ Γ 4 (gQ gqi κ Γ r_S_flush) 0 0 σ [some (.ref (Γ.2.1 0)), some (.int x1), some (.int x2), none] 4 [] (K4 σ x1 x2)) (K12 : Mem → Int32 → Int32 → Int32 → Option (Int32 × Mem)) (hK12 : ∀ (σ : Mem) (x1 : Int32) (x2 : Int32) (x3 : Int32), GG κ Γ 4 (gQ gqi κ Γ r_S_flush) 0 0 σ [some (.ref (Γ.2.1 0)), some (.int x1), some (.int x2), some (.int x3)] 12 [] (K12 σ x1 x2 x3)) (σ : Mem) (x1 : Int32) (x2 : Int32) (x3 : Int32) : GG κ Γ 4 (gQ gqi κ Γ r_S_flush) 0 0 σ [some (.ref (Γ.2.1 0)), some (.int x1), some (.int x2), some (.int x3)] 12 [] (f_S_flush_12B K4 K12 σ x1 x2 x3) := by
  unfold f_S_flush_12B
  refine g_iload_n hX 3 d_S_flush_12 (n := 13) rfl rfl rfl ?_
  refine g_bipush hX 24 d_S_flush_13 (n := 15) rfl k_bipush_24 ?_
  refine g_icmp_ge hX 56 d_S_flush_15 (n := 18) rfl rfl ?_ ?_
  · refine g_iinc hX 1 _ [_, _, _, _] d_S_flush_56 (n := 59) rfl rfl k_iconst_1 rfl (by decide) rfl ?_
    refine g_goto hX 4 d_S_flush_59 rfl ?_
    exact (g_sub (lw := [some (.ref (Γ.2.1 0)), some (.int x1), some (.int (x2 + 1)), none]) (And.intro rfl (And.intro rfl (And.intro rfl (True.intro)))) (hK4 σ x1 (x2 + 1)))
  · refine g_aload_n hX 0 d_S_flush_18 (n := 19) rfl rfl rfl ?_
    refine g_geta hX 9 gf_S_37 d_S_flush_19 (n := 22) rfl sh_0 rfl ?_
    refine g_iload_n hX 3 d_S_flush_22 (n := 23) rfl rfl rfl ?_
    refine g_iload_n hX 2 d_S_flush_23 (n := 24) rfl rfl rfl ?_
    refine g_cVi hX [_, _] rfl 0 0 (c_D_holds _ Γ x3 x2 σ) gw_S_165 rfl sh_9 rfl d_S_flush_24 (n := 27) rfl ⟨by decide, by decide⟩ ⟨by decide, by decide⟩ (Nat.le_of_ble_eq_true rfl) rfl rfl (fun r2 u1 => ?_)
    refine g_if_eq hX 50 d_S_flush_27 (n := 30) rfl rfl ?_ ?_
    · exact (m_S_flush_50 hX K4 hK4 K12 hK12 u1 x1 x2 x3)
    · refine g_aload_n hX 0 d_S_flush_30 (n := 31) rfl rfl rfl ?_
      refine g_geta hX 1 gf_S_9 d_S_flush_31 (n := 34) rfl sh_0 rfl ?_
      refine g_iload_n hX 2 d_S_flush_34 (n := 35) rfl rfl rfl ?_
      refine g_bipush hX 24 d_S_flush_35 (n := 37) rfl k_bipush_24 ?_
      refine g_imul hX d_S_flush_37 (n := 38) rfl ?_
      refine g_iload_n hX 3 d_S_flush_38 (n := 39) rfl rfl rfl ?_
      refine g_iadd hX d_S_flush_39 (n := 40) rfl ?_
      refine g_aload_n hX 0 d_S_flush_40 (n := 41) rfl rfl rfl ?_
      refine g_iload_n hX 3 d_S_flush_41 (n := 42) rfl rfl rfl ?_
      refine g_iload_n hX 2 d_S_flush_42 (n := 43) rfl rfl rfl ?_
      refine g_cVi hX [_, _] rfl 0 0 (c_S_colourBelow _ Γ x3 x2 u1) gw_S_168 rfl sh_0 rfl d_S_flush_43 (n := 46) rfl ⟨by decide, by decide⟩ ⟨by decide, by decide⟩ (Nat.le_of_ble_eq_true rfl) rfl rfl (fun r4 u3 => ?_)
      refine g_iast hX d_S_flush_46 (n := 47) rfl sh_1 ?_
      refine g_mem (fun u5 => ?_)
      refine g_iinc hX 1 _ [_, _, _, _] d_S_flush_47 (n := 50) rfl rfl k_iconst_1 rfl (by decide) rfl ?_
      exact (m_S_flush_50 hX K4 hK4 K12 hK12 u5 (x1 + 1) x2 x3)
def f_S_flush_12 (K4 : Mem → Int32 → Int32 → Option (Int32 × Mem)) (n : Nat) : Mem → Int32 → Int32 → Int32 → Option (Int32 × Mem) := gfix (fun _ _ _ _ => none) (fun K12 => f_S_flush_12B K4 K12) n
theorem m_S_flush_12 {κ : GC} {Γ : GA} (hX : Gx κ Γ 4 b_S_flush "PaneScreen" r_S_flush (some .int)) (K4 : Mem → Int32 → Int32 → Option (Int32 × Mem)) (hK4 : ∀ (σ : Mem) (x1 : Int32) (x2 : Int32), GG κ Γ 4 (gQ gqi κ Γ r_S_flush) 0 0 σ [some (.ref (Γ.2.1 0)), some (.int x1), some (.int x2), none] 4 [] (K4 σ x1 x2)) (n : Nat) : ∀ (σ : Mem) (x1 : Int32) (x2 : Int32) (x3 : Int32), GG κ Γ 4 (gQ gqi κ Γ r_S_flush) 0 0 σ [some (.ref (Γ.2.1 0)), some (.int x1), some (.int x2), some (.int x3)] 12 [] (f_S_flush_12 K4 n σ x1 x2 x3) := by
  induction n with
  | zero => intros; exact g_none
  | succ n ih => intro σ x1 x2 x3; exact m_S_flush_12B hX K4 hK4 (f_S_flush_12 K4 n) ih σ x1 x2 x3
def f_S_flush_4B (K4 : Mem → Int32 → Int32 → Option (Int32 × Mem)) (σ : Mem) (x1 : Int32) (x2 : Int32) : Option (Int32 × Mem) :=
  if 16 ≤ x2 then
    gbv (f_D_forget σ) fun u1 =>
    gbm (m2 u1 0 7 ((u1 0 7) + x1)) fun u2 =>
    some (x1, u2)
  else
    f_S_flush_12 K4 gN σ x1 x2 0
set_option maxRecDepth 100000 in
theorem m_S_flush_4B {κ : GC} {Γ : GA} (hX : Gx κ Γ 4 b_S_flush "PaneScreen" r_S_flush (some .int)) (K4 : Mem → Int32 → Int32 → Option (Int32 × Mem)) (hK4 : ∀ (σ : Mem) (x1 : Int32) (x2 : Int32), GG κ Γ 4 (gQ gqi κ Γ r_S_flush) 0 0 σ [some (.ref (Γ.2.1 0)), some (.int x1), some (.int x2), none] 4 [] (K4 σ x1 x2)) (σ : Mem) (x1 : Int32) (x2 : Int32) : GG κ Γ 4 (gQ gqi κ Γ r_S_flush) 0 0 σ [some (.ref (Γ.2.1 0)), some (.int x1), some (.int x2), none] 4 [] (f_S_flush_4B K4 σ x1 x2) := by
  unfold f_S_flush_4B
  refine g_iload_n hX 2 d_S_flush_4 (n := 5) rfl rfl rfl ?_
  refine g_bipush hX 16 d_S_flush_5 (n := 7) rfl k_bipush_16 ?_
  refine g_icmp_ge hX 62 d_S_flush_7 (n := 10) rfl rfl ?_ ?_
  · refine g_aload_n hX 0 d_S_flush_62 (n := 63) rfl rfl rfl ?_
    refine g_geta hX 9 gf_S_37 d_S_flush_63 (n := 66) rfl sh_0 rfl ?_
    refine g_cVv hX [] rfl 0 0 (c_D_forget _ Γ σ) gw_S_171 rfl sh_9 rfl d_S_flush_66 (n := 69) rfl ⟨by decide, by decide⟩ ⟨by decide, by decide⟩ (Nat.le_of_ble_eq_true rfl) rfl rfl (fun u1 => ?_)
    refine g_aload_n hX 0 d_S_flush_69 (n := 70) rfl rfl rfl ?_
    refine g_dup hX d_S_flush_70 (n := 71) rfl rfl ?_
    refine g_geti hX gf_S_52 d_S_flush_71 (n := 74) rfl sh_0 rfl ?_
    refine g_iload_n hX 1 d_S_flush_74 (n := 75) rfl rfl rfl ?_
    refine g_iadd hX d_S_flush_75 (n := 76) rfl ?_
    refine g_puti hX gp_S_52 d_S_flush_76 (n := 79) rfl sh_0 rfl ?_
    refine g_mem (fun u2 => ?_)
    refine g_iload_n hX 1 d_S_flush_79 (n := 80) rfl rfl rfl ?_
    exact g_iret hX d_S_flush_80 (by decide) (by decide)
  · refine g_iconst hX 0 d_S_flush_10 (n := 11) rfl k_iconst_0 ?_
    refine g_istore_n hX 3 [_, _, _, _] d_S_flush_11 (n := 12) rfl rfl (by decide) rfl ?_
    exact (m_S_flush_12 hX K4 hK4 gN σ x1 x2 0)
def f_S_flush_4 (n : Nat) : Mem → Int32 → Int32 → Option (Int32 × Mem) := gfix (fun _ _ _ => none) (fun K4 => f_S_flush_4B K4) n
theorem m_S_flush_4 {κ : GC} {Γ : GA} (hX : Gx κ Γ 4 b_S_flush "PaneScreen" r_S_flush (some .int)) (n : Nat) : ∀ (σ : Mem) (x1 : Int32) (x2 : Int32), GG κ Γ 4 (gQ gqi κ Γ r_S_flush) 0 0 σ [some (.ref (Γ.2.1 0)), some (.int x1), some (.int x2), none] 4 [] (f_S_flush_4 n σ x1 x2) := by
  induction n with
  | zero => intros; exact g_none
  | succ n ih => intro σ x1 x2; exact m_S_flush_4B hX (f_S_flush_4 n) ih σ x1 x2
def f_S_flush_0 (σ : Mem) : Option (Int32 × Mem) :=
  f_S_flush_4 gN σ 0 0
set_option maxRecDepth 100000 in
theorem m_S_flush_0 {κ : GC} {Γ : GA} (hX : Gx κ Γ 4 b_S_flush "PaneScreen" r_S_flush (some .int)) (σ : Mem) : GG κ Γ 4 (gQ gqi κ Γ r_S_flush) 0 0 σ [some (.ref (Γ.2.1 0)), none, none, none] 0 [] (f_S_flush_0 σ) := by
  unfold f_S_flush_0
  refine g_iconst hX 0 d_S_flush_0 (n := 1) rfl k_iconst_0 ?_
  refine g_istore_n hX 1 [_, _, _, _] d_S_flush_1 (n := 2) rfl rfl (by decide) rfl ?_
  refine g_iconst hX 0 d_S_flush_2 (n := 3) rfl k_iconst_0 ?_
  refine g_istore_n hX 2 [_, _, _, _] d_S_flush_3 (n := 4) rfl rfl (by decide) rfl ?_
  exact (m_S_flush_4 hX gN σ 0 0)
def f_S_flush (σ : Mem) : Option (Int32 × Mem) := f_S_flush_0 σ
theorem c_S_flush (l : Launch) (Γ : GA) (σ : Mem) : gM gqi l y_S_flush b_S_flush 4 (some .int) r_S_flush [.ref (Γ.2.1 0)] Γ σ (f_S_flush σ) :=
  gM.of [some (.ref (Γ.2.1 0)), none, none, none] (by decide) (Nat.le_of_ble_eq_true rfl) rfl rfl (fun κ hX _ => m_S_flush_0 hX σ)
/-! S_requireOnScreen -/
theorem d_S_requireOnScreen_0 : decode b_S_requireOnScreen 0 = .ok (.iload_n 0, 1) := by decide +kernel
theorem d_S_requireOnScreen_1 : decode b_S_requireOnScreen 1 = .ok (.ifCond .lt 19, 3) := by decide +kernel
theorem d_S_requireOnScreen_4 : decode b_S_requireOnScreen 4 = .ok (.iload_n 0, 1) := by decide +kernel
theorem d_S_requireOnScreen_5 : decode b_S_requireOnScreen 5 = .ok (.bipush 24, 2) := by decide +kernel
theorem d_S_requireOnScreen_7 : decode b_S_requireOnScreen 7 = .ok (.if_icmp .ge 13, 3) := by decide +kernel
theorem d_S_requireOnScreen_10 : decode b_S_requireOnScreen 10 = .ok (.iload_n 1, 1) := by decide +kernel
theorem d_S_requireOnScreen_11 : decode b_S_requireOnScreen 11 = .ok (.ifCond .lt 9, 3) := by decide +kernel
theorem d_S_requireOnScreen_14 : decode b_S_requireOnScreen 14 = .ok (.iload_n 1, 1) := by decide +kernel
theorem d_S_requireOnScreen_15 : decode b_S_requireOnScreen 15 = .ok (.bipush 16, 2) := by decide +kernel
theorem d_S_requireOnScreen_17 : decode b_S_requireOnScreen 17 = .ok (.if_icmp .lt 11, 3) := by decide +kernel
theorem d_S_requireOnScreen_20 : decode b_S_requireOnScreen 20 = .ok (.new 177, 3) := by decide +kernel
theorem d_S_requireOnScreen_23 : decode b_S_requireOnScreen 23 = .ok (.dup, 1) := by decide +kernel
theorem d_S_requireOnScreen_24 : decode b_S_requireOnScreen 24 = .ok (.invokespecial 179, 3) := by decide +kernel
theorem d_S_requireOnScreen_27 : decode b_S_requireOnScreen 27 = .ok (.athrow, 1) := by decide +kernel
theorem d_S_requireOnScreen_28 : decode b_S_requireOnScreen 28 = .ok (.return_, 1) := by decide +kernel
abbrev r_S_requireOnScreen : Room := ⟨6, 1, 6, 81⟩
def f_S_requireOnScreen_20 (σ : Mem) : Option ((Unit ⊕ String) × Mem) :=
  some (.inr "java/lang/IndexOutOfBoundsException", σ)
set_option maxRecDepth 100000 in
theorem m_S_requireOnScreen_20 {κ : GC} {Γ : GA} (hX : Gx κ Γ 2 b_S_requireOnScreen "PaneScreen" r_S_requireOnScreen none) (hE : ∀ x ∈ κ.2.2.2.2.2.2.2.2.2.exceptionTable.toList, False) (hT : κ.2.1.stackTraces = false) (σ : Mem) : GG κ Γ 2 (gQX gxv κ Γ r_S_requireOnScreen) 0 0 σ [none, none] 20 [] (f_S_requireOnScreen_20 σ) := by
  unfold f_S_requireOnScreen_20
  exact g_throw hX hE hT gt_S_177 d_S_requireOnScreen_20 d_S_requireOnScreen_23 d_S_requireOnScreen_24 d_S_requireOnScreen_27 (by decide) (by decide) (by decide) (by decide)
def f_S_requireOnScreen_0 (σ : Mem) (x0 : Int32) (x1 : Int32) : Option ((Unit ⊕ String) × Mem) :=
  if x0 < 0 then
    f_S_requireOnScreen_20 σ
  else
    if 24 ≤ x0 then
      f_S_requireOnScreen_20 σ
    else
      if x1 < 0 then
        f_S_requireOnScreen_20 σ
      else
        if x1 < 16 then
          some (.inl (), σ)
        else
          f_S_requireOnScreen_20 σ
set_option maxRecDepth 100000 in
theorem m_S_requireOnScreen_0 {κ : GC} {Γ : GA} (hX : Gx κ Γ 2 b_S_requireOnScreen "PaneScreen" r_S_requireOnScreen none) (hE : ∀ x ∈ κ.2.2.2.2.2.2.2.2.2.exceptionTable.toList, False) (hT : κ.2.1.stackTraces = false) (σ : Mem) (x0 : Int32) (x1 : Int32) : GG κ Γ 2 (gQX gxv κ Γ r_S_requireOnScreen) 0 0 σ [some (.int x0), some (.int x1)] 0 [] (f_S_requireOnScreen_0 σ x0 x1) := by
  unfold f_S_requireOnScreen_0
  refine g_iload_n hX 0 d_S_requireOnScreen_0 (n := 1) rfl rfl rfl ?_
  refine g_if_lt hX 20 d_S_requireOnScreen_1 (n := 4) rfl rfl ?_ ?_
  · exact (g_sub (lw := [none, none]) (True.intro) (m_S_requireOnScreen_20 hX hE hT σ))
  · refine g_iload_n hX 0 d_S_requireOnScreen_4 (n := 5) rfl rfl rfl ?_
    refine g_bipush hX 24 d_S_requireOnScreen_5 (n := 7) rfl k_bipush_24 ?_
    refine g_icmp_ge hX 20 d_S_requireOnScreen_7 (n := 10) rfl rfl ?_ ?_
    · exact (g_sub (lw := [none, none]) (True.intro) (m_S_requireOnScreen_20 hX hE hT σ))
    · refine g_iload_n hX 1 d_S_requireOnScreen_10 (n := 11) rfl rfl rfl ?_
      refine g_if_lt hX 20 d_S_requireOnScreen_11 (n := 14) rfl rfl ?_ ?_
      · exact (g_sub (lw := [none, none]) (True.intro) (m_S_requireOnScreen_20 hX hE hT σ))
      · refine g_iload_n hX 1 d_S_requireOnScreen_14 (n := 15) rfl rfl rfl ?_
        refine g_bipush hX 16 d_S_requireOnScreen_15 (n := 17) rfl k_bipush_16 ?_
        refine g_icmp_lt hX 28 d_S_requireOnScreen_17 (n := 20) rfl rfl ?_ ?_
        · exact g_vxret hX d_S_requireOnScreen_28 (by decide) (by decide)
        · exact (g_sub (lw := [none, none]) (True.intro) (m_S_requireOnScreen_20 hX hE hT σ))
def f_S_requireOnScreen (x0 : Int32) (x1 : Int32) (σ : Mem) : Option ((Unit ⊕ String) × Mem) := f_S_requireOnScreen_0 σ x0 x1
theorem c_S_requireOnScreen (l : Launch) (hT : l.stackTraces = false) (Γ : GA) (x0 : Int32) (x1 : Int32) (σ : Mem) : gX gxv l y_S_requireOnScreen b_S_requireOnScreen 2 none r_S_requireOnScreen [.int x0, .int x1] Γ σ (f_S_requireOnScreen x0 x1 σ) :=
  gX.of [some (.int x0), some (.int x1)] (by decide) (Nat.le_of_ble_eq_true rfl) rfl rfl (fun κ hX hκ hE => m_S_requireOnScreen_0 hX hE (by rw [hκ]; exact hT) σ x0 x1)
/-! S_screen -/
theorem d_S_screen_0 : decode b_S_screen 0 = .ok (.iload_n 1, 1) := by decide +kernel
theorem d_S_screen_1 : decode b_S_screen 1 = .ok (.iload_n 2, 1) := by decide +kernel
theorem d_S_screen_2 : decode b_S_screen 2 = .ok (.invokestatic 174, 3) := by decide +kernel
theorem d_S_screen_5 : decode b_S_screen 5 = .ok (.aload_n 0, 1) := by decide +kernel
theorem d_S_screen_6 : decode b_S_screen 6 = .ok (.getfield 9, 3) := by decide +kernel
theorem d_S_screen_9 : decode b_S_screen 9 = .ok (.iload_n 2, 1) := by decide +kernel
theorem d_S_screen_10 : decode b_S_screen 10 = .ok (.bipush 24, 2) := by decide +kernel
theorem d_S_screen_12 : decode b_S_screen 12 = .ok (.imul, 1) := by decide +kernel
theorem d_S_screen_13 : decode b_S_screen 13 = .ok (.iload_n 1, 1) := by decide +kernel
theorem d_S_screen_14 : decode b_S_screen 14 = .ok (.iadd, 1) := by decide +kernel
theorem d_S_screen_15 : decode b_S_screen 15 = .ok (.iaload, 1) := by decide +kernel
theorem d_S_screen_16 : decode b_S_screen 16 = .ok (.ireturn, 1) := by decide +kernel
abbrev r_S_screen : Room := ⟨7, 1, 6, 102⟩
def f_S_screen_0 (σ : Mem) (x1 : Int32) (x2 : Int32) : Option ((Int32 ⊕ String) × Mem) :=
  gbx (f_S_requireOnScreen x1 x2 σ) (fun _ u1 =>
    if gin ((x2 * 24) + x1) 384 = true then
      some (.inl (u1 1 ((x2 * 24) + x1).toNatClampNeg), u1)
    else none
    ) (fun E u => some (.inr E, u))
set_option maxRecDepth 100000 in
theorem m_S_screen_0 {κ : GC} {Γ : GA} (hX : Gx κ Γ 3 b_S_screen "PaneScreen" r_S_screen (some .int)) (hE : ∀ x ∈ κ.2.2.2.2.2.2.2.2.2.exceptionTable.toList, False) (hT : κ.2.1.stackTraces = false) (σ : Mem) (x1 : Int32) (x2 : Int32) : GG κ Γ 3 (gQX gxi κ Γ r_S_screen) 0 0 σ [some (.ref (Γ.2.1 0)), some (.int x1), some (.int x2)] 0 [] (f_S_screen_0 σ x1 x2) := by
  unfold f_S_screen_0
  refine g_iload_n hX 1 d_S_screen_0 (n := 1) rfl rfl rfl ?_
  refine g_iload_n hX 2 d_S_screen_1 (n := 2) rfl rfl rfl ?_
  refine g_xSv hX hE [_, _] rfl 1 6 (c_S_requireOnScreen _ hT Γ x1 x2 σ) gw_S_174 rfl d_S_screen_2 (n := 5) rfl ⟨by decide, by decide⟩ ⟨by decide, by decide⟩ (Nat.le_of_ble_eq_true rfl) rfl rfl (fun _ u1 => ?_)
  refine g_aload_n hX 0 d_S_screen_5 (n := 6) rfl rfl rfl ?_
  refine g_geta hX 1 gf_S_9 d_S_screen_6 (n := 9) rfl sh_0 rfl ?_
  refine g_iload_n hX 2 d_S_screen_9 (n := 10) rfl rfl rfl ?_
  refine g_bipush hX 24 d_S_screen_10 (n := 12) rfl k_bipush_24 ?_
  refine g_imul hX d_S_screen_12 (n := 13) rfl ?_
  refine g_iload_n hX 1 d_S_screen_13 (n := 14) rfl rfl rfl ?_
  refine g_iadd hX d_S_screen_14 (n := 15) rfl ?_
  refine g_iald hX d_S_screen_15 (n := 16) rfl sh_1 ?_
  exact g_ixret hX d_S_screen_16 (by decide) (by decide)
def f_S_screen (x1 : Int32) (x2 : Int32) (σ : Mem) : Option ((Int32 ⊕ String) × Mem) := f_S_screen_0 σ x1 x2
theorem c_S_screen (l : Launch) (hT : l.stackTraces = false) (Γ : GA) (x1 : Int32) (x2 : Int32) (σ : Mem) : gX gxi l y_S_screen b_S_screen 3 (some .int) r_S_screen [.ref (Γ.2.1 0), .int x1, .int x2] Γ σ (f_S_screen x1 x2 σ) :=
  gX.of [some (.ref (Γ.2.1 0)), some (.int x1), some (.int x2)] (by decide) (Nat.le_of_ble_eq_true rfl) rfl rfl (fun κ hX hκ hE => m_S_screen_0 hX hE (by rw [hκ]; exact hT) σ x1 x2)
/-! S_picture -/
theorem d_S_picture_0 : decode b_S_picture 0 = .ok (.aload_n 0, 1) := by decide +kernel
theorem d_S_picture_1 : decode b_S_picture 1 = .ok (.iload_n 1, 1) := by decide +kernel
theorem d_S_picture_2 : decode b_S_picture 2 = .ok (.invokevirtual 91, 3) := by decide +kernel
theorem d_S_picture_5 : decode b_S_picture 5 = .ok (.astore 4, 2) := by decide +kernel
theorem d_S_picture_7 : decode b_S_picture 7 = .ok (.aload 4, 2) := by decide +kernel
theorem d_S_picture_9 : decode b_S_picture 9 = .ok (.iload_n 2, 1) := by decide +kernel
theorem d_S_picture_10 : decode b_S_picture 10 = .ok (.iload_n 3, 1) := by decide +kernel
theorem d_S_picture_11 : decode b_S_picture 11 = .ok (.invokevirtual 126, 3) := by decide +kernel
theorem d_S_picture_14 : decode b_S_picture 14 = .ok (.ifCond .ne 11, 3) := by decide +kernel
theorem d_S_picture_17 : decode b_S_picture 17 = .ok (.new 177, 3) := by decide +kernel
theorem d_S_picture_20 : decode b_S_picture 20 = .ok (.dup, 1) := by decide +kernel
theorem d_S_picture_21 : decode b_S_picture 21 = .ok (.invokespecial 179, 3) := by decide +kernel
theorem d_S_picture_24 : decode b_S_picture 24 = .ok (.athrow, 1) := by decide +kernel
theorem d_S_picture_25 : decode b_S_picture 25 = .ok (.aload_n 0, 1) := by decide +kernel
theorem d_S_picture_26 : decode b_S_picture 26 = .ok (.getfield 30, 3) := by decide +kernel
theorem d_S_picture_29 : decode b_S_picture 29 = .ok (.getfield 130, 3) := by decide +kernel
theorem d_S_picture_32 : decode b_S_picture 32 = .ok (.aload 4, 2) := by decide +kernel
theorem d_S_picture_34 : decode b_S_picture 34 = .ok (.iload_n 2, 1) := by decide +kernel
theorem d_S_picture_35 : decode b_S_picture 35 = .ok (.iload_n 3, 1) := by decide +kernel
theorem d_S_picture_36 : decode b_S_picture 36 = .ok (.invokevirtual 133, 3) := by decide +kernel
theorem d_S_picture_39 : decode b_S_picture 39 = .ok (.iaload, 1) := by decide +kernel
theorem d_S_picture_40 : decode b_S_picture 40 = .ok (.ireturn, 1) := by decide +kernel
abbrev r_S_picture : Room := ⟨7, 2, 12, 102⟩
def f_S_picture_0 (σ : Mem) (x1 : Int32) (x2 : Int32) (x3 : Int32) : Option ((Int32 ⊕ String) × Mem) :=
  gbx (f_S_openPane x1 σ) (fun p2 u1 =>
    if gpn p2 = true then
      gb (f_P_has p2 x2 x3 u1) fun r4 u3 =>
      if r4 = 0 then
        some (.inr "java/lang/IndexOutOfBoundsException", u3)
      else
        gb (f_P_cell p2 x2 x3 u3) fun r6 u5 =>
        if gin r6 400 = true then
          some (.inl (u5 6 r6.toNatClampNeg), u5)
        else none
    else none) (fun E u => some (.inr E, u))
set_option maxRecDepth 100000 in
theorem m_S_picture_0 {κ : GC} {Γ : GA} (hX : Gx κ Γ 5 b_S_picture "PaneScreen" r_S_picture (some .int)) (hE : ∀ x ∈ κ.2.2.2.2.2.2.2.2.2.exceptionTable.toList, False) (hT : κ.2.1.stackTraces = false) (σ : Mem) (x1 : Int32) (x2 : Int32) (x3 : Int32) : GG κ Γ 5 (gQX gxi κ Γ r_S_picture) 0 0 σ [some (.ref (Γ.2.1 0)), some (.int x1), some (.int x2), some (.int x3), none] 0 [] (f_S_picture_0 σ x1 x2 x3) := by
  unfold f_S_picture_0
  refine g_aload_n hX 0 d_S_picture_0 (n := 1) rfl rfl rfl ?_
  refine g_iload_n hX 1 d_S_picture_1 (n := 2) rfl rfl rfl ?_
  refine g_xVr hX hE [_] rfl 1 6 (c_S_openPane _ hT Γ x1 σ) gw_S_91 rfl sh_0 rfl d_S_picture_2 (n := 5) rfl ⟨by decide, by decide⟩ ⟨by decide, by decide⟩ (Nat.le_of_ble_eq_true rfl) rfl rfl (fun p2 u1 => ?_)
  refine g_pane (fun hp2 => ?_)
  refine g_astore hX [_, _, _, _, _] d_S_picture_5 (n := 7) rfl (by decide) rfl ?_
  refine g_aload hX d_S_picture_7 (n := 9) rfl rfl ?_
  refine g_iload_n hX 2 d_S_picture_9 (n := 10) rfl rfl rfl ?_
  refine g_iload_n hX 3 d_S_picture_10 (n := 11) rfl rfl rfl ?_
  refine g_cVi hX [_, _] rfl 1 6 (c_P_has _ Γ p2 x2 x3 hp2 u1) gw_S_126 rfl hp2 rfl d_S_picture_11 (n := 14) rfl ⟨by decide, by decide⟩ ⟨by decide, by decide⟩ (Nat.le_of_ble_eq_true rfl) rfl rfl (fun r4 u3 => ?_)
  refine g_if_ne hX 25 d_S_picture_14 (n := 17) rfl rfl ?_ ?_
  · refine g_aload_n hX 0 d_S_picture_25 (n := 26) rfl rfl rfl ?_
    refine g_geta hX 5 gf_S_30 d_S_picture_26 (n := 29) rfl sh_0 rfl ?_
    refine g_geta hX 6 gf_S_130 d_S_picture_29 (n := 32) rfl sh_5 rfl ?_
    refine g_aload hX d_S_picture_32 (n := 34) rfl rfl ?_
    refine g_iload_n hX 2 d_S_picture_34 (n := 35) rfl rfl rfl ?_
    refine g_iload_n hX 3 d_S_picture_35 (n := 36) rfl rfl rfl ?_
    refine g_cVi hX [_, _] rfl 1 6 (c_P_cell _ Γ p2 x2 x3 hp2 u3) gw_S_133 rfl hp2 rfl d_S_picture_36 (n := 39) rfl ⟨by decide, by decide⟩ ⟨by decide, by decide⟩ (Nat.le_of_ble_eq_true rfl) rfl rfl (fun r6 u5 => ?_)
    refine g_iald hX d_S_picture_39 (n := 40) rfl sh_6 ?_
    exact g_ixret hX d_S_picture_40 (by decide) (by decide)
  · exact g_throw hX hE hT gt_S_177 d_S_picture_17 d_S_picture_20 d_S_picture_21 d_S_picture_24 (by decide) (by decide) (by decide) (by decide)
def f_S_picture (x1 : Int32) (x2 : Int32) (x3 : Int32) (σ : Mem) : Option ((Int32 ⊕ String) × Mem) := f_S_picture_0 σ x1 x2 x3
theorem c_S_picture (l : Launch) (hT : l.stackTraces = false) (Γ : GA) (x1 : Int32) (x2 : Int32) (x3 : Int32) (σ : Mem) : gX gxi l y_S_picture b_S_picture 5 (some .int) r_S_picture [.ref (Γ.2.1 0), .int x1, .int x2, .int x3] Γ σ (f_S_picture x1 x2 x3 σ) :=
  gX.of [some (.ref (Γ.2.1 0)), some (.int x1), some (.int x2), some (.int x3), none] (by decide) (Nat.le_of_ble_eq_true rfl) rfl rfl (fun κ hX hκ hE => m_S_picture_0 hX hE (by rw [hκ]; exact hT) σ x1 x2 x3)
/-! S_at -/
theorem d_S_at_0 : decode b_S_at 0 = .ok (.iload_n 1, 1) := by decide +kernel
theorem d_S_at_1 : decode b_S_at 1 = .ok (.iload_n 2, 1) := by decide +kernel
theorem d_S_at_2 : decode b_S_at 2 = .ok (.invokestatic 174, 3) := by decide +kernel
theorem d_S_at_5 : decode b_S_at 5 = .ok (.aload_n 0, 1) := by decide +kernel
theorem d_S_at_6 : decode b_S_at 6 = .ok (.iload_n 1, 1) := by decide +kernel
theorem d_S_at_7 : decode b_S_at 7 = .ok (.iload_n 2, 1) := by decide +kernel
theorem d_S_at_8 : decode b_S_at 8 = .ok (.invokevirtual 180, 3) := by decide +kernel
theorem d_S_at_11 : decode b_S_at 11 = .ok (.ireturn, 1) := by decide +kernel
abbrev r_S_at : Room := ⟨7, 1, 6, 102⟩
def f_S_at_0 (σ : Mem) (x1 : Int32) (x2 : Int32) : Option ((Int32 ⊕ String) × Mem) :=
  gbx (f_S_requireOnScreen x1 x2 σ) (fun _ u1 =>
    gb (f_S_ownerOf x1 x2 u1) fun r3 u2 =>
    some (.inl r3, u2)
    ) (fun E u => some (.inr E, u))
set_option maxRecDepth 100000 in
theorem m_S_at_0 {κ : GC} {Γ : GA} (hX : Gx κ Γ 3 b_S_at "PaneScreen" r_S_at (some .int)) (hE : ∀ x ∈ κ.2.2.2.2.2.2.2.2.2.exceptionTable.toList, False) (hT : κ.2.1.stackTraces = false) (σ : Mem) (x1 : Int32) (x2 : Int32) : GG κ Γ 3 (gQX gxi κ Γ r_S_at) 0 0 σ [some (.ref (Γ.2.1 0)), some (.int x1), some (.int x2)] 0 [] (f_S_at_0 σ x1 x2) := by
  unfold f_S_at_0
  refine g_iload_n hX 1 d_S_at_0 (n := 1) rfl rfl rfl ?_
  refine g_iload_n hX 2 d_S_at_1 (n := 2) rfl rfl rfl ?_
  refine g_xSv hX hE [_, _] rfl 1 6 (c_S_requireOnScreen _ hT Γ x1 x2 σ) gw_S_174 rfl d_S_at_2 (n := 5) rfl ⟨by decide, by decide⟩ ⟨by decide, by decide⟩ (Nat.le_of_ble_eq_true rfl) rfl rfl (fun _ u1 => ?_)
  refine g_aload_n hX 0 d_S_at_5 (n := 6) rfl rfl rfl ?_
  refine g_iload_n hX 1 d_S_at_6 (n := 7) rfl rfl rfl ?_
  refine g_iload_n hX 2 d_S_at_7 (n := 8) rfl rfl rfl ?_
  refine g_cVi hX [_, _] rfl 1 6 (c_S_ownerOf _ Γ x1 x2 u1) gw_S_180 rfl sh_0 rfl d_S_at_8 (n := 11) rfl ⟨by decide, by decide⟩ ⟨by decide, by decide⟩ (Nat.le_of_ble_eq_true rfl) rfl rfl (fun r3 u2 => ?_)
  exact g_ixret hX d_S_at_11 (by decide) (by decide)
def f_S_at (x1 : Int32) (x2 : Int32) (σ : Mem) : Option ((Int32 ⊕ String) × Mem) := f_S_at_0 σ x1 x2
theorem c_S_at (l : Launch) (hT : l.stackTraces = false) (Γ : GA) (x1 : Int32) (x2 : Int32) (σ : Mem) : gX gxi l y_S_at b_S_at 3 (some .int) r_S_at [.ref (Γ.2.1 0), .int x1, .int x2] Γ σ (f_S_at x1 x2 σ) :=
  gX.of [some (.ref (Γ.2.1 0)), some (.int x1), some (.int x2)] (by decide) (Nat.le_of_ble_eq_true rfl) rfl rfl (fun κ hX hκ hE => m_S_at_0 hX hE (by rw [hκ]; exact hT) σ x1 x2)
/-! S_visible -/
theorem d_S_visible_0 : decode b_S_visible 0 = .ok (.aload_n 0, 1) := by decide +kernel
theorem d_S_visible_1 : decode b_S_visible 1 = .ok (.iload_n 1, 1) := by decide +kernel
theorem d_S_visible_2 : decode b_S_visible 2 = .ok (.invokevirtual 91, 3) := by decide +kernel
theorem d_S_visible_5 : decode b_S_visible 5 = .ok (.pop, 1) := by decide +kernel
theorem d_S_visible_6 : decode b_S_visible 6 = .ok (.iconst 0, 1) := by decide +kernel
theorem d_S_visible_7 : decode b_S_visible 7 = .ok (.istore_n 2, 1) := by decide +kernel
theorem d_S_visible_8 : decode b_S_visible 8 = .ok (.iconst 0, 1) := by decide +kernel
theorem d_S_visible_9 : decode b_S_visible 9 = .ok (.istore_n 3, 1) := by decide +kernel
theorem d_S_visible_10 : decode b_S_visible 10 = .ok (.iload_n 3, 1) := by decide +kernel
theorem d_S_visible_11 : decode b_S_visible 11 = .ok (.bipush 16, 2) := by decide +kernel
theorem d_S_visible_13 : decode b_S_visible 13 = .ok (.if_icmp .ge 39, 3) := by decide +kernel
theorem d_S_visible_16 : decode b_S_visible 16 = .ok (.iconst 0, 1) := by decide +kernel
theorem d_S_visible_17 : decode b_S_visible 17 = .ok (.istore 4, 2) := by decide +kernel
theorem d_S_visible_19 : decode b_S_visible 19 = .ok (.iload 4, 2) := by decide +kernel
theorem d_S_visible_21 : decode b_S_visible 21 = .ok (.bipush 24, 2) := by decide +kernel
theorem d_S_visible_23 : decode b_S_visible 23 = .ok (.if_icmp .ge 23, 3) := by decide +kernel
theorem d_S_visible_26 : decode b_S_visible 26 = .ok (.aload_n 0, 1) := by decide +kernel
theorem d_S_visible_27 : decode b_S_visible 27 = .ok (.iload 4, 2) := by decide +kernel
theorem d_S_visible_29 : decode b_S_visible 29 = .ok (.iload_n 3, 1) := by decide +kernel
theorem d_S_visible_30 : decode b_S_visible 30 = .ok (.invokevirtual 180, 3) := by decide +kernel
theorem d_S_visible_33 : decode b_S_visible 33 = .ok (.iload_n 1, 1) := by decide +kernel
theorem d_S_visible_34 : decode b_S_visible 34 = .ok (.if_icmp .ne 6, 3) := by decide +kernel
theorem d_S_visible_37 : decode b_S_visible 37 = .ok (.iinc 2 1, 3) := by decide +kernel
theorem d_S_visible_40 : decode b_S_visible 40 = .ok (.iinc 4 1, 3) := by decide +kernel
theorem d_S_visible_43 : decode b_S_visible 43 = .ok (.goto (-24), 3) := by decide +kernel
theorem d_S_visible_46 : decode b_S_visible 46 = .ok (.iinc 3 1, 3) := by decide +kernel
theorem d_S_visible_49 : decode b_S_visible 49 = .ok (.goto (-39), 3) := by decide +kernel
theorem d_S_visible_52 : decode b_S_visible 52 = .ok (.iload_n 2, 1) := by decide +kernel
theorem d_S_visible_53 : decode b_S_visible 53 = .ok (.ireturn, 1) := by decide +kernel
abbrev r_S_visible : Room := ⟨7, 1, 6, 102⟩
def f_S_visible_40 (K10 : Mem → Int32 → Int32 → Int32 → Option ((Int32 ⊕ String) × Mem)) (K19 : Mem → Int32 → Int32 → Int32 → Int32 → Option ((Int32 ⊕ String) × Mem)) (σ : Mem) (x1 : Int32) (x2 : Int32) (x3 : Int32) (x4 : Int32) : Option ((Int32 ⊕ String) × Mem) :=
  K19 σ x1 x2 x3 (x4 + 1)
set_option maxRecDepth 100000 in
theorem m_S_visible_40 {κ : GC} {Γ : GA} (hX : Gx κ Γ 5 b_S_visible "PaneScreen" r_S_visible (some .int)) (hE : ∀ x ∈ κ.2.2.2.2.2.2.2.2.2.exceptionTable.toList, False) (hT : κ.2.1.stackTraces = false) (K10 : Mem → Int32 → Int32 → Int32 → Option ((Int32 ⊕ String) × Mem)) (hK10 : ∀ (σ : Mem) (x1 : Int32) (x2 : Int32) (x3 : Int32), GG κ Γ 5 (gQX gxi κ Γ r_S_visible) 1 6 σ [some (.ref (Γ.2.1 0)), some (.int x1), some (.int x2), some (.int x3), none] 10 [] (K10 σ x1 x2 x3)) (K19 : Mem → Int32 → Int32 → Int32 → Int32 → Option ((Int32 ⊕ String) × Mem)) (hK19 : ∀ (σ : Mem) (x1 : Int32) (x2 : Int32) (x3 : Int32) (x4 : Int32), GG κ Γ 5 (gQX gxi κ Γ r_S_visible) 1 6 σ [some (.ref (Γ.2.1 0)), some (.int x1), some (.int x2), some (.int x3), some (.int x4)] 19 [] (K19 σ x1 x2 x3 x4)) (σ : Mem) (x1 : Int32) (x2 : Int32) (x3 : Int32) (x4 : Int32) : GG κ Γ 5 (gQX gxi κ Γ r_S_visible) 1 6 σ [some (.ref (Γ.2.1 0)), some (.int x1), some (.int x2), some (.int x3), some (.int x4)] 40 [] (f_S_visible_40 K10 K19 σ x1 x2 x3 x4) := by
  unfold f_S_visible_40
  refine g_iinc hX 1 _ [_, _, _, _, _] d_S_visible_40 (n := 43) rfl rfl k_iconst_1 rfl (by decide) rfl ?_
  refine g_goto hX 19 d_S_visible_43 rfl ?_
  exact (hK19 σ x1 x2 x3 (x4 + 1))
def f_S_visible_19B (K10 : Mem → Int32 → Int32 → Int32 → Option ((Int32 ⊕ String) × Mem)) (K19 : Mem → Int32 → Int32 → Int32 → Int32 → Option ((Int32 ⊕ String) × Mem)) (σ : Mem) (x1 : Int32) (x2 : Int32) (x3 : Int32) (x4 : Int32) : Option ((Int32 ⊕ String) × Mem) :=
  if 24 ≤ x4 then
    K10 σ x1 x2 (x3 + 1)
  else
    gb (f_S_ownerOf x4 x3 σ) fun r2 u1 =>
    if r2 = x1 then
      f_S_visible_40 K10 K19 u1 x1 (x2 + 1) x3 x4
    else
      f_S_visible_40 K10 K19 u1 x1 x2 x3 x4
set_option maxRecDepth 100000 in
theorem m_S_visible_19B {κ : GC} {Γ : GA} (hX : Gx κ Γ 5 b_S_visible "PaneScreen" r_S_visible (some .int)) (hE : ∀ x ∈ κ.2.2.2.2.2.2.2.2.2.exceptionTable.toList, False) (hT : κ.2.1.stackTraces = false) (K10 : Mem → Int32 → Int32 → Int32 → Option ((Int32 ⊕ String) × Mem)) (hK10 : ∀ (σ : Mem) (x1 : Int32) (x2 : Int32) (x3 : Int32), GG κ Γ 5 (gQX gxi κ Γ r_S_visible) 1 6 σ [some (.ref (Γ.2.1 0)), some (.int x1), some (.int x2), some (.int x3), none] 10 [] (K10 σ x1 x2 x3)) (K19 : Mem → Int32 → Int32 → Int32 → Int32 → Option ((Int32 ⊕ String) × Mem)) (hK19 : ∀ (σ : Mem) (x1 : Int32) (x2 : Int32) (x3 : Int32) (x4 : Int32), GG κ Γ 5 (gQX gxi κ Γ r_S_visible) 1 6 σ [some (.ref (Γ.2.1 0)), some (.int x1), some (.int x2), some (.int x3), some (.int x4)] 19 [] (K19 σ x1 x2 x3 x4)) (σ : Mem) (x1 : Int32) (x2 : Int32) (x3 : Int32) (x4 : Int32) : GG κ Γ 5 (gQX gxi κ Γ r_S_visible) 1 6 σ [some (.ref (Γ.2.1 0)), some (.int x1), some (.int x2), some (.int x3), some (.int x4)] 19 [] (f_S_visible_19B K10 K19 σ x1 x2 x3 x4) := by
  unfold f_S_visible_19B
  refine g_iload hX d_S_visible_19 (n := 21) rfl rfl ?_
  refine g_bipush hX 24 d_S_visible_21 (n := 23) rfl k_bipush_24 ?_
  refine g_icmp_ge hX 46 d_S_visible_23 (n := 26) rfl rfl ?_ ?_
  · refine g_iinc hX 1 _ [_, _, _, _, _] d_S_visible_46 (n := 49) rfl rfl k_iconst_1 rfl (by decide) rfl ?_
    refine g_goto hX 10 d_S_visible_49 rfl ?_
    exact (g_sub (lw := [some (.ref (Γ.2.1 0)), some (.int x1), some (.int x2), some (.int (x3 + 1)), none]) (And.intro rfl (And.intro rfl (And.intro rfl (And.intro rfl (True.intro))))) (hK10 σ x1 x2 (x3 + 1)))
  · refine g_aload_n hX 0 d_S_visible_26 (n := 27) rfl rfl rfl ?_
    refine g_iload hX d_S_visible_27 (n := 29) rfl rfl ?_
    refine g_iload_n hX 3 d_S_visible_29 (n := 30) rfl rfl rfl ?_
    refine g_cVi hX [_, _] rfl 1 6 (c_S_ownerOf _ Γ x4 x3 σ) gw_S_180 rfl sh_0 rfl d_S_visible_30 (n := 33) rfl ⟨by decide, by decide⟩ ⟨by decide, by decide⟩ (Nat.le_of_ble_eq_true rfl) rfl rfl (fun r2 u1 => ?_)
    refine g_iload_n hX 1 d_S_visible_33 (n := 34) rfl rfl rfl ?_
    refine g_icmp_ne hX 40 d_S_visible_34 (n := 37) rfl rfl ?_ ?_
    · exact (m_S_visible_40 hX hE hT K10 hK10 K19 hK19 u1 x1 x2 x3 x4)
    · refine g_iinc hX 1 _ [_, _, _, _, _] d_S_visible_37 (n := 40) rfl rfl k_iconst_1 rfl (by decide) rfl ?_
      exact (m_S_visible_40 hX hE hT K10 hK10 K19 hK19 u1 x1 (x2 + 1) x3 x4)
def f_S_visible_19 (K10 : Mem → Int32 → Int32 → Int32 → Option ((Int32 ⊕ String) × Mem)) (n : Nat) : Mem → Int32 → Int32 → Int32 → Int32 → Option ((Int32 ⊕ String) × Mem) := gfix (fun _ _ _ _ _ => none) (fun K19 => f_S_visible_19B K10 K19) n
theorem m_S_visible_19 {κ : GC} {Γ : GA} (hX : Gx κ Γ 5 b_S_visible "PaneScreen" r_S_visible (some .int)) (hE : ∀ x ∈ κ.2.2.2.2.2.2.2.2.2.exceptionTable.toList, False) (hT : κ.2.1.stackTraces = false) (K10 : Mem → Int32 → Int32 → Int32 → Option ((Int32 ⊕ String) × Mem)) (hK10 : ∀ (σ : Mem) (x1 : Int32) (x2 : Int32) (x3 : Int32), GG κ Γ 5 (gQX gxi κ Γ r_S_visible) 1 6 σ [some (.ref (Γ.2.1 0)), some (.int x1), some (.int x2), some (.int x3), none] 10 [] (K10 σ x1 x2 x3)) (n : Nat) : ∀ (σ : Mem) (x1 : Int32) (x2 : Int32) (x3 : Int32) (x4 : Int32), GG κ Γ 5 (gQX gxi κ Γ r_S_visible) 1 6 σ [some (.ref (Γ.2.1 0)), some (.int x1), some (.int x2), some (.int x3), some (.int x4)] 19 [] (f_S_visible_19 K10 n σ x1 x2 x3 x4) := by
  induction n with
  | zero => intros; exact g_none
  | succ n ih => intro σ x1 x2 x3 x4; exact m_S_visible_19B hX hE hT K10 hK10 (f_S_visible_19 K10 n) ih σ x1 x2 x3 x4
def f_S_visible_10B (K10 : Mem → Int32 → Int32 → Int32 → Option ((Int32 ⊕ String) × Mem)) (σ : Mem) (x1 : Int32) (x2 : Int32) (x3 : Int32) : Option ((Int32 ⊕ String) × Mem) :=
  if 16 ≤ x3 then
    some (.inl x2, σ)
  else
    f_S_visible_19 K10 gN σ x1 x2 x3 0
set_option maxRecDepth 100000 in
theorem m_S_visible_10B {κ : GC} {Γ : GA} (hX : Gx κ Γ 5 b_S_visible "PaneScreen" r_S_visible (some .int)) (hE : ∀ x ∈ κ.2.2.2.2.2.2.2.2.2.exceptionTable.toList, False) (hT : κ.2.1.stackTraces = false) (K10 : Mem → Int32 → Int32 → Int32 → Option ((Int32 ⊕ String) × Mem)) (hK10 : ∀ (σ : Mem) (x1 : Int32) (x2 : Int32) (x3 : Int32), GG κ Γ 5 (gQX gxi κ Γ r_S_visible) 1 6 σ [some (.ref (Γ.2.1 0)), some (.int x1), some (.int x2), some (.int x3), none] 10 [] (K10 σ x1 x2 x3)) (σ : Mem) (x1 : Int32) (x2 : Int32) (x3 : Int32) : GG κ Γ 5 (gQX gxi κ Γ r_S_visible) 1 6 σ [some (.ref (Γ.2.1 0)), some (.int x1), some (.int x2), some (.int x3), none] 10 [] (f_S_visible_10B K10 σ x1 x2 x3) := by
  unfold f_S_visible_10B
  refine g_iload_n hX 3 d_S_visible_10 (n := 11) rfl rfl rfl ?_
  refine g_bipush hX 16 d_S_visible_11 (n := 13) rfl k_bipush_16 ?_
  refine g_icmp_ge hX 52 d_S_visible_13 (n := 16) rfl rfl ?_ ?_
  · refine g_iload_n hX 2 d_S_visible_52 (n := 53) rfl rfl rfl ?_
    exact g_ixret hX d_S_visible_53 (by decide) (by decide)
  · refine g_iconst hX 0 d_S_visible_16 (n := 17) rfl k_iconst_0 ?_
    refine g_istore hX [_, _, _, _, _] d_S_visible_17 (n := 19) rfl (by decide) rfl ?_
    exact (m_S_visible_19 hX hE hT K10 hK10 gN σ x1 x2 x3 0)
def f_S_visible_10 (n : Nat) : Mem → Int32 → Int32 → Int32 → Option ((Int32 ⊕ String) × Mem) := gfix (fun _ _ _ _ => none) (fun K10 => f_S_visible_10B K10) n
theorem m_S_visible_10 {κ : GC} {Γ : GA} (hX : Gx κ Γ 5 b_S_visible "PaneScreen" r_S_visible (some .int)) (hE : ∀ x ∈ κ.2.2.2.2.2.2.2.2.2.exceptionTable.toList, False) (hT : κ.2.1.stackTraces = false) (n : Nat) : ∀ (σ : Mem) (x1 : Int32) (x2 : Int32) (x3 : Int32), GG κ Γ 5 (gQX gxi κ Γ r_S_visible) 1 6 σ [some (.ref (Γ.2.1 0)), some (.int x1), some (.int x2), some (.int x3), none] 10 [] (f_S_visible_10 n σ x1 x2 x3) := by
  induction n with
  | zero => intros; exact g_none
  | succ n ih => intro σ x1 x2 x3; exact m_S_visible_10B hX hE hT (f_S_visible_10 n) ih σ x1 x2 x3
def f_S_visible_0 (σ : Mem) (x1 : Int32) : Option ((Int32 ⊕ String) × Mem) :=
  gbx (f_S_openPane x1 σ) (fun p2 u1 =>
    if gpn p2 = true then
      f_S_visible_10 gN u1 x1 0 0
    else none) (fun E u => some (.inr E, u))
set_option maxRecDepth 100000 in
theorem m_S_visible_0 {κ : GC} {Γ : GA} (hX : Gx κ Γ 5 b_S_visible "PaneScreen" r_S_visible (some .int)) (hE : ∀ x ∈ κ.2.2.2.2.2.2.2.2.2.exceptionTable.toList, False) (hT : κ.2.1.stackTraces = false) (σ : Mem) (x1 : Int32) : GG κ Γ 5 (gQX gxi κ Γ r_S_visible) 0 0 σ [some (.ref (Γ.2.1 0)), some (.int x1), none, none, none] 0 [] (f_S_visible_0 σ x1) := by
  unfold f_S_visible_0
  refine g_aload_n hX 0 d_S_visible_0 (n := 1) rfl rfl rfl ?_
  refine g_iload_n hX 1 d_S_visible_1 (n := 2) rfl rfl rfl ?_
  refine g_xVr hX hE [_] rfl 1 6 (c_S_openPane _ hT Γ x1 σ) gw_S_91 rfl sh_0 rfl d_S_visible_2 (n := 5) rfl ⟨by decide, by decide⟩ ⟨by decide, by decide⟩ (Nat.le_of_ble_eq_true rfl) rfl rfl (fun p2 u1 => ?_)
  refine g_pane (fun hp2 => ?_)
  refine g_pop hX d_S_visible_5 (n := 6) rfl rfl ?_
  refine g_iconst hX 0 d_S_visible_6 (n := 7) rfl k_iconst_0 ?_
  refine g_istore_n hX 2 [_, _, _, _, _] d_S_visible_7 (n := 8) rfl rfl (by decide) rfl ?_
  refine g_iconst hX 0 d_S_visible_8 (n := 9) rfl k_iconst_0 ?_
  refine g_istore_n hX 3 [_, _, _, _, _] d_S_visible_9 (n := 10) rfl rfl (by decide) rfl ?_
  exact (m_S_visible_10 hX hE hT gN u1 x1 0 0)
def f_S_visible (x1 : Int32) (σ : Mem) : Option ((Int32 ⊕ String) × Mem) := f_S_visible_0 σ x1
theorem c_S_visible (l : Launch) (hT : l.stackTraces = false) (Γ : GA) (x1 : Int32) (σ : Mem) : gX gxi l y_S_visible b_S_visible 5 (some .int) r_S_visible [.ref (Γ.2.1 0), .int x1] Γ σ (f_S_visible x1 σ) :=
  gX.of [some (.ref (Γ.2.1 0)), some (.int x1), none, none, none] (by decide) (Nat.le_of_ble_eq_true rfl) rfl rfl (fun κ hX hκ hE => m_S_visible_0 hX hE (by rw [hκ]; exact hT) σ x1)
/-! E_tell -/
theorem d_E_tell_0 : decode b_E_tell 0 = .ok (.aload_n 0, 1) := by decide +kernel
theorem d_E_tell_1 : decode b_E_tell 1 = .ok (.getfield 28, 3) := by decide +kernel
theorem d_E_tell_4 : decode b_E_tell 4 = .ok (.bipush 12, 2) := by decide +kernel
theorem d_E_tell_6 : decode b_E_tell 6 = .ok (.if_icmp .lt 14, 3) := by decide +kernel
theorem d_E_tell_9 : decode b_E_tell 9 = .ok (.aload_n 0, 1) := by decide +kernel
theorem d_E_tell_10 : decode b_E_tell 10 = .ok (.dup, 1) := by decide +kernel
theorem d_E_tell_11 : decode b_E_tell 11 = .ok (.getfield 31, 3) := by decide +kernel
theorem d_E_tell_14 : decode b_E_tell 14 = .ok (.iconst 1, 1) := by decide +kernel
theorem d_E_tell_15 : decode b_E_tell 15 = .ok (.iadd, 1) := by decide +kernel
theorem d_E_tell_16 : decode b_E_tell 16 = .ok (.putfield 31, 3) := by decide +kernel
theorem d_E_tell_19 : decode b_E_tell 19 = .ok (.return_, 1) := by decide +kernel
theorem d_E_tell_20 : decode b_E_tell 20 = .ok (.aload_n 0, 1) := by decide +kernel
theorem d_E_tell_21 : decode b_E_tell 21 = .ok (.getfield 9, 3) := by decide +kernel
theorem d_E_tell_24 : decode b_E_tell 24 = .ok (.aload_n 0, 1) := by decide +kernel
theorem d_E_tell_25 : decode b_E_tell 25 = .ok (.getfield 28, 3) := by decide +kernel
theorem d_E_tell_28 : decode b_E_tell 28 = .ok (.iload_n 1, 1) := by decide +kernel
theorem d_E_tell_29 : decode b_E_tell 29 = .ok (.iastore, 1) := by decide +kernel
theorem d_E_tell_30 : decode b_E_tell 30 = .ok (.aload_n 0, 1) := by decide +kernel
theorem d_E_tell_31 : decode b_E_tell 31 = .ok (.getfield 15, 3) := by decide +kernel
theorem d_E_tell_34 : decode b_E_tell 34 = .ok (.aload_n 0, 1) := by decide +kernel
theorem d_E_tell_35 : decode b_E_tell 35 = .ok (.getfield 28, 3) := by decide +kernel
theorem d_E_tell_38 : decode b_E_tell 38 = .ok (.iload_n 2, 1) := by decide +kernel
theorem d_E_tell_39 : decode b_E_tell 39 = .ok (.iastore, 1) := by decide +kernel
theorem d_E_tell_40 : decode b_E_tell 40 = .ok (.aload_n 0, 1) := by decide +kernel
theorem d_E_tell_41 : decode b_E_tell 41 = .ok (.getfield 18, 3) := by decide +kernel
theorem d_E_tell_44 : decode b_E_tell 44 = .ok (.aload_n 0, 1) := by decide +kernel
theorem d_E_tell_45 : decode b_E_tell 45 = .ok (.getfield 28, 3) := by decide +kernel
theorem d_E_tell_48 : decode b_E_tell 48 = .ok (.iload_n 3, 1) := by decide +kernel
theorem d_E_tell_49 : decode b_E_tell 49 = .ok (.iastore, 1) := by decide +kernel
theorem d_E_tell_50 : decode b_E_tell 50 = .ok (.aload_n 0, 1) := by decide +kernel
theorem d_E_tell_51 : decode b_E_tell 51 = .ok (.getfield 21, 3) := by decide +kernel
theorem d_E_tell_54 : decode b_E_tell 54 = .ok (.aload_n 0, 1) := by decide +kernel
theorem d_E_tell_55 : decode b_E_tell 55 = .ok (.getfield 28, 3) := by decide +kernel
theorem d_E_tell_58 : decode b_E_tell 58 = .ok (.iload 4, 2) := by decide +kernel
theorem d_E_tell_60 : decode b_E_tell 60 = .ok (.iastore, 1) := by decide +kernel
theorem d_E_tell_61 : decode b_E_tell 61 = .ok (.aload_n 0, 1) := by decide +kernel
theorem d_E_tell_62 : decode b_E_tell 62 = .ok (.dup, 1) := by decide +kernel
theorem d_E_tell_63 : decode b_E_tell 63 = .ok (.getfield 28, 3) := by decide +kernel
theorem d_E_tell_66 : decode b_E_tell 66 = .ok (.iconst 1, 1) := by decide +kernel
theorem d_E_tell_67 : decode b_E_tell 67 = .ok (.iadd, 1) := by decide +kernel
theorem d_E_tell_68 : decode b_E_tell 68 = .ok (.putfield 28, 3) := by decide +kernel
theorem d_E_tell_71 : decode b_E_tell 71 = .ok (.return_, 1) := by decide +kernel
abbrev r_E_tell : Room := ⟨0, 0, 0, 0⟩
def f_E_tell_0 (σ : Mem) (x1 : Int32) (x2 : Int32) (x3 : Int32) (x4 : Int32) : Option Mem :=
  if (σ 14 4) < 12 then
    if gin (σ 14 4) 12 = true then
      gbm (m2 σ 15 (σ 14 4).toNatClampNeg x1) fun u1 =>
      if gin (u1 14 4) 12 = true then
        gbm (m2 u1 16 (u1 14 4).toNatClampNeg x2) fun u2 =>
        if gin (u2 14 4) 12 = true then
          gbm (m2 u2 17 (u2 14 4).toNatClampNeg x3) fun u3 =>
          if gin (u3 14 4) 12 = true then
            gbm (m2 u3 18 (u3 14 4).toNatClampNeg x4) fun u4 =>
            gbm (m2 u4 14 4 ((u4 14 4) + 1)) fun u5 =>
            some u5
          else none
        else none
      else none
    else none
  else
    gbm (m2 σ 14 5 ((σ 14 5) + 1)) fun u6 =>
    some u6
set_option maxRecDepth 100000 in
theorem m_E_tell_0 {κ : GC} {Γ : GA} (hX : Gx κ Γ 5 b_E_tell "PaneScreen$EventLine" r_E_tell none) (σ : Mem) (x1 : Int32) (x2 : Int32) (x3 : Int32) (x4 : Int32) : GG κ Γ 5 (gQ gqv κ Γ r_E_tell) 0 0 σ [some (.ref (Γ.2.1 14)), some (.int x1), some (.int x2), some (.int x3), some (.int x4)] 0 [] (f_E_tell_0 σ x1 x2 x3 x4) := by
  unfold f_E_tell_0
  refine g_aload_n hX 0 d_E_tell_0 (n := 1) rfl rfl rfl ?_
  refine g_geti hX gf_E_28 d_E_tell_1 (n := 4) rfl sh_14 rfl ?_
  refine g_bipush hX 12 d_E_tell_4 (n := 6) rfl k_bipush_12 ?_
  refine g_icmp_lt hX 20 d_E_tell_6 (n := 9) rfl rfl ?_ ?_
  · refine g_aload_n hX 0 d_E_tell_20 (n := 21) rfl rfl rfl ?_
    refine g_geta hX 15 gf_E_9 d_E_tell_21 (n := 24) rfl sh_14 rfl ?_
    refine g_aload_n hX 0 d_E_tell_24 (n := 25) rfl rfl rfl ?_
    refine g_geti hX gf_E_28 d_E_tell_25 (n := 28) rfl sh_14 rfl ?_
    refine g_iload_n hX 1 d_E_tell_28 (n := 29) rfl rfl rfl ?_
    refine g_iast hX d_E_tell_29 (n := 30) rfl sh_15 ?_
    refine g_mem (fun u1 => ?_)
    refine g_aload_n hX 0 d_E_tell_30 (n := 31) rfl rfl rfl ?_
    refine g_geta hX 16 gf_E_15 d_E_tell_31 (n := 34) rfl sh_14 rfl ?_
    refine g_aload_n hX 0 d_E_tell_34 (n := 35) rfl rfl rfl ?_
    refine g_geti hX gf_E_28 d_E_tell_35 (n := 38) rfl sh_14 rfl ?_
    refine g_iload_n hX 2 d_E_tell_38 (n := 39) rfl rfl rfl ?_
    refine g_iast hX d_E_tell_39 (n := 40) rfl sh_16 ?_
    refine g_mem (fun u2 => ?_)
    refine g_aload_n hX 0 d_E_tell_40 (n := 41) rfl rfl rfl ?_
    refine g_geta hX 17 gf_E_18 d_E_tell_41 (n := 44) rfl sh_14 rfl ?_
    refine g_aload_n hX 0 d_E_tell_44 (n := 45) rfl rfl rfl ?_
    refine g_geti hX gf_E_28 d_E_tell_45 (n := 48) rfl sh_14 rfl ?_
    refine g_iload_n hX 3 d_E_tell_48 (n := 49) rfl rfl rfl ?_
    refine g_iast hX d_E_tell_49 (n := 50) rfl sh_17 ?_
    refine g_mem (fun u3 => ?_)
    refine g_aload_n hX 0 d_E_tell_50 (n := 51) rfl rfl rfl ?_
    refine g_geta hX 18 gf_E_21 d_E_tell_51 (n := 54) rfl sh_14 rfl ?_
    refine g_aload_n hX 0 d_E_tell_54 (n := 55) rfl rfl rfl ?_
    refine g_geti hX gf_E_28 d_E_tell_55 (n := 58) rfl sh_14 rfl ?_
    refine g_iload hX d_E_tell_58 (n := 60) rfl rfl ?_
    refine g_iast hX d_E_tell_60 (n := 61) rfl sh_18 ?_
    refine g_mem (fun u4 => ?_)
    refine g_aload_n hX 0 d_E_tell_61 (n := 62) rfl rfl rfl ?_
    refine g_dup hX d_E_tell_62 (n := 63) rfl rfl ?_
    refine g_geti hX gf_E_28 d_E_tell_63 (n := 66) rfl sh_14 rfl ?_
    refine g_iconst hX 1 d_E_tell_66 (n := 67) rfl k_iconst_1 ?_
    refine g_iadd hX d_E_tell_67 (n := 68) rfl ?_
    refine g_puti hX gp_E_28 d_E_tell_68 (n := 71) rfl sh_14 rfl ?_
    refine g_mem (fun u5 => ?_)
    exact g_vret hX d_E_tell_71 (by decide) (by decide)
  · refine g_aload_n hX 0 d_E_tell_9 (n := 10) rfl rfl rfl ?_
    refine g_dup hX d_E_tell_10 (n := 11) rfl rfl ?_
    refine g_geti hX gf_E_31 d_E_tell_11 (n := 14) rfl sh_14 rfl ?_
    refine g_iconst hX 1 d_E_tell_14 (n := 15) rfl k_iconst_1 ?_
    refine g_iadd hX d_E_tell_15 (n := 16) rfl ?_
    refine g_puti hX gp_E_31 d_E_tell_16 (n := 19) rfl sh_14 rfl ?_
    refine g_mem (fun u6 => ?_)
    exact g_vret hX d_E_tell_19 (by decide) (by decide)
def f_E_tell (x1 : Int32) (x2 : Int32) (x3 : Int32) (x4 : Int32) (σ : Mem) : Option Mem := f_E_tell_0 σ x1 x2 x3 x4
theorem c_E_tell (l : Launch) (Γ : GA) (x1 : Int32) (x2 : Int32) (x3 : Int32) (x4 : Int32) (σ : Mem) : gM gqv l y_E_tell b_E_tell 5 none r_E_tell [.ref (Γ.2.1 14), .int x1, .int x2, .int x3, .int x4] Γ σ (f_E_tell x1 x2 x3 x4 σ) :=
  gM.of [some (.ref (Γ.2.1 14)), some (.int x1), some (.int x2), some (.int x3), some (.int x4)] (by decide) (Nat.le_of_ble_eq_true rfl) rfl rfl (fun κ hX _ => m_E_tell_0 hX σ x1 x2 x3 x4)
