/-! S_requireNear -/
theorem d_S_requireNear_0 : decode b_S_requireNear 0 = .ok (.iload_n 0, 1) := by decide +kernel
theorem d_S_requireNear_1 : decode b_S_requireNear 1 = .ok (.bipush (-50), 2) := by decide +kernel
theorem d_S_requireNear_3 : decode b_S_requireNear 3 = .ok (.if_icmp .lt 21, 3) := by decide +kernel
theorem d_S_requireNear_6 : decode b_S_requireNear 6 = .ok (.iload_n 0, 1) := by decide +kernel
theorem d_S_requireNear_7 : decode b_S_requireNear 7 = .ok (.bipush 50, 2) := by decide +kernel
theorem d_S_requireNear_9 : decode b_S_requireNear 9 = .ok (.if_icmp .gt 15, 3) := by decide +kernel
theorem d_S_requireNear_12 : decode b_S_requireNear 12 = .ok (.iload_n 1, 1) := by decide +kernel
theorem d_S_requireNear_13 : decode b_S_requireNear 13 = .ok (.bipush (-50), 2) := by decide +kernel
theorem d_S_requireNear_15 : decode b_S_requireNear 15 = .ok (.if_icmp .lt 9, 3) := by decide +kernel
theorem d_S_requireNear_18 : decode b_S_requireNear 18 = .ok (.iload_n 1, 1) := by decide +kernel
theorem d_S_requireNear_19 : decode b_S_requireNear 19 = .ok (.bipush 50, 2) := by decide +kernel
theorem d_S_requireNear_21 : decode b_S_requireNear 21 = .ok (.if_icmp .le 11, 3) := by decide +kernel
theorem d_S_requireNear_24 : decode b_S_requireNear 24 = .ok (.new 217, 3) := by decide +kernel
theorem d_S_requireNear_27 : decode b_S_requireNear 27 = .ok (.dup, 1) := by decide +kernel
theorem d_S_requireNear_28 : decode b_S_requireNear 28 = .ok (.invokespecial 219, 3) := by decide +kernel
theorem d_S_requireNear_31 : decode b_S_requireNear 31 = .ok (.athrow, 1) := by decide +kernel
theorem d_S_requireNear_32 : decode b_S_requireNear 32 = .ok (.return_, 1) := by decide +kernel
abbrev r_S_requireNear : Room := ⟨6, 1, 6, 81⟩
def f_S_requireNear_24 (σ : Mem) : Option ((Unit ⊕ String) × Mem) :=
  some (.inr "java/lang/IllegalArgumentException", σ)
set_option maxRecDepth 100000 in
theorem m_S_requireNear_24 {κ : GC} {Γ : GA} (hX : Gx κ Γ 2 b_S_requireNear "PaneScreen" r_S_requireNear none) (hE : ∀ x ∈ κ.2.2.2.2.2.2.2.2.2.exceptionTable.toList, False) (hT : κ.2.1.stackTraces = false) (σ : Mem) : GG κ Γ 2 (gQX gxv κ Γ r_S_requireNear) 0 0 σ [none, none] 24 [] (f_S_requireNear_24 σ) := by
  unfold f_S_requireNear_24
  exact g_throw hX hE hT gt_S_217 d_S_requireNear_24 d_S_requireNear_27 d_S_requireNear_28 d_S_requireNear_31 (by decide) (by decide) (by decide) (by decide)
def f_S_requireNear_0 (σ : Mem) (x0 : Int32) (x1 : Int32) : Option ((Unit ⊕ String) × Mem) :=
  if x0 < (-50) then
    f_S_requireNear_24 σ
  else
    if 50 < x0 then
      f_S_requireNear_24 σ
    else
      if x1 < (-50) then
        f_S_requireNear_24 σ
      else
        if x1 ≤ 50 then
          some (.inl (), σ)
        else
          f_S_requireNear_24 σ
set_option maxRecDepth 100000 in
theorem m_S_requireNear_0 {κ : GC} {Γ : GA} (hX : Gx κ Γ 2 b_S_requireNear "PaneScreen" r_S_requireNear none) (hE : ∀ x ∈ κ.2.2.2.2.2.2.2.2.2.exceptionTable.toList, False) (hT : κ.2.1.stackTraces = false) (σ : Mem) (x0 : Int32) (x1 : Int32) : GG κ Γ 2 (gQX gxv κ Γ r_S_requireNear) 0 0 σ [some (.int x0), some (.int x1)] 0 [] (f_S_requireNear_0 σ x0 x1) := by
  unfold f_S_requireNear_0
  refine g_iload_n hX 0 d_S_requireNear_0 (n := 1) rfl rfl rfl ?_
  refine g_bipush hX (-50) d_S_requireNear_1 (n := 3) rfl k_bipush_m50 ?_
  refine g_icmp_lt hX 24 d_S_requireNear_3 (n := 6) rfl rfl ?_ ?_
  · exact (g_sub (lw := [none, none]) (True.intro) (m_S_requireNear_24 hX hE hT σ))
  · refine g_iload_n hX 0 d_S_requireNear_6 (n := 7) rfl rfl rfl ?_
    refine g_bipush hX 50 d_S_requireNear_7 (n := 9) rfl k_bipush_50 ?_
    refine g_icmp_gt hX 24 d_S_requireNear_9 (n := 12) rfl rfl ?_ ?_
    · exact (g_sub (lw := [none, none]) (True.intro) (m_S_requireNear_24 hX hE hT σ))
    · refine g_iload_n hX 1 d_S_requireNear_12 (n := 13) rfl rfl rfl ?_
      refine g_bipush hX (-50) d_S_requireNear_13 (n := 15) rfl k_bipush_m50 ?_
      refine g_icmp_lt hX 24 d_S_requireNear_15 (n := 18) rfl rfl ?_ ?_
      · exact (g_sub (lw := [none, none]) (True.intro) (m_S_requireNear_24 hX hE hT σ))
      · refine g_iload_n hX 1 d_S_requireNear_18 (n := 19) rfl rfl rfl ?_
        refine g_bipush hX 50 d_S_requireNear_19 (n := 21) rfl k_bipush_50 ?_
        refine g_icmp_le hX 32 d_S_requireNear_21 (n := 24) rfl rfl ?_ ?_
        · exact g_vxret hX d_S_requireNear_32 (by decide) (by decide)
        · exact (g_sub (lw := [none, none]) (True.intro) (m_S_requireNear_24 hX hE hT σ))
def f_S_requireNear (x0 : Int32) (x1 : Int32) (σ : Mem) : Option ((Unit ⊕ String) × Mem) := f_S_requireNear_0 σ x0 x1
theorem c_S_requireNear (l : Launch) (hT : l.stackTraces = false) (Γ : GA) (x0 : Int32) (x1 : Int32) (σ : Mem) : gX gxv l y_S_requireNear b_S_requireNear 2 none r_S_requireNear [.int x0, .int x1] Γ σ (f_S_requireNear x0 x1 σ) :=
  gX.of [some (.int x0), some (.int x1)] (by decide) (Nat.le_of_ble_eq_true rfl) rfl rfl (fun κ hX hκ hE => m_S_requireNear_0 hX hE (by rw [hκ]; exact hT) σ x0 x1)
/-! S_requireSize -/
theorem d_S_requireSize_0 : decode b_S_requireSize 0 = .ok (.iload_n 0, 1) := by decide +kernel
theorem d_S_requireSize_1 : decode b_S_requireSize 1 = .ok (.iconst 1, 1) := by decide +kernel
theorem d_S_requireSize_2 : decode b_S_requireSize 2 = .ok (.if_icmp .lt 20, 3) := by decide +kernel
theorem d_S_requireSize_5 : decode b_S_requireSize 5 = .ok (.iload_n 0, 1) := by decide +kernel
theorem d_S_requireSize_6 : decode b_S_requireSize 6 = .ok (.bipush 24, 2) := by decide +kernel
theorem d_S_requireSize_8 : decode b_S_requireSize 8 = .ok (.if_icmp .gt 14, 3) := by decide +kernel
theorem d_S_requireSize_11 : decode b_S_requireSize 11 = .ok (.iload_n 1, 1) := by decide +kernel
theorem d_S_requireSize_12 : decode b_S_requireSize 12 = .ok (.iconst 1, 1) := by decide +kernel
theorem d_S_requireSize_13 : decode b_S_requireSize 13 = .ok (.if_icmp .lt 9, 3) := by decide +kernel
theorem d_S_requireSize_16 : decode b_S_requireSize 16 = .ok (.iload_n 1, 1) := by decide +kernel
theorem d_S_requireSize_17 : decode b_S_requireSize 17 = .ok (.bipush 16, 2) := by decide +kernel
theorem d_S_requireSize_19 : decode b_S_requireSize 19 = .ok (.if_icmp .le 11, 3) := by decide +kernel
theorem d_S_requireSize_22 : decode b_S_requireSize 22 = .ok (.new 217, 3) := by decide +kernel
theorem d_S_requireSize_25 : decode b_S_requireSize 25 = .ok (.dup, 1) := by decide +kernel
theorem d_S_requireSize_26 : decode b_S_requireSize 26 = .ok (.invokespecial 219, 3) := by decide +kernel
theorem d_S_requireSize_29 : decode b_S_requireSize 29 = .ok (.athrow, 1) := by decide +kernel
theorem d_S_requireSize_30 : decode b_S_requireSize 30 = .ok (.return_, 1) := by decide +kernel
abbrev r_S_requireSize : Room := ⟨6, 1, 6, 81⟩
def f_S_requireSize_22 (σ : Mem) : Option ((Unit ⊕ String) × Mem) :=
  some (.inr "java/lang/IllegalArgumentException", σ)
set_option maxRecDepth 100000 in
theorem m_S_requireSize_22 {κ : GC} {Γ : GA} (hX : Gx κ Γ 2 b_S_requireSize "PaneScreen" r_S_requireSize none) (hE : ∀ x ∈ κ.2.2.2.2.2.2.2.2.2.exceptionTable.toList, False) (hT : κ.2.1.stackTraces = false) (σ : Mem) : GG κ Γ 2 (gQX gxv κ Γ r_S_requireSize) 0 0 σ [none, none] 22 [] (f_S_requireSize_22 σ) := by
  unfold f_S_requireSize_22
  exact g_throw hX hE hT gt_S_217 d_S_requireSize_22 d_S_requireSize_25 d_S_requireSize_26 d_S_requireSize_29 (by decide) (by decide) (by decide) (by decide)
def f_S_requireSize_0 (σ : Mem) (x0 : Int32) (x1 : Int32) : Option ((Unit ⊕ String) × Mem) :=
  if x0 < 1 then
    f_S_requireSize_22 σ
  else
    if 24 < x0 then
      f_S_requireSize_22 σ
    else
      if x1 < 1 then
        f_S_requireSize_22 σ
      else
        if x1 ≤ 16 then
          some (.inl (), σ)
        else
          f_S_requireSize_22 σ
set_option maxRecDepth 100000 in
theorem m_S_requireSize_0 {κ : GC} {Γ : GA} (hX : Gx κ Γ 2 b_S_requireSize "PaneScreen" r_S_requireSize none) (hE : ∀ x ∈ κ.2.2.2.2.2.2.2.2.2.exceptionTable.toList, False) (hT : κ.2.1.stackTraces = false) (σ : Mem) (x0 : Int32) (x1 : Int32) : GG κ Γ 2 (gQX gxv κ Γ r_S_requireSize) 0 0 σ [some (.int x0), some (.int x1)] 0 [] (f_S_requireSize_0 σ x0 x1) := by
  unfold f_S_requireSize_0
  refine g_iload_n hX 0 d_S_requireSize_0 (n := 1) rfl rfl rfl ?_
  refine g_iconst hX 1 d_S_requireSize_1 (n := 2) rfl k_iconst_1 ?_
  refine g_icmp_lt hX 22 d_S_requireSize_2 (n := 5) rfl rfl ?_ ?_
  · exact (g_sub (lw := [none, none]) (True.intro) (m_S_requireSize_22 hX hE hT σ))
  · refine g_iload_n hX 0 d_S_requireSize_5 (n := 6) rfl rfl rfl ?_
    refine g_bipush hX 24 d_S_requireSize_6 (n := 8) rfl k_bipush_24 ?_
    refine g_icmp_gt hX 22 d_S_requireSize_8 (n := 11) rfl rfl ?_ ?_
    · exact (g_sub (lw := [none, none]) (True.intro) (m_S_requireSize_22 hX hE hT σ))
    · refine g_iload_n hX 1 d_S_requireSize_11 (n := 12) rfl rfl rfl ?_
      refine g_iconst hX 1 d_S_requireSize_12 (n := 13) rfl k_iconst_1 ?_
      refine g_icmp_lt hX 22 d_S_requireSize_13 (n := 16) rfl rfl ?_ ?_
      · exact (g_sub (lw := [none, none]) (True.intro) (m_S_requireSize_22 hX hE hT σ))
      · refine g_iload_n hX 1 d_S_requireSize_16 (n := 17) rfl rfl rfl ?_
        refine g_bipush hX 16 d_S_requireSize_17 (n := 19) rfl k_bipush_16 ?_
        refine g_icmp_le hX 30 d_S_requireSize_19 (n := 22) rfl rfl ?_ ?_
        · exact g_vxret hX d_S_requireSize_30 (by decide) (by decide)
        · exact (g_sub (lw := [none, none]) (True.intro) (m_S_requireSize_22 hX hE hT σ))
def f_S_requireSize (x0 : Int32) (x1 : Int32) (σ : Mem) : Option ((Unit ⊕ String) × Mem) := f_S_requireSize_0 σ x0 x1
theorem c_S_requireSize (l : Launch) (hT : l.stackTraces = false) (Γ : GA) (x0 : Int32) (x1 : Int32) (σ : Mem) : gX gxv l y_S_requireSize b_S_requireSize 2 none r_S_requireSize [.int x0, .int x1] Γ σ (f_S_requireSize x0 x1 σ) :=
  gX.of [some (.int x0), some (.int x1)] (by decide) (Nat.le_of_ble_eq_true rfl) rfl rfl (fun κ hX hκ hE => m_S_requireSize_0 hX hE (by rw [hκ]; exact hT) σ x0 x1)
/-! S_leastClosed -/
theorem d_S_leastClosed_0 : decode b_S_leastClosed 0 = .ok (.iconst 0, 1) := by decide +kernel
theorem d_S_leastClosed_1 : decode b_S_leastClosed 1 = .ok (.istore_n 1, 1) := by decide +kernel
theorem d_S_leastClosed_2 : decode b_S_leastClosed 2 = .ok (.iload_n 1, 1) := by decide +kernel
theorem d_S_leastClosed_3 : decode b_S_leastClosed 3 = .ok (.bipush 8, 2) := by decide +kernel
theorem d_S_leastClosed_5 : decode b_S_leastClosed 5 = .ok (.if_icmp .ge 23, 3) := by decide +kernel
theorem d_S_leastClosed_8 : decode b_S_leastClosed 8 = .ok (.aload_n 0, 1) := by decide +kernel
theorem d_S_leastClosed_9 : decode b_S_leastClosed 9 = .ok (.getfield 15, 3) := by decide +kernel
theorem d_S_leastClosed_12 : decode b_S_leastClosed 12 = .ok (.iload_n 1, 1) := by decide +kernel
theorem d_S_leastClosed_13 : decode b_S_leastClosed 13 = .ok (.aaload, 1) := by decide +kernel
theorem d_S_leastClosed_14 : decode b_S_leastClosed 14 = .ok (.getfield 231, 3) := by decide +kernel
theorem d_S_leastClosed_17 : decode b_S_leastClosed 17 = .ok (.ifCond .ne 5, 3) := by decide +kernel
theorem d_S_leastClosed_20 : decode b_S_leastClosed 20 = .ok (.iload_n 1, 1) := by decide +kernel
theorem d_S_leastClosed_21 : decode b_S_leastClosed 21 = .ok (.ireturn, 1) := by decide +kernel
theorem d_S_leastClosed_22 : decode b_S_leastClosed 22 = .ok (.iinc 1 1, 3) := by decide +kernel
theorem d_S_leastClosed_25 : decode b_S_leastClosed 25 = .ok (.goto (-23), 3) := by decide +kernel
theorem d_S_leastClosed_28 : decode b_S_leastClosed 28 = .ok (.iconst (-1), 1) := by decide +kernel
theorem d_S_leastClosed_29 : decode b_S_leastClosed 29 = .ok (.ireturn, 1) := by decide +kernel
abbrev r_S_leastClosed : Room := ⟨0, 0, 0, 0⟩
def f_S_leastClosed_2B (K2 : Mem → Int32 → Option (Int32 × Mem)) (σ : Mem) (x1 : Int32) : Option (Int32 × Mem) :=
  if 8 ≤ x1 then
    some ((-1), σ)
  else
    if gin x1 8 = true then
      gbn (gPB + x1.toNatClampNeg) fun p1 =>
      if (σ p1 0) = 0 then
        some (x1, σ)
      else
        K2 σ (x1 + 1)
    else none
set_option maxRecDepth 100000 in
theorem m_S_leastClosed_2B {κ : GC} {Γ : GA} (hX : Gx κ Γ 2 b_S_leastClosed "PaneScreen" r_S_leastClosed (some .int)) (K2 : Mem → Int32 → Option (Int32 × Mem)) (hK2 : ∀ (σ : Mem) (x1 : Int32), GG κ Γ 2 (gQ gqi κ Γ r_S_leastClosed) 0 0 σ [some (.ref (Γ.2.1 0)), some (.int x1)] 2 [] (K2 σ x1)) (σ : Mem) (x1 : Int32) : GG κ Γ 2 (gQ gqi κ Γ r_S_leastClosed) 0 0 σ [some (.ref (Γ.2.1 0)), some (.int x1)] 2 [] (f_S_leastClosed_2B K2 σ x1) := by
  unfold f_S_leastClosed_2B
  refine g_iload_n hX 1 d_S_leastClosed_2 (n := 3) rfl rfl rfl ?_
  refine g_bipush hX 8 d_S_leastClosed_3 (n := 5) rfl k_bipush_8 ?_
  refine g_icmp_ge hX 28 d_S_leastClosed_5 (n := 8) rfl rfl ?_ ?_
  · refine g_iconst hX (-1) d_S_leastClosed_28 (n := 29) rfl k_iconst_m1 ?_
    exact g_iret hX d_S_leastClosed_29 (by decide) (by decide)
  · refine g_aload_n hX 0 d_S_leastClosed_8 (n := 9) rfl rfl rfl ?_
    refine g_geta hX 2 gf_S_15 d_S_leastClosed_9 (n := 12) rfl sh_0 rfl ?_
    refine g_iload_n hX 1 d_S_leastClosed_12 (n := 13) rfl rfl rfl ?_
    refine g_aaldB hX d_S_leastClosed_13 (n := 14) rfl sh_2 (fun p1 hp1 => ?_)
    refine g_geti hX gf_S_231 d_S_leastClosed_14 (n := 17) rfl hp1 rfl ?_
    refine g_if_ne hX 22 d_S_leastClosed_17 (n := 20) rfl rfl ?_ ?_
    · refine g_iinc hX 1 _ [_, _] d_S_leastClosed_22 (n := 25) rfl rfl k_iconst_1 rfl (by decide) rfl ?_
      refine g_goto hX 2 d_S_leastClosed_25 rfl ?_
      exact (hK2 σ (x1 + 1))
    · refine g_iload_n hX 1 d_S_leastClosed_20 (n := 21) rfl rfl rfl ?_
      exact g_iret hX d_S_leastClosed_21 (by decide) (by decide)
def f_S_leastClosed_2 (n : Nat) : Mem → Int32 → Option (Int32 × Mem) := gfix (fun _ _ => none) (fun K2 => f_S_leastClosed_2B K2) n
theorem m_S_leastClosed_2 {κ : GC} {Γ : GA} (hX : Gx κ Γ 2 b_S_leastClosed "PaneScreen" r_S_leastClosed (some .int)) (n : Nat) : ∀ (σ : Mem) (x1 : Int32), GG κ Γ 2 (gQ gqi κ Γ r_S_leastClosed) 0 0 σ [some (.ref (Γ.2.1 0)), some (.int x1)] 2 [] (f_S_leastClosed_2 n σ x1) := by
  induction n with
  | zero => intros; exact g_none
  | succ n ih => intro σ x1; exact m_S_leastClosed_2B hX (f_S_leastClosed_2 n) ih σ x1
def f_S_leastClosed_0 (σ : Mem) : Option (Int32 × Mem) :=
  f_S_leastClosed_2 gN σ 0
set_option maxRecDepth 100000 in
theorem m_S_leastClosed_0 {κ : GC} {Γ : GA} (hX : Gx κ Γ 2 b_S_leastClosed "PaneScreen" r_S_leastClosed (some .int)) (σ : Mem) : GG κ Γ 2 (gQ gqi κ Γ r_S_leastClosed) 0 0 σ [some (.ref (Γ.2.1 0)), none] 0 [] (f_S_leastClosed_0 σ) := by
  unfold f_S_leastClosed_0
  refine g_iconst hX 0 d_S_leastClosed_0 (n := 1) rfl k_iconst_0 ?_
  refine g_istore_n hX 1 [_, _] d_S_leastClosed_1 (n := 2) rfl rfl (by decide) rfl ?_
  exact (m_S_leastClosed_2 hX gN σ 0)
def f_S_leastClosed (σ : Mem) : Option (Int32 × Mem) := f_S_leastClosed_0 σ
theorem c_S_leastClosed (l : Launch) (Γ : GA) (σ : Mem) : gM gqi l y_S_leastClosed b_S_leastClosed 2 (some .int) r_S_leastClosed [.ref (Γ.2.1 0)] Γ σ (f_S_leastClosed σ) :=
  gM.of [some (.ref (Γ.2.1 0)), none] (by decide) (Nat.le_of_ble_eq_true rfl) rfl rfl (fun κ hX _ => m_S_leastClosed_0 hX σ)
/-! T_firstFree -/
theorem d_T_firstFree_0 : decode b_T_firstFree 0 = .ok (.iconst 0, 1) := by decide +kernel
theorem d_T_firstFree_1 : decode b_T_firstFree 1 = .ok (.istore_n 2, 1) := by decide +kernel
theorem d_T_firstFree_2 : decode b_T_firstFree 2 = .ok (.iconst 0, 1) := by decide +kernel
theorem d_T_firstFree_3 : decode b_T_firstFree 3 = .ok (.istore_n 3, 1) := by decide +kernel
theorem d_T_firstFree_4 : decode b_T_firstFree 4 = .ok (.iload_n 3, 1) := by decide +kernel
theorem d_T_firstFree_5 : decode b_T_firstFree 5 = .ok (.sipush 400, 3) := by decide +kernel
theorem d_T_firstFree_8 : decode b_T_firstFree 8 = .ok (.if_icmp .ge 37, 3) := by decide +kernel
theorem d_T_firstFree_11 : decode b_T_firstFree 11 = .ok (.aload_n 0, 1) := by decide +kernel
theorem d_T_firstFree_12 : decode b_T_firstFree 12 = .ok (.getfield 18, 3) := by decide +kernel
theorem d_T_firstFree_15 : decode b_T_firstFree 15 = .ok (.iload_n 3, 1) := by decide +kernel
theorem d_T_firstFree_16 : decode b_T_firstFree 16 = .ok (.baload, 1) := by decide +kernel
theorem d_T_firstFree_17 : decode b_T_firstFree 17 = .ok (.ifCond .eq 7, 3) := by decide +kernel
theorem d_T_firstFree_20 : decode b_T_firstFree 20 = .ok (.iconst 0, 1) := by decide +kernel
theorem d_T_firstFree_21 : decode b_T_firstFree 21 = .ok (.goto 6, 3) := by decide +kernel
theorem d_T_firstFree_24 : decode b_T_firstFree 24 = .ok (.iload_n 2, 1) := by decide +kernel
theorem d_T_firstFree_25 : decode b_T_firstFree 25 = .ok (.iconst 1, 1) := by decide +kernel
theorem d_T_firstFree_26 : decode b_T_firstFree 26 = .ok (.iadd, 1) := by decide +kernel
theorem d_T_firstFree_27 : decode b_T_firstFree 27 = .ok (.istore_n 2, 1) := by decide +kernel
theorem d_T_firstFree_28 : decode b_T_firstFree 28 = .ok (.iload_n 2, 1) := by decide +kernel
theorem d_T_firstFree_29 : decode b_T_firstFree 29 = .ok (.iload_n 1, 1) := by decide +kernel
theorem d_T_firstFree_30 : decode b_T_firstFree 30 = .ok (.if_icmp .ne 9, 3) := by decide +kernel
theorem d_T_firstFree_33 : decode b_T_firstFree 33 = .ok (.iload_n 3, 1) := by decide +kernel
theorem d_T_firstFree_34 : decode b_T_firstFree 34 = .ok (.iload_n 1, 1) := by decide +kernel
theorem d_T_firstFree_35 : decode b_T_firstFree 35 = .ok (.isub, 1) := by decide +kernel
theorem d_T_firstFree_36 : decode b_T_firstFree 36 = .ok (.iconst 1, 1) := by decide +kernel
theorem d_T_firstFree_37 : decode b_T_firstFree 37 = .ok (.iadd, 1) := by decide +kernel
theorem d_T_firstFree_38 : decode b_T_firstFree 38 = .ok (.ireturn, 1) := by decide +kernel
theorem d_T_firstFree_39 : decode b_T_firstFree 39 = .ok (.iinc 3 1, 3) := by decide +kernel
theorem d_T_firstFree_42 : decode b_T_firstFree 42 = .ok (.goto (-38), 3) := by decide +kernel
theorem d_T_firstFree_45 : decode b_T_firstFree 45 = .ok (.iconst (-1), 1) := by decide +kernel
theorem d_T_firstFree_46 : decode b_T_firstFree 46 = .ok (.ireturn, 1) := by decide +kernel
abbrev r_T_firstFree : Room := ⟨0, 0, 0, 0⟩
def f_T_firstFree_27 (K4 : Mem → Int32 → Int32 → Int32 → Option (Int32 × Mem)) (σ : Mem) (x1 : Int32) (x3 : Int32) (s0 : Int32) : Option (Int32 × Mem) :=
  if s0 = x1 then
    some (((x3 - x1) + 1), σ)
  else
    K4 σ x1 s0 (x3 + 1)
set_option maxRecDepth 100000 in
theorem m_T_firstFree_27 {κ : GC} {Γ : GA} (hX : Gx κ Γ 4 b_T_firstFree "PaneScreen$Store" r_T_firstFree (some .int)) (K4 : Mem → Int32 → Int32 → Int32 → Option (Int32 × Mem)) (hK4 : ∀ (σ : Mem) (x1 : Int32) (x2 : Int32) (x3 : Int32), GG κ Γ 4 (gQ gqi κ Γ r_T_firstFree) 0 0 σ [some (.ref (Γ.2.1 5)), some (.int x1), some (.int x2), some (.int x3)] 4 [] (K4 σ x1 x2 x3)) (σ : Mem) (x1 : Int32) (x3 : Int32) (s0 : Int32) : GG κ Γ 4 (gQ gqi κ Γ r_T_firstFree) 0 0 σ [some (.ref (Γ.2.1 5)), some (.int x1), none, some (.int x3)] 27 [.int s0] (f_T_firstFree_27 K4 σ x1 x3 s0) := by
  unfold f_T_firstFree_27
  refine g_istore_n hX 2 [_, _, _, _] d_T_firstFree_27 (n := 28) rfl rfl (by decide) rfl ?_
  refine g_iload_n hX 2 d_T_firstFree_28 (n := 29) rfl rfl rfl ?_
  refine g_iload_n hX 1 d_T_firstFree_29 (n := 30) rfl rfl rfl ?_
  refine g_icmp_ne hX 39 d_T_firstFree_30 (n := 33) rfl rfl ?_ ?_
  · refine g_iinc hX 1 _ [_, _, _, _] d_T_firstFree_39 (n := 42) rfl rfl k_iconst_1 rfl (by decide) rfl ?_
    refine g_goto hX 4 d_T_firstFree_42 rfl ?_
    exact (hK4 σ x1 s0 (x3 + 1))
  · refine g_iload_n hX 3 d_T_firstFree_33 (n := 34) rfl rfl rfl ?_
    refine g_iload_n hX 1 d_T_firstFree_34 (n := 35) rfl rfl rfl ?_
    refine g_isub hX d_T_firstFree_35 (n := 36) rfl ?_
    refine g_iconst hX 1 d_T_firstFree_36 (n := 37) rfl k_iconst_1 ?_
    refine g_iadd hX d_T_firstFree_37 (n := 38) rfl ?_
    exact g_iret hX d_T_firstFree_38 (by decide) (by decide)
def f_T_firstFree_4B (K4 : Mem → Int32 → Int32 → Int32 → Option (Int32 × Mem)) (σ : Mem) (x1 : Int32) (x2 : Int32) (x3 : Int32) : Option (Int32 × Mem) :=
  if 400 ≤ x3 then
    some ((-1), σ)
  else
    if gin x3 400 = true then
      if (σ 8 x3.toNatClampNeg) = 0 then
        f_T_firstFree_27 K4 σ x1 x3 (x2 + 1)
      else
        f_T_firstFree_27 K4 σ x1 x3 0
    else none
set_option maxRecDepth 100000 in
theorem m_T_firstFree_4B {κ : GC} {Γ : GA} (hX : Gx κ Γ 4 b_T_firstFree "PaneScreen$Store" r_T_firstFree (some .int)) (K4 : Mem → Int32 → Int32 → Int32 → Option (Int32 × Mem)) (hK4 : ∀ (σ : Mem) (x1 : Int32) (x2 : Int32) (x3 : Int32), GG κ Γ 4 (gQ gqi κ Γ r_T_firstFree) 0 0 σ [some (.ref (Γ.2.1 5)), some (.int x1), some (.int x2), some (.int x3)] 4 [] (K4 σ x1 x2 x3)) (σ : Mem) (x1 : Int32) (x2 : Int32) (x3 : Int32) : GG κ Γ 4 (gQ gqi κ Γ r_T_firstFree) 0 0 σ [some (.ref (Γ.2.1 5)), some (.int x1), some (.int x2), some (.int x3)] 4 [] (f_T_firstFree_4B K4 σ x1 x2 x3) := by
  unfold f_T_firstFree_4B
  refine g_iload_n hX 3 d_T_firstFree_4 (n := 5) rfl rfl rfl ?_
  refine g_sipush hX 400 d_T_firstFree_5 (n := 8) rfl k_sipush_400 ?_
  refine g_icmp_ge hX 45 d_T_firstFree_8 (n := 11) rfl rfl ?_ ?_
  · refine g_iconst hX (-1) d_T_firstFree_45 (n := 46) rfl k_iconst_m1 ?_
    exact g_iret hX d_T_firstFree_46 (by decide) (by decide)
  · refine g_aload_n hX 0 d_T_firstFree_11 (n := 12) rfl rfl rfl ?_
    refine g_geta hX 8 gf_T_18 d_T_firstFree_12 (n := 15) rfl sh_5 rfl ?_
    refine g_iload_n hX 3 d_T_firstFree_15 (n := 16) rfl rfl rfl ?_
    refine g_zald hX d_T_firstFree_16 (n := 17) rfl sh_8 ?_
    refine g_if_eq hX 24 d_T_firstFree_17 (n := 20) rfl rfl ?_ ?_
    · refine g_iload_n hX 2 d_T_firstFree_24 (n := 25) rfl rfl rfl ?_
      refine g_iconst hX 1 d_T_firstFree_25 (n := 26) rfl k_iconst_1 ?_
      refine g_iadd hX d_T_firstFree_26 (n := 27) rfl ?_
      exact (g_sub (lw := [some (.ref (Γ.2.1 5)), some (.int x1), none, some (.int x3)]) (And.intro rfl (And.intro rfl (And.intro rfl (True.intro)))) (m_T_firstFree_27 hX K4 hK4 σ x1 x3 (x2 + 1)))
    · refine g_iconst hX 0 d_T_firstFree_20 (n := 21) rfl k_iconst_0 ?_
      refine g_goto hX 27 d_T_firstFree_21 rfl ?_
      exact (g_sub (lw := [some (.ref (Γ.2.1 5)), some (.int x1), none, some (.int x3)]) (And.intro rfl (And.intro rfl (And.intro rfl (True.intro)))) (m_T_firstFree_27 hX K4 hK4 σ x1 x3 0))
def f_T_firstFree_4 (n : Nat) : Mem → Int32 → Int32 → Int32 → Option (Int32 × Mem) := gfix (fun _ _ _ _ => none) (fun K4 => f_T_firstFree_4B K4) n
theorem m_T_firstFree_4 {κ : GC} {Γ : GA} (hX : Gx κ Γ 4 b_T_firstFree "PaneScreen$Store" r_T_firstFree (some .int)) (n : Nat) : ∀ (σ : Mem) (x1 : Int32) (x2 : Int32) (x3 : Int32), GG κ Γ 4 (gQ gqi κ Γ r_T_firstFree) 0 0 σ [some (.ref (Γ.2.1 5)), some (.int x1), some (.int x2), some (.int x3)] 4 [] (f_T_firstFree_4 n σ x1 x2 x3) := by
  induction n with
  | zero => intros; exact g_none
  | succ n ih => intro σ x1 x2 x3; exact m_T_firstFree_4B hX (f_T_firstFree_4 n) ih σ x1 x2 x3
def f_T_firstFree_0 (σ : Mem) (x1 : Int32) : Option (Int32 × Mem) :=
  f_T_firstFree_4 gN σ x1 0 0
set_option maxRecDepth 100000 in
theorem m_T_firstFree_0 {κ : GC} {Γ : GA} (hX : Gx κ Γ 4 b_T_firstFree "PaneScreen$Store" r_T_firstFree (some .int)) (σ : Mem) (x1 : Int32) : GG κ Γ 4 (gQ gqi κ Γ r_T_firstFree) 0 0 σ [some (.ref (Γ.2.1 5)), some (.int x1), none, none] 0 [] (f_T_firstFree_0 σ x1) := by
  unfold f_T_firstFree_0
  refine g_iconst hX 0 d_T_firstFree_0 (n := 1) rfl k_iconst_0 ?_
  refine g_istore_n hX 2 [_, _, _, _] d_T_firstFree_1 (n := 2) rfl rfl (by decide) rfl ?_
  refine g_iconst hX 0 d_T_firstFree_2 (n := 3) rfl k_iconst_0 ?_
  refine g_istore_n hX 3 [_, _, _, _] d_T_firstFree_3 (n := 4) rfl rfl (by decide) rfl ?_
  exact (m_T_firstFree_4 hX gN σ x1 0 0)
def f_T_firstFree (x1 : Int32) (σ : Mem) : Option (Int32 × Mem) := f_T_firstFree_0 σ x1
theorem c_T_firstFree (l : Launch) (Γ : GA) (x1 : Int32) (σ : Mem) : gM gqi l y_T_firstFree b_T_firstFree 4 (some .int) r_T_firstFree [.ref (Γ.2.1 5), .int x1] Γ σ (f_T_firstFree x1 σ) :=
  gM.of [some (.ref (Γ.2.1 5)), some (.int x1), none, none] (by decide) (Nat.le_of_ble_eq_true rfl) rfl rfl (fun κ hX _ => m_T_firstFree_0 hX σ x1)
/-! T_take -/
theorem d_T_take_0 : decode b_T_take 0 = .ok (.iload_n 1, 1) := by decide +kernel
theorem d_T_take_1 : decode b_T_take 1 = .ok (.istore_n 3, 1) := by decide +kernel
theorem d_T_take_2 : decode b_T_take 2 = .ok (.iload_n 3, 1) := by decide +kernel
theorem d_T_take_3 : decode b_T_take 3 = .ok (.iload_n 1, 1) := by decide +kernel
theorem d_T_take_4 : decode b_T_take 4 = .ok (.iload_n 2, 1) := by decide +kernel
theorem d_T_take_5 : decode b_T_take 5 = .ok (.iadd, 1) := by decide +kernel
theorem d_T_take_6 : decode b_T_take 6 = .ok (.if_icmp .ge 23, 3) := by decide +kernel
theorem d_T_take_9 : decode b_T_take 9 = .ok (.aload_n 0, 1) := by decide +kernel
theorem d_T_take_10 : decode b_T_take 10 = .ok (.getfield 18, 3) := by decide +kernel
theorem d_T_take_13 : decode b_T_take 13 = .ok (.iload_n 3, 1) := by decide +kernel
theorem d_T_take_14 : decode b_T_take 14 = .ok (.iconst 1, 1) := by decide +kernel
theorem d_T_take_15 : decode b_T_take 15 = .ok (.bastore, 1) := by decide +kernel
theorem d_T_take_16 : decode b_T_take 16 = .ok (.aload_n 0, 1) := by decide +kernel
theorem d_T_take_17 : decode b_T_take 17 = .ok (.getfield 9, 3) := by decide +kernel
theorem d_T_take_20 : decode b_T_take 20 = .ok (.iload_n 3, 1) := by decide +kernel
theorem d_T_take_21 : decode b_T_take 21 = .ok (.iconst 0, 1) := by decide +kernel
theorem d_T_take_22 : decode b_T_take 22 = .ok (.iastore, 1) := by decide +kernel
theorem d_T_take_23 : decode b_T_take 23 = .ok (.iinc 3 1, 3) := by decide +kernel
theorem d_T_take_26 : decode b_T_take 26 = .ok (.goto (-24), 3) := by decide +kernel
theorem d_T_take_29 : decode b_T_take 29 = .ok (.return_, 1) := by decide +kernel
abbrev r_T_take : Room := ⟨0, 0, 0, 0⟩
def f_T_take_2B (K2 : Mem → Int32 → Int32 → Int32 → Option Mem) (σ : Mem) (x1 : Int32) (x2 : Int32) (x3 : Int32) : Option Mem :=
  if (x1 + x2) ≤ x3 then
    some σ
  else
    if gin x3 400 = true then
      gbm (m2 σ 8 x3.toNatClampNeg 1) fun u1 =>
      if gin x3 400 = true then
        gbm (m2 u1 6 x3.toNatClampNeg 0) fun u2 =>
        K2 u2 x1 x2 (x3 + 1)
      else none
    else none
set_option maxRecDepth 100000 in
theorem m_T_take_2B {κ : GC} {Γ : GA} (hX : Gx κ Γ 4 b_T_take "PaneScreen$Store" r_T_take none) (K2 : Mem → Int32 → Int32 → Int32 → Option Mem) (hK2 : ∀ (σ : Mem) (x1 : Int32) (x2 : Int32) (x3 : Int32), GG κ Γ 4 (gQ gqv κ Γ r_T_take) 0 0 σ [some (.ref (Γ.2.1 5)), some (.int x1), some (.int x2), some (.int x3)] 2 [] (K2 σ x1 x2 x3)) (σ : Mem) (x1 : Int32) (x2 : Int32) (x3 : Int32) : GG κ Γ 4 (gQ gqv κ Γ r_T_take) 0 0 σ [some (.ref (Γ.2.1 5)), some (.int x1), some (.int x2), some (.int x3)] 2 [] (f_T_take_2B K2 σ x1 x2 x3) := by
  unfold f_T_take_2B
  refine g_iload_n hX 3 d_T_take_2 (n := 3) rfl rfl rfl ?_
  refine g_iload_n hX 1 d_T_take_3 (n := 4) rfl rfl rfl ?_
  refine g_iload_n hX 2 d_T_take_4 (n := 5) rfl rfl rfl ?_
  refine g_iadd hX d_T_take_5 (n := 6) rfl ?_
  refine g_icmp_ge hX 29 d_T_take_6 (n := 9) rfl rfl ?_ ?_
  · exact g_vret hX d_T_take_29 (by decide) (by decide)
  · refine g_aload_n hX 0 d_T_take_9 (n := 10) rfl rfl rfl ?_
    refine g_geta hX 8 gf_T_18 d_T_take_10 (n := 13) rfl sh_5 rfl ?_
    refine g_iload_n hX 3 d_T_take_13 (n := 14) rfl rfl rfl ?_
    refine g_iconst hX 1 d_T_take_14 (n := 15) rfl k_iconst_1 ?_
    refine g_zast hX d_T_take_15 (n := 16) rfl sh_8 rfl ?_
    refine g_mem (fun u1 => ?_)
    refine g_aload_n hX 0 d_T_take_16 (n := 17) rfl rfl rfl ?_
    refine g_geta hX 6 gf_T_9 d_T_take_17 (n := 20) rfl sh_5 rfl ?_
    refine g_iload_n hX 3 d_T_take_20 (n := 21) rfl rfl rfl ?_
    refine g_iconst hX 0 d_T_take_21 (n := 22) rfl k_iconst_0 ?_
    refine g_iast hX d_T_take_22 (n := 23) rfl sh_6 ?_
    refine g_mem (fun u2 => ?_)
    refine g_iinc hX 1 _ [_, _, _, _] d_T_take_23 (n := 26) rfl rfl k_iconst_1 rfl (by decide) rfl ?_
    refine g_goto hX 2 d_T_take_26 rfl ?_
    exact (hK2 u2 x1 x2 (x3 + 1))
def f_T_take_2 (n : Nat) : Mem → Int32 → Int32 → Int32 → Option Mem := gfix (fun _ _ _ _ => none) (fun K2 => f_T_take_2B K2) n
theorem m_T_take_2 {κ : GC} {Γ : GA} (hX : Gx κ Γ 4 b_T_take "PaneScreen$Store" r_T_take none) (n : Nat) : ∀ (σ : Mem) (x1 : Int32) (x2 : Int32) (x3 : Int32), GG κ Γ 4 (gQ gqv κ Γ r_T_take) 0 0 σ [some (.ref (Γ.2.1 5)), some (.int x1), some (.int x2), some (.int x3)] 2 [] (f_T_take_2 n σ x1 x2 x3) := by
  induction n with
  | zero => intros; exact g_none
  | succ n ih => intro σ x1 x2 x3; exact m_T_take_2B hX (f_T_take_2 n) ih σ x1 x2 x3
def f_T_take_0 (σ : Mem) (x1 : Int32) (x2 : Int32) : Option Mem :=
  f_T_take_2 gN σ x1 x2 x1
set_option maxRecDepth 100000 in
theorem m_T_take_0 {κ : GC} {Γ : GA} (hX : Gx κ Γ 4 b_T_take "PaneScreen$Store" r_T_take none) (σ : Mem) (x1 : Int32) (x2 : Int32) : GG κ Γ 4 (gQ gqv κ Γ r_T_take) 0 0 σ [some (.ref (Γ.2.1 5)), some (.int x1), some (.int x2), none] 0 [] (f_T_take_0 σ x1 x2) := by
  unfold f_T_take_0
  refine g_iload_n hX 1 d_T_take_0 (n := 1) rfl rfl rfl ?_
  refine g_istore_n hX 3 [_, _, _, _] d_T_take_1 (n := 2) rfl rfl (by decide) rfl ?_
  exact (m_T_take_2 hX gN σ x1 x2 x1)
def f_T_take (x1 : Int32) (x2 : Int32) (σ : Mem) : Option Mem := f_T_take_0 σ x1 x2
theorem c_T_take (l : Launch) (Γ : GA) (x1 : Int32) (x2 : Int32) (σ : Mem) : gM gqv l y_T_take b_T_take 4 none r_T_take [.ref (Γ.2.1 5), .int x1, .int x2] Γ σ (f_T_take x1 x2 σ) :=
  gM.of [some (.ref (Γ.2.1 5)), some (.int x1), some (.int x2), none] (by decide) (Nat.le_of_ble_eq_true rfl) rfl rfl (fun κ hX _ => m_T_take_0 hX σ x1 x2)
/-! P_putPen -/
theorem d_P_putPen_0 : decode b_P_putPen 0 = .ok (.aload_n 0, 1) := by decide +kernel
theorem d_P_putPen_1 : decode b_P_putPen 1 = .ok (.iload_n 1, 1) := by decide +kernel
theorem d_P_putPen_2 : decode b_P_putPen 2 = .ok (.putfield 33, 3) := by decide +kernel
theorem d_P_putPen_5 : decode b_P_putPen 5 = .ok (.aload_n 0, 1) := by decide +kernel
theorem d_P_putPen_6 : decode b_P_putPen 6 = .ok (.iload_n 2, 1) := by decide +kernel
theorem d_P_putPen_7 : decode b_P_putPen 7 = .ok (.putfield 36, 3) := by decide +kernel
theorem d_P_putPen_10 : decode b_P_putPen 10 = .ok (.return_, 1) := by decide +kernel
abbrev r_P_putPen : Room := ⟨0, 0, 0, 0⟩
def f_P_putPen_0 (σ : Mem) (q0 : Nat) (x1 : Int32) (x2 : Int32) : Option Mem :=
  gbm (m2 σ q0 6 x1) fun u1 =>
  gbm (m2 u1 q0 7 x2) fun u2 =>
  some u2
set_option maxRecDepth 100000 in
theorem m_P_putPen_0 {κ : GC} {Γ : GA} (hX : Gx κ Γ 3 b_P_putPen "PaneScreen$Pane" r_P_putPen none) (σ : Mem) (q0 : Nat) (x1 : Int32) (x2 : Int32) (hq0 : gPn q0) : GG κ Γ 3 (gQ gqv κ Γ r_P_putPen) 0 0 σ [some (.ref (Γ.2.1 q0)), some (.int x1), some (.int x2)] 0 [] (f_P_putPen_0 σ q0 x1 x2) := by
  unfold f_P_putPen_0
  refine g_aload_n hX 0 d_P_putPen_0 (n := 1) rfl rfl rfl ?_
  refine g_iload_n hX 1 d_P_putPen_1 (n := 2) rfl rfl rfl ?_
  refine g_puti hX gp_P_33 d_P_putPen_2 (n := 5) rfl hq0 rfl ?_
  refine g_mem (fun u1 => ?_)
  refine g_aload_n hX 0 d_P_putPen_5 (n := 6) rfl rfl rfl ?_
  refine g_iload_n hX 2 d_P_putPen_6 (n := 7) rfl rfl rfl ?_
  refine g_puti hX gp_P_36 d_P_putPen_7 (n := 10) rfl hq0 rfl ?_
  refine g_mem (fun u2 => ?_)
  exact g_vret hX d_P_putPen_10 (by decide) (by decide)
def f_P_putPen (q0 : Nat) (x1 : Int32) (x2 : Int32) (σ : Mem) : Option Mem := f_P_putPen_0 σ q0 x1 x2
theorem c_P_putPen (l : Launch) (Γ : GA) (q0 : Nat) (x1 : Int32) (x2 : Int32) (hq0 : gPn q0) (σ : Mem) : gM gqv l y_P_putPen b_P_putPen 3 none r_P_putPen [.ref (Γ.2.1 q0), .int x1, .int x2] Γ σ (f_P_putPen q0 x1 x2 σ) :=
  gM.of [some (.ref (Γ.2.1 q0)), some (.int x1), some (.int x2)] (by decide) (Nat.le_of_ble_eq_true rfl) rfl rfl (fun κ hX _ => m_P_putPen_0 hX σ q0 x1 x2 hq0)
/-! P_begin -/
theorem d_P_begin_0 : decode b_P_begin 0 = .ok (.aload_n 0, 1) := by decide +kernel
theorem d_P_begin_1 : decode b_P_begin 1 = .ok (.iconst 1, 1) := by decide +kernel
theorem d_P_begin_2 : decode b_P_begin 2 = .ok (.putfield 7, 3) := by decide +kernel
theorem d_P_begin_5 : decode b_P_begin 5 = .ok (.aload_n 0, 1) := by decide +kernel
theorem d_P_begin_6 : decode b_P_begin 6 = .ok (.iload_n 1, 1) := by decide +kernel
theorem d_P_begin_7 : decode b_P_begin 7 = .ok (.putfield 13, 3) := by decide +kernel
theorem d_P_begin_10 : decode b_P_begin 10 = .ok (.aload_n 0, 1) := by decide +kernel
theorem d_P_begin_11 : decode b_P_begin 11 = .ok (.iload_n 2, 1) := by decide +kernel
theorem d_P_begin_12 : decode b_P_begin 12 = .ok (.putfield 17, 3) := by decide +kernel
theorem d_P_begin_15 : decode b_P_begin 15 = .ok (.aload_n 0, 1) := by decide +kernel
theorem d_P_begin_16 : decode b_P_begin 16 = .ok (.iload_n 3, 1) := by decide +kernel
theorem d_P_begin_17 : decode b_P_begin 17 = .ok (.putfield 20, 3) := by decide +kernel
theorem d_P_begin_20 : decode b_P_begin 20 = .ok (.aload_n 0, 1) := by decide +kernel
theorem d_P_begin_21 : decode b_P_begin 21 = .ok (.iconst 0, 1) := by decide +kernel
theorem d_P_begin_22 : decode b_P_begin 22 = .ok (.iconst 0, 1) := by decide +kernel
theorem d_P_begin_23 : decode b_P_begin 23 = .ok (.invokevirtual 23, 3) := by decide +kernel
theorem d_P_begin_26 : decode b_P_begin 26 = .ok (.return_, 1) := by decide +kernel
abbrev r_P_begin : Room := ⟨1, 0, 0, 22⟩
def f_P_begin_0 (σ : Mem) (q0 : Nat) (x1 : Int32) (x2 : Int32) (x3 : Int32) : Option Mem :=
  gbm (m2 σ q0 0 1) fun u1 =>
  gbm (m2 u1 q0 5 x1) fun u2 =>
  gbm (m2 u2 q0 3 x2) fun u3 =>
  gbm (m2 u3 q0 4 x3) fun u4 =>
  gbv (f_P_putPen q0 0 0 u4) fun u5 =>
  some u5
set_option maxRecDepth 100000 in
theorem m_P_begin_0 {κ : GC} {Γ : GA} (hX : Gx κ Γ 4 b_P_begin "PaneScreen$Pane" r_P_begin none) (σ : Mem) (q0 : Nat) (x1 : Int32) (x2 : Int32) (x3 : Int32) (hq0 : gPn q0) : GG κ Γ 4 (gQ gqv κ Γ r_P_begin) 0 0 σ [some (.ref (Γ.2.1 q0)), some (.int x1), some (.int x2), some (.int x3)] 0 [] (f_P_begin_0 σ q0 x1 x2 x3) := by
  unfold f_P_begin_0
  refine g_aload_n hX 0 d_P_begin_0 (n := 1) rfl rfl rfl ?_
  refine g_iconst hX 1 d_P_begin_1 (n := 2) rfl k_iconst_1 ?_
  refine g_putz hX gp_P_7 d_P_begin_2 (n := 5) rfl hq0 rfl rfl rfl ?_
  refine g_mem (fun u1 => ?_)
  refine g_aload_n hX 0 d_P_begin_5 (n := 6) rfl rfl rfl ?_
  refine g_iload_n hX 1 d_P_begin_6 (n := 7) rfl rfl rfl ?_
  refine g_puti hX gp_P_13 d_P_begin_7 (n := 10) rfl hq0 rfl ?_
  refine g_mem (fun u2 => ?_)
  refine g_aload_n hX 0 d_P_begin_10 (n := 11) rfl rfl rfl ?_
  refine g_iload_n hX 2 d_P_begin_11 (n := 12) rfl rfl rfl ?_
  refine g_puti hX gp_P_17 d_P_begin_12 (n := 15) rfl hq0 rfl ?_
  refine g_mem (fun u3 => ?_)
  refine g_aload_n hX 0 d_P_begin_15 (n := 16) rfl rfl rfl ?_
  refine g_iload_n hX 3 d_P_begin_16 (n := 17) rfl rfl rfl ?_
  refine g_puti hX gp_P_20 d_P_begin_17 (n := 20) rfl hq0 rfl ?_
  refine g_mem (fun u4 => ?_)
  refine g_aload_n hX 0 d_P_begin_20 (n := 21) rfl rfl rfl ?_
  refine g_iconst hX 0 d_P_begin_21 (n := 22) rfl k_iconst_0 ?_
  refine g_iconst hX 0 d_P_begin_22 (n := 23) rfl k_iconst_0 ?_
  refine g_cVv hX [_, _] rfl 0 0 (c_P_putPen _ Γ q0 0 0 hq0 u4) gw_P_23 rfl hq0 rfl d_P_begin_23 (n := 26) rfl ⟨by decide, by decide⟩ ⟨by decide, by decide⟩ (Nat.le_of_ble_eq_true rfl) rfl rfl (fun u5 => ?_)
  exact g_vret hX d_P_begin_26 (by decide) (by decide)
def f_P_begin (q0 : Nat) (x1 : Int32) (x2 : Int32) (x3 : Int32) (σ : Mem) : Option Mem := f_P_begin_0 σ q0 x1 x2 x3
theorem c_P_begin (l : Launch) (Γ : GA) (q0 : Nat) (x1 : Int32) (x2 : Int32) (x3 : Int32) (hq0 : gPn q0) (σ : Mem) : gM gqv l y_P_begin b_P_begin 4 none r_P_begin [.ref (Γ.2.1 q0), .int x1, .int x2, .int x3] Γ σ (f_P_begin q0 x1 x2 x3 σ) :=
  gM.of [some (.ref (Γ.2.1 q0)), some (.int x1), some (.int x2), some (.int x3)] (by decide) (Nat.le_of_ble_eq_true rfl) rfl rfl (fun κ hX _ => m_P_begin_0 hX σ q0 x1 x2 x3 hq0)
/-! P_place -/
theorem d_P_place_0 : decode b_P_place 0 = .ok (.aload_n 0, 1) := by decide +kernel
theorem d_P_place_1 : decode b_P_place 1 = .ok (.iload_n 1, 1) := by decide +kernel
theorem d_P_place_2 : decode b_P_place 2 = .ok (.putfield 27, 3) := by decide +kernel
theorem d_P_place_5 : decode b_P_place 5 = .ok (.aload_n 0, 1) := by decide +kernel
theorem d_P_place_6 : decode b_P_place 6 = .ok (.iload_n 2, 1) := by decide +kernel
theorem d_P_place_7 : decode b_P_place 7 = .ok (.putfield 30, 3) := by decide +kernel
theorem d_P_place_10 : decode b_P_place 10 = .ok (.return_, 1) := by decide +kernel
abbrev r_P_place : Room := ⟨0, 0, 0, 0⟩
def f_P_place_0 (σ : Mem) (q0 : Nat) (x1 : Int32) (x2 : Int32) : Option Mem :=
  gbm (m2 σ q0 1 x1) fun u1 =>
  gbm (m2 u1 q0 2 x2) fun u2 =>
  some u2
set_option maxRecDepth 100000 in
theorem m_P_place_0 {κ : GC} {Γ : GA} (hX : Gx κ Γ 3 b_P_place "PaneScreen$Pane" r_P_place none) (σ : Mem) (q0 : Nat) (x1 : Int32) (x2 : Int32) (hq0 : gPn q0) : GG κ Γ 3 (gQ gqv κ Γ r_P_place) 0 0 σ [some (.ref (Γ.2.1 q0)), some (.int x1), some (.int x2)] 0 [] (f_P_place_0 σ q0 x1 x2) := by
  unfold f_P_place_0
  refine g_aload_n hX 0 d_P_place_0 (n := 1) rfl rfl rfl ?_
  refine g_iload_n hX 1 d_P_place_1 (n := 2) rfl rfl rfl ?_
  refine g_puti hX gp_P_27 d_P_place_2 (n := 5) rfl hq0 rfl ?_
  refine g_mem (fun u1 => ?_)
  refine g_aload_n hX 0 d_P_place_5 (n := 6) rfl rfl rfl ?_
  refine g_iload_n hX 2 d_P_place_6 (n := 7) rfl rfl rfl ?_
  refine g_puti hX gp_P_30 d_P_place_7 (n := 10) rfl hq0 rfl ?_
  refine g_mem (fun u2 => ?_)
  exact g_vret hX d_P_place_10 (by decide) (by decide)
def f_P_place (q0 : Nat) (x1 : Int32) (x2 : Int32) (σ : Mem) : Option Mem := f_P_place_0 σ q0 x1 x2
theorem c_P_place (l : Launch) (Γ : GA) (q0 : Nat) (x1 : Int32) (x2 : Int32) (hq0 : gPn q0) (σ : Mem) : gM gqv l y_P_place b_P_place 3 none r_P_place [.ref (Γ.2.1 q0), .int x1, .int x2] Γ σ (f_P_place q0 x1 x2 σ) :=
  gM.of [some (.ref (Γ.2.1 q0)), some (.int x1), some (.int x2)] (by decide) (Nat.le_of_ble_eq_true rfl) rfl rfl (fun κ hX _ => m_P_place_0 hX σ q0 x1 x2 hq0)
/-! O_addInFront -/
theorem d_O_addInFront_0 : decode b_O_addInFront 0 = .ok (.aload_n 0, 1) := by decide +kernel
theorem d_O_addInFront_1 : decode b_O_addInFront 1 = .ok (.getfield 15, 3) := by decide +kernel
theorem d_O_addInFront_4 : decode b_O_addInFront 4 = .ok (.bipush 8, 2) := by decide +kernel
theorem d_O_addInFront_6 : decode b_O_addInFront 6 = .ok (.if_icmp .lt 4, 3) := by decide +kernel
theorem d_O_addInFront_9 : decode b_O_addInFront 9 = .ok (.return_, 1) := by decide +kernel
theorem d_O_addInFront_10 : decode b_O_addInFront 10 = .ok (.aload_n 0, 1) := by decide +kernel
theorem d_O_addInFront_11 : decode b_O_addInFront 11 = .ok (.getfield 15, 3) := by decide +kernel
theorem d_O_addInFront_14 : decode b_O_addInFront 14 = .ok (.istore_n 2, 1) := by decide +kernel
theorem d_O_addInFront_15 : decode b_O_addInFront 15 = .ok (.iload_n 2, 1) := by decide +kernel
theorem d_O_addInFront_16 : decode b_O_addInFront 16 = .ok (.ifCond .le 23, 3) := by decide +kernel
theorem d_O_addInFront_19 : decode b_O_addInFront 19 = .ok (.aload_n 0, 1) := by decide +kernel
theorem d_O_addInFront_20 : decode b_O_addInFront 20 = .ok (.getfield 9, 3) := by decide +kernel
theorem d_O_addInFront_23 : decode b_O_addInFront 23 = .ok (.iload_n 2, 1) := by decide +kernel
theorem d_O_addInFront_24 : decode b_O_addInFront 24 = .ok (.aload_n 0, 1) := by decide +kernel
theorem d_O_addInFront_25 : decode b_O_addInFront 25 = .ok (.getfield 9, 3) := by decide +kernel
theorem d_O_addInFront_28 : decode b_O_addInFront 28 = .ok (.iload_n 2, 1) := by decide +kernel
theorem d_O_addInFront_29 : decode b_O_addInFront 29 = .ok (.iconst 1, 1) := by decide +kernel
theorem d_O_addInFront_30 : decode b_O_addInFront 30 = .ok (.isub, 1) := by decide +kernel
theorem d_O_addInFront_31 : decode b_O_addInFront 31 = .ok (.iaload, 1) := by decide +kernel
theorem d_O_addInFront_32 : decode b_O_addInFront 32 = .ok (.iastore, 1) := by decide +kernel
theorem d_O_addInFront_33 : decode b_O_addInFront 33 = .ok (.iinc 2 (-1), 3) := by decide +kernel
theorem d_O_addInFront_36 : decode b_O_addInFront 36 = .ok (.goto (-21), 3) := by decide +kernel
theorem d_O_addInFront_39 : decode b_O_addInFront 39 = .ok (.aload_n 0, 1) := by decide +kernel
theorem d_O_addInFront_40 : decode b_O_addInFront 40 = .ok (.getfield 9, 3) := by decide +kernel
theorem d_O_addInFront_43 : decode b_O_addInFront 43 = .ok (.iconst 0, 1) := by decide +kernel
theorem d_O_addInFront_44 : decode b_O_addInFront 44 = .ok (.iload_n 1, 1) := by decide +kernel
theorem d_O_addInFront_45 : decode b_O_addInFront 45 = .ok (.iastore, 1) := by decide +kernel
theorem d_O_addInFront_46 : decode b_O_addInFront 46 = .ok (.aload_n 0, 1) := by decide +kernel
theorem d_O_addInFront_47 : decode b_O_addInFront 47 = .ok (.dup, 1) := by decide +kernel
theorem d_O_addInFront_48 : decode b_O_addInFront 48 = .ok (.getfield 15, 3) := by decide +kernel
theorem d_O_addInFront_51 : decode b_O_addInFront 51 = .ok (.iconst 1, 1) := by decide +kernel
theorem d_O_addInFront_52 : decode b_O_addInFront 52 = .ok (.iadd, 1) := by decide +kernel
theorem d_O_addInFront_53 : decode b_O_addInFront 53 = .ok (.putfield 15, 3) := by decide +kernel
theorem d_O_addInFront_56 : decode b_O_addInFront 56 = .ok (.return_, 1) := by decide +kernel
abbrev r_O_addInFront : Room := ⟨0, 0, 0, 0⟩
def f_O_addInFront_15B (K15 : Mem → Int32 → Int32 → Option Mem) (σ : Mem) (x1 : Int32) (x2 : Int32) : Option Mem :=
  if x2 ≤ 0 then
    if gin 0 8 = true then
      gbm (m2 σ 4 (0 : Int32).toNatClampNeg x1) fun u1 =>
      gbm (m2 u1 3 1 ((u1 3 1) + 1)) fun u2 =>
      some u2
    else none
  else
    if gin (x2 - 1) 8 = true then
      if gin x2 8 = true then
        gbm (m2 σ 4 x2.toNatClampNeg (σ 4 (x2 - 1).toNatClampNeg)) fun u3 =>
        K15 u3 x1 (x2 + (-1))
      else none
    else none
set_option maxRecDepth 100000 in
theorem m_O_addInFront_15B {κ : GC} {Γ : GA} (hX : Gx κ Γ 3 b_O_addInFront "PaneScreen$Order" r_O_addInFront none) (K15 : Mem → Int32 → Int32 → Option Mem) (hK15 : ∀ (σ : Mem) (x1 : Int32) (x2 : Int32), GG κ Γ 3 (gQ gqv κ Γ r_O_addInFront) 0 0 σ [some (.ref (Γ.2.1 3)), some (.int x1), some (.int x2)] 15 [] (K15 σ x1 x2)) (σ : Mem) (x1 : Int32) (x2 : Int32) : GG κ Γ 3 (gQ gqv κ Γ r_O_addInFront) 0 0 σ [some (.ref (Γ.2.1 3)), some (.int x1), some (.int x2)] 15 [] (f_O_addInFront_15B K15 σ x1 x2) := by
  unfold f_O_addInFront_15B
  refine g_iload_n hX 2 d_O_addInFront_15 (n := 16) rfl rfl rfl ?_
  refine g_if_le hX 39 d_O_addInFront_16 (n := 19) rfl rfl ?_ ?_
  · refine g_aload_n hX 0 d_O_addInFront_39 (n := 40) rfl rfl rfl ?_
    refine g_geta hX 4 gf_O_9 d_O_addInFront_40 (n := 43) rfl sh_3 rfl ?_
    refine g_iconst hX 0 d_O_addInFront_43 (n := 44) rfl k_iconst_0 ?_
    refine g_iload_n hX 1 d_O_addInFront_44 (n := 45) rfl rfl rfl ?_
    refine g_iast hX d_O_addInFront_45 (n := 46) rfl sh_4 ?_
    refine g_mem (fun u1 => ?_)
    refine g_aload_n hX 0 d_O_addInFront_46 (n := 47) rfl rfl rfl ?_
    refine g_dup hX d_O_addInFront_47 (n := 48) rfl rfl ?_
    refine g_geti hX gf_O_15 d_O_addInFront_48 (n := 51) rfl sh_3 rfl ?_
    refine g_iconst hX 1 d_O_addInFront_51 (n := 52) rfl k_iconst_1 ?_
    refine g_iadd hX d_O_addInFront_52 (n := 53) rfl ?_
    refine g_puti hX gp_O_15 d_O_addInFront_53 (n := 56) rfl sh_3 rfl ?_
    refine g_mem (fun u2 => ?_)
    exact g_vret hX d_O_addInFront_56 (by decide) (by decide)
  · refine g_aload_n hX 0 d_O_addInFront_19 (n := 20) rfl rfl rfl ?_
    refine g_geta hX 4 gf_O_9 d_O_addInFront_20 (n := 23) rfl sh_3 rfl ?_
    refine g_iload_n hX 2 d_O_addInFront_23 (n := 24) rfl rfl rfl ?_
    refine g_aload_n hX 0 d_O_addInFront_24 (n := 25) rfl rfl rfl ?_
    refine g_geta hX 4 gf_O_9 d_O_addInFront_25 (n := 28) rfl sh_3 rfl ?_
    refine g_iload_n hX 2 d_O_addInFront_28 (n := 29) rfl rfl rfl ?_
    refine g_iconst hX 1 d_O_addInFront_29 (n := 30) rfl k_iconst_1 ?_
    refine g_isub hX d_O_addInFront_30 (n := 31) rfl ?_
    refine g_iald hX d_O_addInFront_31 (n := 32) rfl sh_4 ?_
    refine g_iast hX d_O_addInFront_32 (n := 33) rfl sh_4 ?_
    refine g_mem (fun u3 => ?_)
    refine g_iinc hX (-1) _ [_, _, _] d_O_addInFront_33 (n := 36) rfl rfl k_iconst_m1 rfl (by decide) rfl ?_
    refine g_goto hX 15 d_O_addInFront_36 rfl ?_
    exact (hK15 u3 x1 (x2 + (-1)))
def f_O_addInFront_15 (n : Nat) : Mem → Int32 → Int32 → Option Mem := gfix (fun _ _ _ => none) (fun K15 => f_O_addInFront_15B K15) n
theorem m_O_addInFront_15 {κ : GC} {Γ : GA} (hX : Gx κ Γ 3 b_O_addInFront "PaneScreen$Order" r_O_addInFront none) (n : Nat) : ∀ (σ : Mem) (x1 : Int32) (x2 : Int32), GG κ Γ 3 (gQ gqv κ Γ r_O_addInFront) 0 0 σ [some (.ref (Γ.2.1 3)), some (.int x1), some (.int x2)] 15 [] (f_O_addInFront_15 n σ x1 x2) := by
  induction n with
  | zero => intros; exact g_none
  | succ n ih => intro σ x1 x2; exact m_O_addInFront_15B hX (f_O_addInFront_15 n) ih σ x1 x2
def f_O_addInFront_0 (σ : Mem) (x1 : Int32) : Option Mem :=
  if (σ 3 1) < 8 then
    gbi (σ 3 1) fun y1 =>
    f_O_addInFront_15 gN σ x1 y1
  else
    some σ
set_option maxRecDepth 100000 in
theorem m_O_addInFront_0 {κ : GC} {Γ : GA} (hX : Gx κ Γ 3 b_O_addInFront "PaneScreen$Order" r_O_addInFront none) (σ : Mem) (x1 : Int32) : GG κ Γ 3 (gQ gqv κ Γ r_O_addInFront) 0 0 σ [some (.ref (Γ.2.1 3)), some (.int x1), none] 0 [] (f_O_addInFront_0 σ x1) := by
  unfold f_O_addInFront_0
  refine g_aload_n hX 0 d_O_addInFront_0 (n := 1) rfl rfl rfl ?_
  refine g_geti hX gf_O_15 d_O_addInFront_1 (n := 4) rfl sh_3 rfl ?_
  refine g_bipush hX 8 d_O_addInFront_4 (n := 6) rfl k_bipush_8 ?_
  refine g_icmp_lt hX 10 d_O_addInFront_6 (n := 9) rfl rfl ?_ ?_
  · refine g_aload_n hX 0 d_O_addInFront_10 (n := 11) rfl rfl rfl ?_
    refine g_geti hX gf_O_15 d_O_addInFront_11 (n := 14) rfl sh_3 rfl ?_
    refine g_top (fun y1 => ?_)
    refine g_istore_n hX 2 [_, _, _] d_O_addInFront_14 (n := 15) rfl rfl (by decide) rfl ?_
    exact (m_O_addInFront_15 hX gN σ x1 y1)
  · exact g_vret hX d_O_addInFront_9 (by decide) (by decide)
def f_O_addInFront (x1 : Int32) (σ : Mem) : Option Mem := f_O_addInFront_0 σ x1
theorem c_O_addInFront (l : Launch) (Γ : GA) (x1 : Int32) (σ : Mem) : gM gqv l y_O_addInFront b_O_addInFront 3 none r_O_addInFront [.ref (Γ.2.1 3), .int x1] Γ σ (f_O_addInFront x1 σ) :=
  gM.of [some (.ref (Γ.2.1 3)), some (.int x1), none] (by decide) (Nat.le_of_ble_eq_true rfl) rfl rfl (fun κ hX _ => m_O_addInFront_0 hX σ x1)
/-! D_put -/
theorem d_D_put_0 : decode b_D_put 0 = .ok (.aload_n 0, 1) := by decide +kernel
theorem d_D_put_1 : decode b_D_put 1 = .ok (.getfield 9, 3) := by decide +kernel
theorem d_D_put_4 : decode b_D_put 4 = .ok (.iload_n 1, 1) := by decide +kernel
theorem d_D_put_5 : decode b_D_put 5 = .ok (.iload_n 2, 1) := by decide +kernel
theorem d_D_put_6 : decode b_D_put 6 = .ok (.iastore, 1) := by decide +kernel
theorem d_D_put_7 : decode b_D_put 7 = .ok (.aload_n 0, 1) := by decide +kernel
theorem d_D_put_8 : decode b_D_put 8 = .ok (.getfield 15, 3) := by decide +kernel
theorem d_D_put_11 : decode b_D_put 11 = .ok (.iload_n 1, 1) := by decide +kernel
theorem d_D_put_12 : decode b_D_put 12 = .ok (.iload_n 3, 1) := by decide +kernel
theorem d_D_put_13 : decode b_D_put 13 = .ok (.iastore, 1) := by decide +kernel
theorem d_D_put_14 : decode b_D_put 14 = .ok (.aload_n 0, 1) := by decide +kernel
theorem d_D_put_15 : decode b_D_put 15 = .ok (.getfield 18, 3) := by decide +kernel
theorem d_D_put_18 : decode b_D_put 18 = .ok (.iload_n 1, 1) := by decide +kernel
theorem d_D_put_19 : decode b_D_put 19 = .ok (.iload 4, 2) := by decide +kernel
theorem d_D_put_21 : decode b_D_put 21 = .ok (.iastore, 1) := by decide +kernel
theorem d_D_put_22 : decode b_D_put 22 = .ok (.aload_n 0, 1) := by decide +kernel
theorem d_D_put_23 : decode b_D_put 23 = .ok (.getfield 21, 3) := by decide +kernel
theorem d_D_put_26 : decode b_D_put 26 = .ok (.iload_n 1, 1) := by decide +kernel
theorem d_D_put_27 : decode b_D_put 27 = .ok (.iload 5, 2) := by decide +kernel
theorem d_D_put_29 : decode b_D_put 29 = .ok (.iastore, 1) := by decide +kernel
theorem d_D_put_30 : decode b_D_put 30 = .ok (.return_, 1) := by decide +kernel
abbrev r_D_put : Room := ⟨0, 0, 0, 0⟩
def f_D_put_0 (σ : Mem) (x1 : Int32) (x2 : Int32) (x3 : Int32) (x4 : Int32) (x5 : Int32) : Option Mem :=
  if gin x1 6 = true then
    gbm (m2 σ 10 x1.toNatClampNeg x2) fun u1 =>
    if gin x1 6 = true then
      gbm (m2 u1 11 x1.toNatClampNeg x3) fun u2 =>
      if gin x1 6 = true then
        gbm (m2 u2 12 x1.toNatClampNeg x4) fun u3 =>
        if gin x1 6 = true then
          gbm (m2 u3 13 x1.toNatClampNeg x5) fun u4 =>
          some u4
        else none
      else none
    else none
  else none
set_option maxRecDepth 100000 in
theorem m_D_put_0 {κ : GC} {Γ : GA} (hX : Gx κ Γ 6 b_D_put "PaneScreen$Damage" r_D_put none) (σ : Mem) (x1 : Int32) (x2 : Int32) (x3 : Int32) (x4 : Int32) (x5 : Int32) : GG κ Γ 6 (gQ gqv κ Γ r_D_put) 0 0 σ [some (.ref (Γ.2.1 9)), some (.int x1), some (.int x2), some (.int x3), some (.int x4), some (.int x5)] 0 [] (f_D_put_0 σ x1 x2 x3 x4 x5) := by
  unfold f_D_put_0
  refine g_aload_n hX 0 d_D_put_0 (n := 1) rfl rfl rfl ?_
  refine g_geta hX 10 gf_D_9 d_D_put_1 (n := 4) rfl sh_9 rfl ?_
  refine g_iload_n hX 1 d_D_put_4 (n := 5) rfl rfl rfl ?_
  refine g_iload_n hX 2 d_D_put_5 (n := 6) rfl rfl rfl ?_
  refine g_iast hX d_D_put_6 (n := 7) rfl sh_10 ?_
  refine g_mem (fun u1 => ?_)
  refine g_aload_n hX 0 d_D_put_7 (n := 8) rfl rfl rfl ?_
  refine g_geta hX 11 gf_D_15 d_D_put_8 (n := 11) rfl sh_9 rfl ?_
  refine g_iload_n hX 1 d_D_put_11 (n := 12) rfl rfl rfl ?_
  refine g_iload_n hX 3 d_D_put_12 (n := 13) rfl rfl rfl ?_
  refine g_iast hX d_D_put_13 (n := 14) rfl sh_11 ?_
  refine g_mem (fun u2 => ?_)
  refine g_aload_n hX 0 d_D_put_14 (n := 15) rfl rfl rfl ?_
  refine g_geta hX 12 gf_D_18 d_D_put_15 (n := 18) rfl sh_9 rfl ?_
  refine g_iload_n hX 1 d_D_put_18 (n := 19) rfl rfl rfl ?_
  refine g_iload hX d_D_put_19 (n := 21) rfl rfl ?_
  refine g_iast hX d_D_put_21 (n := 22) rfl sh_12 ?_
  refine g_mem (fun u3 => ?_)
  refine g_aload_n hX 0 d_D_put_22 (n := 23) rfl rfl rfl ?_
  refine g_geta hX 13 gf_D_21 d_D_put_23 (n := 26) rfl sh_9 rfl ?_
  refine g_iload_n hX 1 d_D_put_26 (n := 27) rfl rfl rfl ?_
  refine g_iload hX d_D_put_27 (n := 29) rfl rfl ?_
  refine g_iast hX d_D_put_29 (n := 30) rfl sh_13 ?_
  refine g_mem (fun u4 => ?_)
  exact g_vret hX d_D_put_30 (by decide) (by decide)
def f_D_put (x1 : Int32) (x2 : Int32) (x3 : Int32) (x4 : Int32) (x5 : Int32) (σ : Mem) : Option Mem := f_D_put_0 σ x1 x2 x3 x4 x5
theorem c_D_put (l : Launch) (Γ : GA) (x1 : Int32) (x2 : Int32) (x3 : Int32) (x4 : Int32) (x5 : Int32) (σ : Mem) : gM gqv l y_D_put b_D_put 6 none r_D_put [.ref (Γ.2.1 9), .int x1, .int x2, .int x3, .int x4, .int x5] Γ σ (f_D_put x1 x2 x3 x4 x5 σ) :=
  gM.of [some (.ref (Γ.2.1 9)), some (.int x1), some (.int x2), some (.int x3), some (.int x4), some (.int x5)] (by decide) (Nat.le_of_ble_eq_true rfl) rfl rfl (fun κ hX _ => m_D_put_0 hX σ x1 x2 x3 x4 x5)
/-! D_joinAllWith -/
theorem d_D_joinAllWith_0 : decode b_D_joinAllWith 0 = .ok (.iload_n 1, 1) := by decide +kernel
theorem d_D_joinAllWith_1 : decode b_D_joinAllWith 1 = .ok (.istore 5, 2) := by decide +kernel
theorem d_D_joinAllWith_3 : decode b_D_joinAllWith 3 = .ok (.iload_n 2, 1) := by decide +kernel
theorem d_D_joinAllWith_4 : decode b_D_joinAllWith 4 = .ok (.istore 6, 2) := by decide +kernel
theorem d_D_joinAllWith_6 : decode b_D_joinAllWith 6 = .ok (.iload_n 3, 1) := by decide +kernel
theorem d_D_joinAllWith_7 : decode b_D_joinAllWith 7 = .ok (.istore 7, 2) := by decide +kernel
theorem d_D_joinAllWith_9 : decode b_D_joinAllWith 9 = .ok (.iload 4, 2) := by decide +kernel
theorem d_D_joinAllWith_11 : decode b_D_joinAllWith 11 = .ok (.istore 8, 2) := by decide +kernel
theorem d_D_joinAllWith_13 : decode b_D_joinAllWith 13 = .ok (.iconst 0, 1) := by decide +kernel
theorem d_D_joinAllWith_14 : decode b_D_joinAllWith 14 = .ok (.istore 9, 2) := by decide +kernel
theorem d_D_joinAllWith_16 : decode b_D_joinAllWith 16 = .ok (.iload 9, 2) := by decide +kernel
theorem d_D_joinAllWith_18 : decode b_D_joinAllWith 18 = .ok (.aload_n 0, 1) := by decide +kernel
theorem d_D_joinAllWith_19 : decode b_D_joinAllWith 19 = .ok (.getfield 33, 3) := by decide +kernel
theorem d_D_joinAllWith_22 : decode b_D_joinAllWith 22 = .ok (.if_icmp .ge 65, 3) := by decide +kernel
theorem d_D_joinAllWith_25 : decode b_D_joinAllWith 25 = .ok (.iload 5, 2) := by decide +kernel
theorem d_D_joinAllWith_27 : decode b_D_joinAllWith 27 = .ok (.aload_n 0, 1) := by decide +kernel
theorem d_D_joinAllWith_28 : decode b_D_joinAllWith 28 = .ok (.getfield 9, 3) := by decide +kernel
theorem d_D_joinAllWith_31 : decode b_D_joinAllWith 31 = .ok (.iload 9, 2) := by decide +kernel
theorem d_D_joinAllWith_33 : decode b_D_joinAllWith 33 = .ok (.iaload, 1) := by decide +kernel
theorem d_D_joinAllWith_34 : decode b_D_joinAllWith 34 = .ok (.invokestatic 30, 3) := by decide +kernel
theorem d_D_joinAllWith_37 : decode b_D_joinAllWith 37 = .ok (.istore 5, 2) := by decide +kernel
theorem d_D_joinAllWith_39 : decode b_D_joinAllWith 39 = .ok (.iload 6, 2) := by decide +kernel
theorem d_D_joinAllWith_41 : decode b_D_joinAllWith 41 = .ok (.aload_n 0, 1) := by decide +kernel
theorem d_D_joinAllWith_42 : decode b_D_joinAllWith 42 = .ok (.getfield 15, 3) := by decide +kernel
theorem d_D_joinAllWith_45 : decode b_D_joinAllWith 45 = .ok (.iload 9, 2) := by decide +kernel
theorem d_D_joinAllWith_47 : decode b_D_joinAllWith 47 = .ok (.iaload, 1) := by decide +kernel
theorem d_D_joinAllWith_48 : decode b_D_joinAllWith 48 = .ok (.invokestatic 30, 3) := by decide +kernel
theorem d_D_joinAllWith_51 : decode b_D_joinAllWith 51 = .ok (.istore 6, 2) := by decide +kernel
theorem d_D_joinAllWith_53 : decode b_D_joinAllWith 53 = .ok (.iload 7, 2) := by decide +kernel
theorem d_D_joinAllWith_55 : decode b_D_joinAllWith 55 = .ok (.aload_n 0, 1) := by decide +kernel
theorem d_D_joinAllWith_56 : decode b_D_joinAllWith 56 = .ok (.getfield 18, 3) := by decide +kernel
theorem d_D_joinAllWith_59 : decode b_D_joinAllWith 59 = .ok (.iload 9, 2) := by decide +kernel
theorem d_D_joinAllWith_61 : decode b_D_joinAllWith 61 = .ok (.iaload, 1) := by decide +kernel
theorem d_D_joinAllWith_62 : decode b_D_joinAllWith 62 = .ok (.invokestatic 24, 3) := by decide +kernel
theorem d_D_joinAllWith_65 : decode b_D_joinAllWith 65 = .ok (.istore 7, 2) := by decide +kernel
theorem d_D_joinAllWith_67 : decode b_D_joinAllWith 67 = .ok (.iload 8, 2) := by decide +kernel
theorem d_D_joinAllWith_69 : decode b_D_joinAllWith 69 = .ok (.aload_n 0, 1) := by decide +kernel
theorem d_D_joinAllWith_70 : decode b_D_joinAllWith 70 = .ok (.getfield 21, 3) := by decide +kernel
theorem d_D_joinAllWith_73 : decode b_D_joinAllWith 73 = .ok (.iload 9, 2) := by decide +kernel
theorem d_D_joinAllWith_75 : decode b_D_joinAllWith 75 = .ok (.iaload, 1) := by decide +kernel
theorem d_D_joinAllWith_76 : decode b_D_joinAllWith 76 = .ok (.invokestatic 24, 3) := by decide +kernel
theorem d_D_joinAllWith_79 : decode b_D_joinAllWith 79 = .ok (.istore 8, 2) := by decide +kernel
theorem d_D_joinAllWith_81 : decode b_D_joinAllWith 81 = .ok (.iinc 9 1, 3) := by decide +kernel
theorem d_D_joinAllWith_84 : decode b_D_joinAllWith 84 = .ok (.goto (-68), 3) := by decide +kernel
theorem d_D_joinAllWith_87 : decode b_D_joinAllWith 87 = .ok (.aload_n 0, 1) := by decide +kernel
theorem d_D_joinAllWith_88 : decode b_D_joinAllWith 88 = .ok (.iconst 0, 1) := by decide +kernel
theorem d_D_joinAllWith_89 : decode b_D_joinAllWith 89 = .ok (.iload 5, 2) := by decide +kernel
theorem d_D_joinAllWith_91 : decode b_D_joinAllWith 91 = .ok (.iload 6, 2) := by decide +kernel
theorem d_D_joinAllWith_93 : decode b_D_joinAllWith 93 = .ok (.iload 7, 2) := by decide +kernel
theorem d_D_joinAllWith_95 : decode b_D_joinAllWith 95 = .ok (.iload 8, 2) := by decide +kernel
theorem d_D_joinAllWith_97 : decode b_D_joinAllWith 97 = .ok (.invokevirtual 37, 3) := by decide +kernel
theorem d_D_joinAllWith_100 : decode b_D_joinAllWith 100 = .ok (.aload_n 0, 1) := by decide +kernel
theorem d_D_joinAllWith_101 : decode b_D_joinAllWith 101 = .ok (.iconst 1, 1) := by decide +kernel
theorem d_D_joinAllWith_102 : decode b_D_joinAllWith 102 = .ok (.putfield 33, 3) := by decide +kernel
theorem d_D_joinAllWith_105 : decode b_D_joinAllWith 105 = .ok (.return_, 1) := by decide +kernel
abbrev r_D_joinAllWith : Room := ⟨1, 0, 0, 25⟩
def f_D_joinAllWith_16B (K16 : Mem → Int32 → Int32 → Int32 → Int32 → Int32 → Option Mem) (σ : Mem) (x5 : Int32) (x6 : Int32) (x7 : Int32) (x8 : Int32) (x9 : Int32) : Option Mem :=
  if (σ 9 4) ≤ x9 then
    gbv (f_D_put 0 x5 x6 x7 x8 σ) fun u1 =>
    gbm (m2 u1 9 4 1) fun u2 =>
    some u2
  else
    if gin x9 6 = true then
      gbi (mmin x5 (σ 10 x9.toNatClampNeg)) fun y3 =>
      if gin x9 6 = true then
        gbi (mmin x6 (σ 11 x9.toNatClampNeg)) fun y4 =>
        if gin x9 6 = true then
          gbi (mmax x7 (σ 12 x9.toNatClampNeg)) fun y5 =>
          if gin x9 6 = true then
            gbi (mmax x8 (σ 13 x9.toNatClampNeg)) fun y6 =>
            K16 σ y3 y4 y5 y6 (x9 + 1)
          else none
        else none
      else none
    else none
set_option maxRecDepth 100000 in
theorem m_D_joinAllWith_16B {κ : GC} {Γ : GA} (hX : Gx κ Γ 10 b_D_joinAllWith "PaneScreen$Damage" r_D_joinAllWith none) (K16 : Mem → Int32 → Int32 → Int32 → Int32 → Int32 → Option Mem) (hK16 : ∀ (σ : Mem) (x5 : Int32) (x6 : Int32) (x7 : Int32) (x8 : Int32) (x9 : Int32), GG κ Γ 10 (gQ gqv κ Γ r_D_joinAllWith) 0 0 σ [some (.ref (Γ.2.1 9)), none, none, none, none, some (.int x5), some (.int x6), some (.int x7), some (.int x8), some (.int x9)] 16 [] (K16 σ x5 x6 x7 x8 x9)) (σ : Mem) (x5 : Int32) (x6 : Int32) (x7 : Int32) (x8 : Int32) (x9 : Int32) : GG κ Γ 10 (gQ gqv κ Γ r_D_joinAllWith) 0 0 σ [some (.ref (Γ.2.1 9)), none, none, none, none, some (.int x5), some (.int x6), some (.int x7), some (.int x8), some (.int x9)] 16 [] (f_D_joinAllWith_16B K16 σ x5 x6 x7 x8 x9) := by
  unfold f_D_joinAllWith_16B
  refine g_iload hX d_D_joinAllWith_16 (n := 18) rfl rfl ?_
  refine g_aload_n hX 0 d_D_joinAllWith_18 (n := 19) rfl rfl rfl ?_
  refine g_geti hX gf_D_33 d_D_joinAllWith_19 (n := 22) rfl sh_9 rfl ?_
  refine g_icmp_ge hX 87 d_D_joinAllWith_22 (n := 25) rfl rfl ?_ ?_
  · refine g_aload_n hX 0 d_D_joinAllWith_87 (n := 88) rfl rfl rfl ?_
    refine g_iconst hX 0 d_D_joinAllWith_88 (n := 89) rfl k_iconst_0 ?_
    refine g_iload hX d_D_joinAllWith_89 (n := 91) rfl rfl ?_
    refine g_iload hX d_D_joinAllWith_91 (n := 93) rfl rfl ?_
    refine g_iload hX d_D_joinAllWith_93 (n := 95) rfl rfl ?_
    refine g_iload hX d_D_joinAllWith_95 (n := 97) rfl rfl ?_
    refine g_cVv hX [_, _, _, _, _] rfl 0 0 (c_D_put _ Γ 0 x5 x6 x7 x8 σ) gw_D_37 rfl sh_9 rfl d_D_joinAllWith_97 (n := 100) rfl ⟨by decide, by decide⟩ ⟨by decide, by decide⟩ (Nat.le_of_ble_eq_true rfl) rfl rfl (fun u1 => ?_)
    refine g_aload_n hX 0 d_D_joinAllWith_100 (n := 101) rfl rfl rfl ?_
    refine g_iconst hX 1 d_D_joinAllWith_101 (n := 102) rfl k_iconst_1 ?_
    refine g_puti hX gp_D_33 d_D_joinAllWith_102 (n := 105) rfl sh_9 rfl ?_
    refine g_mem (fun u2 => ?_)
    exact g_vret hX d_D_joinAllWith_105 (by decide) (by decide)
  · refine g_iload hX d_D_joinAllWith_25 (n := 27) rfl rfl ?_
    refine g_aload_n hX 0 d_D_joinAllWith_27 (n := 28) rfl rfl rfl ?_
    refine g_geta hX 10 gf_D_9 d_D_joinAllWith_28 (n := 31) rfl sh_9 rfl ?_
    refine g_iload hX d_D_joinAllWith_31 (n := 33) rfl rfl ?_
    refine g_iald hX d_D_joinAllWith_33 (n := 34) rfl sh_10 ?_
    refine g_mmin hX gm_D_30 gms_min gmi gmc_min d_D_joinAllWith_34 (n := 37) rfl (by decide) (Nat.le_of_ble_eq_true rfl) (by decide) (by decide) ?_
    refine g_top (fun y3 => ?_)
    refine g_istore hX [_, _, _, _, _, _, _, _, _, _] d_D_joinAllWith_37 (n := 39) rfl (by decide) rfl ?_
    refine g_iload hX d_D_joinAllWith_39 (n := 41) rfl rfl ?_
    refine g_aload_n hX 0 d_D_joinAllWith_41 (n := 42) rfl rfl rfl ?_
    refine g_geta hX 11 gf_D_15 d_D_joinAllWith_42 (n := 45) rfl sh_9 rfl ?_
    refine g_iload hX d_D_joinAllWith_45 (n := 47) rfl rfl ?_
    refine g_iald hX d_D_joinAllWith_47 (n := 48) rfl sh_11 ?_
    refine g_mmin hX gm_D_30 gms_min gmi gmc_min d_D_joinAllWith_48 (n := 51) rfl (by decide) (Nat.le_of_ble_eq_true rfl) (by decide) (by decide) ?_
    refine g_top (fun y4 => ?_)
    refine g_istore hX [_, _, _, _, _, _, _, _, _, _] d_D_joinAllWith_51 (n := 53) rfl (by decide) rfl ?_
    refine g_iload hX d_D_joinAllWith_53 (n := 55) rfl rfl ?_
    refine g_aload_n hX 0 d_D_joinAllWith_55 (n := 56) rfl rfl rfl ?_
    refine g_geta hX 12 gf_D_18 d_D_joinAllWith_56 (n := 59) rfl sh_9 rfl ?_
    refine g_iload hX d_D_joinAllWith_59 (n := 61) rfl rfl ?_
    refine g_iald hX d_D_joinAllWith_61 (n := 62) rfl sh_12 ?_
    refine g_mmax hX gm_D_24 gms_max gmi gmc_max d_D_joinAllWith_62 (n := 65) rfl (by decide) (Nat.le_of_ble_eq_true rfl) (by decide) (by decide) ?_
    refine g_top (fun y5 => ?_)
    refine g_istore hX [_, _, _, _, _, _, _, _, _, _] d_D_joinAllWith_65 (n := 67) rfl (by decide) rfl ?_
    refine g_iload hX d_D_joinAllWith_67 (n := 69) rfl rfl ?_
    refine g_aload_n hX 0 d_D_joinAllWith_69 (n := 70) rfl rfl rfl ?_
    refine g_geta hX 13 gf_D_21 d_D_joinAllWith_70 (n := 73) rfl sh_9 rfl ?_
    refine g_iload hX d_D_joinAllWith_73 (n := 75) rfl rfl ?_
    refine g_iald hX d_D_joinAllWith_75 (n := 76) rfl sh_13 ?_
    refine g_mmax hX gm_D_24 gms_max gmi gmc_max d_D_joinAllWith_76 (n := 79) rfl (by decide) (Nat.le_of_ble_eq_true rfl) (by decide) (by decide) ?_
    refine g_top (fun y6 => ?_)
    refine g_istore hX [_, _, _, _, _, _, _, _, _, _] d_D_joinAllWith_79 (n := 81) rfl (by decide) rfl ?_
    refine g_iinc hX 1 _ [_, _, _, _, _, _, _, _, _, _] d_D_joinAllWith_81 (n := 84) rfl rfl k_iconst_1 rfl (by decide) rfl ?_
    refine g_goto hX 16 d_D_joinAllWith_84 rfl ?_
    exact (hK16 σ y3 y4 y5 y6 (x9 + 1))
def f_D_joinAllWith_16 (n : Nat) : Mem → Int32 → Int32 → Int32 → Int32 → Int32 → Option Mem := gfix (fun _ _ _ _ _ _ => none) (fun K16 => f_D_joinAllWith_16B K16) n
theorem m_D_joinAllWith_16 {κ : GC} {Γ : GA} (hX : Gx κ Γ 10 b_D_joinAllWith "PaneScreen$Damage" r_D_joinAllWith none) (n : Nat) : ∀ (σ : Mem) (x5 : Int32) (x6 : Int32) (x7 : Int32) (x8 : Int32) (x9 : Int32), GG κ Γ 10 (gQ gqv κ Γ r_D_joinAllWith) 0 0 σ [some (.ref (Γ.2.1 9)), none, none, none, none, some (.int x5), some (.int x6), some (.int x7), some (.int x8), some (.int x9)] 16 [] (f_D_joinAllWith_16 n σ x5 x6 x7 x8 x9) := by
  induction n with
  | zero => intros; exact g_none
  | succ n ih => intro σ x5 x6 x7 x8 x9; exact m_D_joinAllWith_16B hX (f_D_joinAllWith_16 n) ih σ x5 x6 x7 x8 x9
def f_D_joinAllWith_0 (σ : Mem) (x1 : Int32) (x2 : Int32) (x3 : Int32) (x4 : Int32) : Option Mem :=
  f_D_joinAllWith_16 gN σ x1 x2 x3 x4 0
set_option maxRecDepth 100000 in
theorem m_D_joinAllWith_0 {κ : GC} {Γ : GA} (hX : Gx κ Γ 10 b_D_joinAllWith "PaneScreen$Damage" r_D_joinAllWith none) (σ : Mem) (x1 : Int32) (x2 : Int32) (x3 : Int32) (x4 : Int32) : GG κ Γ 10 (gQ gqv κ Γ r_D_joinAllWith) 0 0 σ [some (.ref (Γ.2.1 9)), some (.int x1), some (.int x2), some (.int x3), some (.int x4), none, none, none, none, none] 0 [] (f_D_joinAllWith_0 σ x1 x2 x3 x4) := by
  unfold f_D_joinAllWith_0
  refine g_iload_n hX 1 d_D_joinAllWith_0 (n := 1) rfl rfl rfl ?_
  refine g_istore hX [_, _, _, _, _, _, _, _, _, _] d_D_joinAllWith_1 (n := 3) rfl (by decide) rfl ?_
  refine g_iload_n hX 2 d_D_joinAllWith_3 (n := 4) rfl rfl rfl ?_
  refine g_istore hX [_, _, _, _, _, _, _, _, _, _] d_D_joinAllWith_4 (n := 6) rfl (by decide) rfl ?_
  refine g_iload_n hX 3 d_D_joinAllWith_6 (n := 7) rfl rfl rfl ?_
  refine g_istore hX [_, _, _, _, _, _, _, _, _, _] d_D_joinAllWith_7 (n := 9) rfl (by decide) rfl ?_
  refine g_iload hX d_D_joinAllWith_9 (n := 11) rfl rfl ?_
  refine g_istore hX [_, _, _, _, _, _, _, _, _, _] d_D_joinAllWith_11 (n := 13) rfl (by decide) rfl ?_
  refine g_iconst hX 0 d_D_joinAllWith_13 (n := 14) rfl k_iconst_0 ?_
  refine g_istore hX [_, _, _, _, _, _, _, _, _, _] d_D_joinAllWith_14 (n := 16) rfl (by decide) rfl ?_
  exact (g_sub (lw := [some (.ref (Γ.2.1 9)), none, none, none, none, some (.int x1), some (.int x2), some (.int x3), some (.int x4), some (.int 0)]) (And.intro rfl (And.intro rfl (And.intro rfl (And.intro rfl (And.intro rfl (And.intro rfl (True.intro))))))) (m_D_joinAllWith_16 hX gN σ x1 x2 x3 x4 0))
def f_D_joinAllWith (x1 : Int32) (x2 : Int32) (x3 : Int32) (x4 : Int32) (σ : Mem) : Option Mem := f_D_joinAllWith_0 σ x1 x2 x3 x4
theorem c_D_joinAllWith (l : Launch) (Γ : GA) (x1 : Int32) (x2 : Int32) (x3 : Int32) (x4 : Int32) (σ : Mem) : gM gqv l y_D_joinAllWith b_D_joinAllWith 10 none r_D_joinAllWith [.ref (Γ.2.1 9), .int x1, .int x2, .int x3, .int x4] Γ σ (f_D_joinAllWith x1 x2 x3 x4 σ) :=
  gM.of [some (.ref (Γ.2.1 9)), some (.int x1), some (.int x2), some (.int x3), some (.int x4), none, none, none, none, none] (by decide) (Nat.le_of_ble_eq_true rfl) rfl rfl (fun κ hX _ => m_D_joinAllWith_0 hX σ x1 x2 x3 x4)
/-! D_add -/
theorem d_D_add_0 : decode b_D_add 0 = .ok (.iload_n 1, 1) := by decide +kernel
theorem d_D_add_1 : decode b_D_add 1 = .ok (.iconst 0, 1) := by decide +kernel
theorem d_D_add_2 : decode b_D_add 2 = .ok (.invokestatic 24, 3) := by decide +kernel
theorem d_D_add_5 : decode b_D_add 5 = .ok (.istore 5, 2) := by decide +kernel
theorem d_D_add_7 : decode b_D_add 7 = .ok (.iload_n 2, 1) := by decide +kernel
theorem d_D_add_8 : decode b_D_add 8 = .ok (.iconst 0, 1) := by decide +kernel
theorem d_D_add_9 : decode b_D_add 9 = .ok (.invokestatic 24, 3) := by decide +kernel
theorem d_D_add_12 : decode b_D_add 12 = .ok (.istore 6, 2) := by decide +kernel
theorem d_D_add_14 : decode b_D_add 14 = .ok (.iload_n 3, 1) := by decide +kernel
theorem d_D_add_15 : decode b_D_add 15 = .ok (.bipush 24, 2) := by decide +kernel
theorem d_D_add_17 : decode b_D_add 17 = .ok (.invokestatic 30, 3) := by decide +kernel
theorem d_D_add_20 : decode b_D_add 20 = .ok (.istore 7, 2) := by decide +kernel
theorem d_D_add_22 : decode b_D_add 22 = .ok (.iload 4, 2) := by decide +kernel
theorem d_D_add_24 : decode b_D_add 24 = .ok (.bipush 16, 2) := by decide +kernel
theorem d_D_add_26 : decode b_D_add 26 = .ok (.invokestatic 30, 3) := by decide +kernel
theorem d_D_add_29 : decode b_D_add 29 = .ok (.istore 8, 2) := by decide +kernel
theorem d_D_add_31 : decode b_D_add 31 = .ok (.iload 5, 2) := by decide +kernel
theorem d_D_add_33 : decode b_D_add 33 = .ok (.iload 7, 2) := by decide +kernel
theorem d_D_add_35 : decode b_D_add 35 = .ok (.if_icmp .ge 10, 3) := by decide +kernel
theorem d_D_add_38 : decode b_D_add 38 = .ok (.iload 6, 2) := by decide +kernel
theorem d_D_add_40 : decode b_D_add 40 = .ok (.iload 8, 2) := by decide +kernel
theorem d_D_add_42 : decode b_D_add 42 = .ok (.if_icmp .lt 4, 3) := by decide +kernel
theorem d_D_add_45 : decode b_D_add 45 = .ok (.return_, 1) := by decide +kernel
theorem d_D_add_46 : decode b_D_add 46 = .ok (.aload_n 0, 1) := by decide +kernel
theorem d_D_add_47 : decode b_D_add 47 = .ok (.getfield 33, 3) := by decide +kernel
theorem d_D_add_50 : decode b_D_add 50 = .ok (.bipush 6, 2) := by decide +kernel
theorem d_D_add_52 : decode b_D_add 52 = .ok (.if_icmp .ge 32, 3) := by decide +kernel
theorem d_D_add_55 : decode b_D_add 55 = .ok (.aload_n 0, 1) := by decide +kernel
theorem d_D_add_56 : decode b_D_add 56 = .ok (.aload_n 0, 1) := by decide +kernel
theorem d_D_add_57 : decode b_D_add 57 = .ok (.getfield 33, 3) := by decide +kernel
theorem d_D_add_60 : decode b_D_add 60 = .ok (.iload 5, 2) := by decide +kernel
theorem d_D_add_62 : decode b_D_add 62 = .ok (.iload 6, 2) := by decide +kernel
theorem d_D_add_64 : decode b_D_add 64 = .ok (.iload 7, 2) := by decide +kernel
theorem d_D_add_66 : decode b_D_add 66 = .ok (.iload 8, 2) := by decide +kernel
theorem d_D_add_68 : decode b_D_add 68 = .ok (.invokevirtual 37, 3) := by decide +kernel
theorem d_D_add_71 : decode b_D_add 71 = .ok (.aload_n 0, 1) := by decide +kernel
theorem d_D_add_72 : decode b_D_add 72 = .ok (.dup, 1) := by decide +kernel
theorem d_D_add_73 : decode b_D_add 73 = .ok (.getfield 33, 3) := by decide +kernel
theorem d_D_add_76 : decode b_D_add 76 = .ok (.iconst 1, 1) := by decide +kernel
theorem d_D_add_77 : decode b_D_add 77 = .ok (.iadd, 1) := by decide +kernel
theorem d_D_add_78 : decode b_D_add 78 = .ok (.putfield 33, 3) := by decide +kernel
theorem d_D_add_81 : decode b_D_add 81 = .ok (.goto 15, 3) := by decide +kernel
theorem d_D_add_84 : decode b_D_add 84 = .ok (.aload_n 0, 1) := by decide +kernel
theorem d_D_add_85 : decode b_D_add 85 = .ok (.iload 5, 2) := by decide +kernel
theorem d_D_add_87 : decode b_D_add 87 = .ok (.iload 6, 2) := by decide +kernel
theorem d_D_add_89 : decode b_D_add 89 = .ok (.iload 7, 2) := by decide +kernel
theorem d_D_add_91 : decode b_D_add 91 = .ok (.iload 8, 2) := by decide +kernel
theorem d_D_add_93 : decode b_D_add 93 = .ok (.invokevirtual 41, 3) := by decide +kernel
theorem d_D_add_96 : decode b_D_add 96 = .ok (.return_, 1) := by decide +kernel
abbrev r_D_add : Room := ⟨2, 0, 0, 54⟩
def f_D_add_45 (σ : Mem) : Option Mem :=
  some σ
set_option maxRecDepth 100000 in
theorem m_D_add_45 {κ : GC} {Γ : GA} (hX : Gx κ Γ 9 b_D_add "PaneScreen$Damage" r_D_add none) (σ : Mem) : GG κ Γ 9 (gQ gqv κ Γ r_D_add) 0 0 σ [none, none, none, none, none, none, none, none, none] 45 [] (f_D_add_45 σ) := by
  unfold f_D_add_45
  exact g_vret hX d_D_add_45 (by decide) (by decide)
def f_D_add_96 (σ : Mem) : Option Mem :=
  some σ
set_option maxRecDepth 100000 in
theorem m_D_add_96 {κ : GC} {Γ : GA} (hX : Gx κ Γ 9 b_D_add "PaneScreen$Damage" r_D_add none) (σ : Mem) : GG κ Γ 9 (gQ gqv κ Γ r_D_add) 0 0 σ [none, none, none, none, none, none, none, none, none] 96 [] (f_D_add_96 σ) := by
  unfold f_D_add_96
  exact g_vret hX d_D_add_96 (by decide) (by decide)
def f_D_add_0 (σ : Mem) (x1 : Int32) (x2 : Int32) (x3 : Int32) (x4 : Int32) : Option Mem :=
  gbi (mmax x1 0) fun y1 =>
  gbi (mmax x2 0) fun y2 =>
  gbi (mmin x3 24) fun y3 =>
  gbi (mmin x4 16) fun y4 =>
  if y3 ≤ y1 then
    f_D_add_45 σ
  else
    if y2 < y4 then
      if 6 ≤ (σ 9 4) then
        gbv (f_D_joinAllWith y1 y2 y3 y4 σ) fun u5 =>
        f_D_add_96 u5
      else
        gbv (f_D_put (σ 9 4) y1 y2 y3 y4 σ) fun u6 =>
        gbm (m2 u6 9 4 ((u6 9 4) + 1)) fun u7 =>
        f_D_add_96 u7
    else
      f_D_add_45 σ
set_option maxRecDepth 100000 in
theorem m_D_add_0 {κ : GC} {Γ : GA} (hX : Gx κ Γ 9 b_D_add "PaneScreen$Damage" r_D_add none) (σ : Mem) (x1 : Int32) (x2 : Int32) (x3 : Int32) (x4 : Int32) : GG κ Γ 9 (gQ gqv κ Γ r_D_add) 0 0 σ [some (.ref (Γ.2.1 9)), some (.int x1), some (.int x2), some (.int x3), some (.int x4), none, none, none, none] 0 [] (f_D_add_0 σ x1 x2 x3 x4) := by
  unfold f_D_add_0
  refine g_iload_n hX 1 d_D_add_0 (n := 1) rfl rfl rfl ?_
  refine g_iconst hX 0 d_D_add_1 (n := 2) rfl k_iconst_0 ?_
  refine g_mmax hX gm_D_24 gms_max gmi gmc_max d_D_add_2 (n := 5) rfl (by decide) (Nat.le_of_ble_eq_true rfl) (by decide) (by decide) ?_
  refine g_top (fun y1 => ?_)
  refine g_istore hX [_, _, _, _, _, _, _, _, _] d_D_add_5 (n := 7) rfl (by decide) rfl ?_
  refine g_iload_n hX 2 d_D_add_7 (n := 8) rfl rfl rfl ?_
  refine g_iconst hX 0 d_D_add_8 (n := 9) rfl k_iconst_0 ?_
  refine g_mmax hX gm_D_24 gms_max gmi gmc_max d_D_add_9 (n := 12) rfl (by decide) (Nat.le_of_ble_eq_true rfl) (by decide) (by decide) ?_
  refine g_top (fun y2 => ?_)
  refine g_istore hX [_, _, _, _, _, _, _, _, _] d_D_add_12 (n := 14) rfl (by decide) rfl ?_
  refine g_iload_n hX 3 d_D_add_14 (n := 15) rfl rfl rfl ?_
  refine g_bipush hX 24 d_D_add_15 (n := 17) rfl k_bipush_24 ?_
  refine g_mmin hX gm_D_30 gms_min gmi gmc_min d_D_add_17 (n := 20) rfl (by decide) (Nat.le_of_ble_eq_true rfl) (by decide) (by decide) ?_
  refine g_top (fun y3 => ?_)
  refine g_istore hX [_, _, _, _, _, _, _, _, _] d_D_add_20 (n := 22) rfl (by decide) rfl ?_
  refine g_iload hX d_D_add_22 (n := 24) rfl rfl ?_
  refine g_bipush hX 16 d_D_add_24 (n := 26) rfl k_bipush_16 ?_
  refine g_mmin hX gm_D_30 gms_min gmi gmc_min d_D_add_26 (n := 29) rfl (by decide) (Nat.le_of_ble_eq_true rfl) (by decide) (by decide) ?_
  refine g_top (fun y4 => ?_)
  refine g_istore hX [_, _, _, _, _, _, _, _, _] d_D_add_29 (n := 31) rfl (by decide) rfl ?_
  refine g_iload hX d_D_add_31 (n := 33) rfl rfl ?_
  refine g_iload hX d_D_add_33 (n := 35) rfl rfl ?_
  refine g_icmp_ge hX 45 d_D_add_35 (n := 38) rfl rfl ?_ ?_
  · exact (g_sub (lw := [none, none, none, none, none, none, none, none, none]) (True.intro) (m_D_add_45 hX σ))
  · refine g_iload hX d_D_add_38 (n := 40) rfl rfl ?_
    refine g_iload hX d_D_add_40 (n := 42) rfl rfl ?_
    refine g_icmp_lt hX 46 d_D_add_42 (n := 45) rfl rfl ?_ ?_
    · refine g_aload_n hX 0 d_D_add_46 (n := 47) rfl rfl rfl ?_
      refine g_geti hX gf_D_33 d_D_add_47 (n := 50) rfl sh_9 rfl ?_
      refine g_bipush hX 6 d_D_add_50 (n := 52) rfl k_bipush_6 ?_
      refine g_icmp_ge hX 84 d_D_add_52 (n := 55) rfl rfl ?_ ?_
      · refine g_aload_n hX 0 d_D_add_84 (n := 85) rfl rfl rfl ?_
        refine g_iload hX d_D_add_85 (n := 87) rfl rfl ?_
        refine g_iload hX d_D_add_87 (n := 89) rfl rfl ?_
        refine g_iload hX d_D_add_89 (n := 91) rfl rfl ?_
        refine g_iload hX d_D_add_91 (n := 93) rfl rfl ?_
        refine g_cVv hX [_, _, _, _] rfl 0 0 (c_D_joinAllWith _ Γ y1 y2 y3 y4 σ) gw_D_41 rfl sh_9 rfl d_D_add_93 (n := 96) rfl ⟨by decide, by decide⟩ ⟨by decide, by decide⟩ (Nat.le_of_ble_eq_true rfl) rfl rfl (fun u5 => ?_)
        exact (g_sub (lw := [none, none, none, none, none, none, none, none, none]) (True.intro) (m_D_add_96 hX u5))
      · refine g_aload_n hX 0 d_D_add_55 (n := 56) rfl rfl rfl ?_
        refine g_aload_n hX 0 d_D_add_56 (n := 57) rfl rfl rfl ?_
        refine g_geti hX gf_D_33 d_D_add_57 (n := 60) rfl sh_9 rfl ?_
        refine g_iload hX d_D_add_60 (n := 62) rfl rfl ?_
        refine g_iload hX d_D_add_62 (n := 64) rfl rfl ?_
        refine g_iload hX d_D_add_64 (n := 66) rfl rfl ?_
        refine g_iload hX d_D_add_66 (n := 68) rfl rfl ?_
        refine g_cVv hX [_, _, _, _, _] rfl 0 0 (c_D_put _ Γ (σ 9 4) y1 y2 y3 y4 σ) gw_D_37 rfl sh_9 rfl d_D_add_68 (n := 71) rfl ⟨by decide, by decide⟩ ⟨by decide, by decide⟩ (Nat.le_of_ble_eq_true rfl) rfl rfl (fun u6 => ?_)
        refine g_aload_n hX 0 d_D_add_71 (n := 72) rfl rfl rfl ?_
        refine g_dup hX d_D_add_72 (n := 73) rfl rfl ?_
        refine g_geti hX gf_D_33 d_D_add_73 (n := 76) rfl sh_9 rfl ?_
        refine g_iconst hX 1 d_D_add_76 (n := 77) rfl k_iconst_1 ?_
        refine g_iadd hX d_D_add_77 (n := 78) rfl ?_
        refine g_puti hX gp_D_33 d_D_add_78 (n := 81) rfl sh_9 rfl ?_
        refine g_mem (fun u7 => ?_)
        refine g_goto hX 96 d_D_add_81 rfl ?_
        exact (g_sub (lw := [none, none, none, none, none, none, none, none, none]) (True.intro) (m_D_add_96 hX u7))
    · exact (g_sub (lw := [none, none, none, none, none, none, none, none, none]) (True.intro) (m_D_add_45 hX σ))
def f_D_add (x1 : Int32) (x2 : Int32) (x3 : Int32) (x4 : Int32) (σ : Mem) : Option Mem := f_D_add_0 σ x1 x2 x3 x4
theorem c_D_add (l : Launch) (Γ : GA) (x1 : Int32) (x2 : Int32) (x3 : Int32) (x4 : Int32) (σ : Mem) : gM gqv l y_D_add b_D_add 9 none r_D_add [.ref (Γ.2.1 9), .int x1, .int x2, .int x3, .int x4] Γ σ (f_D_add x1 x2 x3 x4 σ) :=
  gM.of [some (.ref (Γ.2.1 9)), some (.int x1), some (.int x2), some (.int x3), some (.int x4), none, none, none, none] (by decide) (Nat.le_of_ble_eq_true rfl) rfl rfl (fun κ hX _ => m_D_add_0 hX σ x1 x2 x3 x4)
/-! S_damagePart -/
theorem d_S_damagePart_0 : decode b_S_damagePart 0 = .ok (.aload_n 0, 1) := by decide +kernel
theorem d_S_damagePart_1 : decode b_S_damagePart 1 = .ok (.getfield 37, 3) := by decide +kernel
theorem d_S_damagePart_4 : decode b_S_damagePart 4 = .ok (.aload_n 1, 1) := by decide +kernel
theorem d_S_damagePart_5 : decode b_S_damagePart 5 = .ok (.getfield 186, 3) := by decide +kernel
theorem d_S_damagePart_8 : decode b_S_damagePart 8 = .ok (.iload_n 2, 1) := by decide +kernel
theorem d_S_damagePart_9 : decode b_S_damagePart 9 = .ok (.iadd, 1) := by decide +kernel
theorem d_S_damagePart_10 : decode b_S_damagePart 10 = .ok (.aload_n 1, 1) := by decide +kernel
theorem d_S_damagePart_11 : decode b_S_damagePart 11 = .ok (.getfield 189, 3) := by decide +kernel
theorem d_S_damagePart_14 : decode b_S_damagePart 14 = .ok (.iload_n 3, 1) := by decide +kernel
theorem d_S_damagePart_15 : decode b_S_damagePart 15 = .ok (.iadd, 1) := by decide +kernel
theorem d_S_damagePart_16 : decode b_S_damagePart 16 = .ok (.aload_n 1, 1) := by decide +kernel
theorem d_S_damagePart_17 : decode b_S_damagePart 17 = .ok (.getfield 186, 3) := by decide +kernel
theorem d_S_damagePart_20 : decode b_S_damagePart 20 = .ok (.iload 4, 2) := by decide +kernel
theorem d_S_damagePart_22 : decode b_S_damagePart 22 = .ok (.iadd, 1) := by decide +kernel
theorem d_S_damagePart_23 : decode b_S_damagePart 23 = .ok (.aload_n 1, 1) := by decide +kernel
theorem d_S_damagePart_24 : decode b_S_damagePart 24 = .ok (.getfield 189, 3) := by decide +kernel
theorem d_S_damagePart_27 : decode b_S_damagePart 27 = .ok (.iload 5, 2) := by decide +kernel
theorem d_S_damagePart_29 : decode b_S_damagePart 29 = .ok (.iadd, 1) := by decide +kernel
theorem d_S_damagePart_30 : decode b_S_damagePart 30 = .ok (.invokevirtual 241, 3) := by decide +kernel
theorem d_S_damagePart_33 : decode b_S_damagePart 33 = .ok (.return_, 1) := by decide +kernel
abbrev r_S_damagePart : Room := ⟨3, 0, 0, 82⟩
def f_S_damagePart_0 (σ : Mem) (q1 : Nat) (x2 : Int32) (x3 : Int32) (x4 : Int32) (x5 : Int32) : Option Mem :=
  gbv (f_D_add ((σ q1 1) + x2) ((σ q1 2) + x3) ((σ q1 1) + x4) ((σ q1 2) + x5) σ) fun u1 =>
  some u1
set_option maxRecDepth 100000 in
theorem m_S_damagePart_0 {κ : GC} {Γ : GA} (hX : Gx κ Γ 6 b_S_damagePart "PaneScreen" r_S_damagePart none) (σ : Mem) (q1 : Nat) (x2 : Int32) (x3 : Int32) (x4 : Int32) (x5 : Int32) (hq1 : gPn q1) : GG κ Γ 6 (gQ gqv κ Γ r_S_damagePart) 0 0 σ [some (.ref (Γ.2.1 0)), some (.ref (Γ.2.1 q1)), some (.int x2), some (.int x3), some (.int x4), some (.int x5)] 0 [] (f_S_damagePart_0 σ q1 x2 x3 x4 x5) := by
  unfold f_S_damagePart_0
  refine g_aload_n hX 0 d_S_damagePart_0 (n := 1) rfl rfl rfl ?_
  refine g_geta hX 9 gf_S_37 d_S_damagePart_1 (n := 4) rfl sh_0 rfl ?_
  refine g_aload_n hX 1 d_S_damagePart_4 (n := 5) rfl rfl rfl ?_
  refine g_geti hX gf_S_186 d_S_damagePart_5 (n := 8) rfl hq1 rfl ?_
  refine g_iload_n hX 2 d_S_damagePart_8 (n := 9) rfl rfl rfl ?_
  refine g_iadd hX d_S_damagePart_9 (n := 10) rfl ?_
  refine g_aload_n hX 1 d_S_damagePart_10 (n := 11) rfl rfl rfl ?_
  refine g_geti hX gf_S_189 d_S_damagePart_11 (n := 14) rfl hq1 rfl ?_
  refine g_iload_n hX 3 d_S_damagePart_14 (n := 15) rfl rfl rfl ?_
  refine g_iadd hX d_S_damagePart_15 (n := 16) rfl ?_
  refine g_aload_n hX 1 d_S_damagePart_16 (n := 17) rfl rfl rfl ?_
  refine g_geti hX gf_S_186 d_S_damagePart_17 (n := 20) rfl hq1 rfl ?_
  refine g_iload hX d_S_damagePart_20 (n := 22) rfl rfl ?_
  refine g_iadd hX d_S_damagePart_22 (n := 23) rfl ?_
  refine g_aload_n hX 1 d_S_damagePart_23 (n := 24) rfl rfl rfl ?_
  refine g_geti hX gf_S_189 d_S_damagePart_24 (n := 27) rfl hq1 rfl ?_
  refine g_iload hX d_S_damagePart_27 (n := 29) rfl rfl ?_
  refine g_iadd hX d_S_damagePart_29 (n := 30) rfl ?_
  refine g_cVv hX [_, _, _, _] rfl 0 0 (c_D_add _ Γ ((σ q1 1) + x2) ((σ q1 2) + x3) ((σ q1 1) + x4) ((σ q1 2) + x5) σ) gw_S_241 rfl sh_9 rfl d_S_damagePart_30 (n := 33) rfl ⟨by decide, by decide⟩ ⟨by decide, by decide⟩ (Nat.le_of_ble_eq_true rfl) rfl rfl (fun u1 => ?_)
  exact g_vret hX d_S_damagePart_33 (by decide) (by decide)
def f_S_damagePart (q1 : Nat) (x2 : Int32) (x3 : Int32) (x4 : Int32) (x5 : Int32) (σ : Mem) : Option Mem := f_S_damagePart_0 σ q1 x2 x3 x4 x5
theorem c_S_damagePart (l : Launch) (Γ : GA) (q1 : Nat) (x2 : Int32) (x3 : Int32) (x4 : Int32) (x5 : Int32) (hq1 : gPn q1) (σ : Mem) : gM gqv l y_S_damagePart b_S_damagePart 6 none r_S_damagePart [.ref (Γ.2.1 0), .ref (Γ.2.1 q1), .int x2, .int x3, .int x4, .int x5] Γ σ (f_S_damagePart q1 x2 x3 x4 x5 σ) :=
  gM.of [some (.ref (Γ.2.1 0)), some (.ref (Γ.2.1 q1)), some (.int x2), some (.int x3), some (.int x4), some (.int x5)] (by decide) (Nat.le_of_ble_eq_true rfl) rfl rfl (fun κ hX _ => m_S_damagePart_0 hX σ q1 x2 x3 x4 x5 hq1)
/-! S_damageFrame -/
theorem d_S_damageFrame_0 : decode b_S_damageFrame 0 = .ok (.aload_n 0, 1) := by decide +kernel
theorem d_S_damageFrame_1 : decode b_S_damageFrame 1 = .ok (.aload_n 1, 1) := by decide +kernel
theorem d_S_damageFrame_2 : decode b_S_damageFrame 2 = .ok (.iconst 0, 1) := by decide +kernel
theorem d_S_damageFrame_3 : decode b_S_damageFrame 3 = .ok (.iconst 0, 1) := by decide +kernel
theorem d_S_damageFrame_4 : decode b_S_damageFrame 4 = .ok (.aload_n 1, 1) := by decide +kernel
theorem d_S_damageFrame_5 : decode b_S_damageFrame 5 = .ok (.getfield 98, 3) := by decide +kernel
theorem d_S_damageFrame_8 : decode b_S_damageFrame 8 = .ok (.aload_n 1, 1) := by decide +kernel
theorem d_S_damageFrame_9 : decode b_S_damageFrame 9 = .ok (.getfield 101, 3) := by decide +kernel
theorem d_S_damageFrame_12 : decode b_S_damageFrame 12 = .ok (.invokevirtual 137, 3) := by decide +kernel
theorem d_S_damageFrame_15 : decode b_S_damageFrame 15 = .ok (.return_, 1) := by decide +kernel
abbrev r_S_damageFrame : Room := ⟨4, 0, 0, 107⟩
def f_S_damageFrame_0 (σ : Mem) (q1 : Nat) : Option Mem :=
  gbv (f_S_damagePart q1 0 0 (σ q1 3) (σ q1 4) σ) fun u1 =>
  some u1
set_option maxRecDepth 100000 in
theorem m_S_damageFrame_0 {κ : GC} {Γ : GA} (hX : Gx κ Γ 2 b_S_damageFrame "PaneScreen" r_S_damageFrame none) (σ : Mem) (q1 : Nat) (hq1 : gPn q1) : GG κ Γ 2 (gQ gqv κ Γ r_S_damageFrame) 0 0 σ [some (.ref (Γ.2.1 0)), some (.ref (Γ.2.1 q1))] 0 [] (f_S_damageFrame_0 σ q1) := by
  unfold f_S_damageFrame_0
  refine g_aload_n hX 0 d_S_damageFrame_0 (n := 1) rfl rfl rfl ?_
  refine g_aload_n hX 1 d_S_damageFrame_1 (n := 2) rfl rfl rfl ?_
  refine g_iconst hX 0 d_S_damageFrame_2 (n := 3) rfl k_iconst_0 ?_
  refine g_iconst hX 0 d_S_damageFrame_3 (n := 4) rfl k_iconst_0 ?_
  refine g_aload_n hX 1 d_S_damageFrame_4 (n := 5) rfl rfl rfl ?_
  refine g_geti hX gf_S_98 d_S_damageFrame_5 (n := 8) rfl hq1 rfl ?_
  refine g_aload_n hX 1 d_S_damageFrame_8 (n := 9) rfl rfl rfl ?_
  refine g_geti hX gf_S_101 d_S_damageFrame_9 (n := 12) rfl hq1 rfl ?_
  refine g_cVv hX [_, _, _, _, _] rfl 0 0 (c_S_damagePart _ Γ q1 0 0 (σ q1 3) (σ q1 4) hq1 σ) gw_S_137 rfl sh_0 rfl d_S_damageFrame_12 (n := 15) rfl ⟨by decide, by decide⟩ ⟨by decide, by decide⟩ (Nat.le_of_ble_eq_true rfl) rfl rfl (fun u1 => ?_)
  exact g_vret hX d_S_damageFrame_15 (by decide) (by decide)
def f_S_damageFrame (q1 : Nat) (σ : Mem) : Option Mem := f_S_damageFrame_0 σ q1
theorem c_S_damageFrame (l : Launch) (Γ : GA) (q1 : Nat) (hq1 : gPn q1) (σ : Mem) : gM gqv l y_S_damageFrame b_S_damageFrame 2 none r_S_damageFrame [.ref (Γ.2.1 0), .ref (Γ.2.1 q1)] Γ σ (f_S_damageFrame q1 σ) :=
  gM.of [some (.ref (Γ.2.1 0)), some (.ref (Γ.2.1 q1))] (by decide) (Nat.le_of_ble_eq_true rfl) rfl rfl (fun κ hX _ => m_S_damageFrame_0 hX σ q1 hq1)
