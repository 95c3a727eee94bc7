/-! L_open -/
theorem d_L_open_0 : decode b_L_open 0 = .ok (.aload 5, 2) := by decide +kernel
theorem d_L_open_2 : decode b_L_open 2 = .ok (.iconst 0, 1) := by decide +kernel
theorem d_L_open_3 : decode b_L_open 3 = .ok (.aload_n 0, 1) := by decide +kernel
theorem d_L_open_4 : decode b_L_open 4 = .ok (.iload_n 1, 1) := by decide +kernel
theorem d_L_open_5 : decode b_L_open 5 = .ok (.iload_n 2, 1) := by decide +kernel
theorem d_L_open_6 : decode b_L_open 6 = .ok (.iload_n 3, 1) := by decide +kernel
theorem d_L_open_7 : decode b_L_open 7 = .ok (.iload 4, 2) := by decide +kernel
theorem d_L_open_9 : decode b_L_open 9 = .ok (.invokevirtual 7, 3) := by decide +kernel
theorem d_L_open_12 : decode b_L_open 12 = .ok (.i2l, 1) := by decide +kernel
theorem d_L_open_13 : decode b_L_open 13 = .ok (.lastore, 1) := by decide +kernel
theorem d_L_open_14 : decode b_L_open 14 = .ok (.goto 11, 3) := by decide +kernel
theorem d_L_open_17 : decode b_L_open 17 = .ok (.astore 6, 2) := by decide +kernel
theorem d_L_open_19 : decode b_L_open 19 = .ok (.iconst 1, 1) := by decide +kernel
theorem d_L_open_20 : decode b_L_open 20 = .ok (.ireturn, 1) := by decide +kernel
theorem d_L_open_21 : decode b_L_open 21 = .ok (.astore 6, 2) := by decide +kernel
theorem d_L_open_23 : decode b_L_open 23 = .ok (.iconst 2, 1) := by decide +kernel
theorem d_L_open_24 : decode b_L_open 24 = .ok (.ireturn, 1) := by decide +kernel
theorem d_L_open_25 : decode b_L_open 25 = .ok (.iconst 0, 1) := by decide +kernel
theorem d_L_open_26 : decode b_L_open 26 = .ok (.ireturn, 1) := by decide +kernel
abbrev r_L_open : Room := ⟨8, 3, 18, 154⟩
def f_L_open_0 (σ : Mem) (x1 : Int32) (x2 : Int32) (x3 : Int32) (x4 : Int32) : Option (Int32 × Mem) :=
  gbx (f_S_open x1 x2 x3 x4 σ) (fun r2 u1 =>
    gbm (m2 u1 40 (0 : Int32).toNatClampNeg r2) fun u3 =>
    some (0, u3)
    ) (fun E u => if E = "java/lang/IllegalArgumentException" then some (1, u) else if E = "java/lang/IllegalStateException" then some (2, u) else none)
set_option maxRecDepth 100000 in
theorem m_L_open_0 {κ : GC} {Γ : GA} (hX : Gx κ Γ 7 b_L_open "PaneScreenLaw" r_L_open (some .int)) (hTab : κ.2.2.2.2.2.2.2.2.2.exceptionTable.toList = tableOf [(0, 14, 17, 13), (0, 14, 21, 15)]) (hT : κ.2.1.stackTraces = false) (σ : Mem) (x1 : Int32) (x2 : Int32) (x3 : Int32) (x4 : Int32) : GG κ Γ 7 (gQ gqi κ Γ r_L_open) 0 0 σ [some (.ref (Γ.2.1 0)), some (.int x1), some (.int x2), some (.int x3), some (.int x4), some (.ref (Γ.2.1 40)), none] 0 [] (f_L_open_0 σ x1 x2 x3 x4) := by
  unfold f_L_open_0
  refine g_aload hX d_L_open_0 (n := 2) rfl rfl ?_
  refine g_iconst hX 0 d_L_open_2 (n := 3) rfl k_iconst_0 ?_
  refine g_aload_n hX 0 d_L_open_3 (n := 4) rfl rfl rfl ?_
  refine g_iload_n hX 1 d_L_open_4 (n := 5) rfl rfl rfl ?_
  refine g_iload_n hX 2 d_L_open_5 (n := 6) rfl rfl rfl ?_
  refine g_iload_n hX 3 d_L_open_6 (n := 7) rfl rfl rfl ?_
  refine g_iload hX d_L_open_7 (n := 9) rfl rfl ?_
  refine g_ti hX hTab [_, _, _, _] rfl 3 18 (c_S_open _ hT Γ x1 x2 x3 x4 σ) gw_L_7 rfl sh_0 rfl d_L_open_9 (n := 12) rfl ⟨by decide, by decide⟩ ⟨by decide, by decide⟩ (Nat.le_of_ble_eq_true rfl) rfl rfl (fun r2 u1 => ?_) (fun E u hk => ?_)
  · refine g_i2l hX d_L_open_12 (n := 13) rfl ?_
    refine g_lastK hX r2 rfl (by decide) d_L_open_13 (n := 14) rfl sh_40 ?_
    refine g_mem (fun u3 => ?_)
    refine g_goto hX 25 d_L_open_14 rfl ?_
    refine g_iconst hX 0 d_L_open_25 (n := 26) rfl k_iconst_0 ?_
    exact g_iret hX d_L_open_26 (by decide) (by decide)
  · by_cases e0 : E = "java/lang/IllegalArgumentException"
    · subst e0
      refine ⟨17, ⟨[], ⟨0, 14, 17, 13⟩, [⟨0, 14, 21, 15⟩], "java/lang/IllegalArgumentException", rfl, (fun z hz => by cases hz), rfl, by decide, gc_L_13, hX.2.2.2.2.2.2.2.2.2.2.2.2.2.1 _ (by decide), rfl⟩, fun q9 => ?_⟩
      refine g_eq (o' := some (1, u)) (by simp) ?_
      refine g_astore hX [_, _, _, _, _, _, _] d_L_open_17 (n := 19) rfl (by decide) rfl ?_
      refine g_iconst hX 1 d_L_open_19 (n := 20) rfl k_iconst_1 ?_
      exact g_iret hX d_L_open_20 (by decide) (by decide)
    · skip
      by_cases e1 : E = "java/lang/IllegalStateException"
      · subst e1
        refine ⟨21, ⟨[⟨0, 14, 17, 13⟩], ⟨0, 14, 21, 15⟩, [], "java/lang/IllegalStateException", rfl, (fun z hz => by
            rcases List.mem_singleton.1 hz with rfl
            exact Or.inr ⟨by decide, "java/lang/IllegalArgumentException", gc_L_13, hX.2.2.2.2.2.2.2.2.2.2.2.2.2.2 ("java/lang/IllegalStateException", "java/lang/IllegalArgumentException") (by decide)⟩), rfl, by decide, gc_L_15, hX.2.2.2.2.2.2.2.2.2.2.2.2.2.1 _ (by decide), rfl⟩, fun q9 => ?_⟩
        refine g_eq (o' := some (2, u)) (by simp) ?_
        refine g_astore hX [_, _, _, _, _, _, _] d_L_open_21 (n := 23) rfl (by decide) rfl ?_
        refine g_iconst hX 2 d_L_open_23 (n := 24) rfl k_iconst_2 ?_
        exact g_iret hX d_L_open_24 (by decide) (by decide)
      · exact absurd (by simp only [if_neg e0, if_neg e1]) hk
def f_L_open (x1 : Int32) (x2 : Int32) (x3 : Int32) (x4 : Int32) (σ : Mem) : Option (Int32 × Mem) := f_L_open_0 σ x1 x2 x3 x4
theorem c_L_open (l : Launch) (hT : l.stackTraces = false) (Γ : GA) (x1 : Int32) (x2 : Int32) (x3 : Int32) (x4 : Int32) (σ : Mem) : gH l y_L_open b_L_open 7 [(0, 14, 17, 13), (0, 14, 21, 15)] r_L_open [.ref (Γ.2.1 0), .int x1, .int x2, .int x3, .int x4, .ref (Γ.2.1 40)] Γ σ (f_L_open x1 x2 x3 x4 σ) :=
  gH.of [some (.ref (Γ.2.1 0)), some (.int x1), some (.int x2), some (.int x3), some (.int x4), some (.ref (Γ.2.1 40)), none] (by decide) (Nat.le_of_ble_eq_true rfl) rfl rfl (fun κ hX hκ hTab => m_L_open_0 hX hTab (by rw [hκ]; exact hT) σ x1 x2 x3 x4)
/-! L_close -/
theorem d_L_close_0 : decode b_L_close 0 = .ok (.aload_n 0, 1) := by decide +kernel
theorem d_L_close_1 : decode b_L_close 1 = .ok (.iload_n 1, 1) := by decide +kernel
theorem d_L_close_2 : decode b_L_close 2 = .ok (.invokevirtual 17, 3) := by decide +kernel
theorem d_L_close_5 : decode b_L_close 5 = .ok (.goto 6, 3) := by decide +kernel
theorem d_L_close_8 : decode b_L_close 8 = .ok (.astore_n 2, 1) := by decide +kernel
theorem d_L_close_9 : decode b_L_close 9 = .ok (.iconst 1, 1) := by decide +kernel
theorem d_L_close_10 : decode b_L_close 10 = .ok (.ireturn, 1) := by decide +kernel
theorem d_L_close_11 : decode b_L_close 11 = .ok (.iconst 0, 1) := by decide +kernel
theorem d_L_close_12 : decode b_L_close 12 = .ok (.ireturn, 1) := by decide +kernel
abbrev r_L_close : Room := ⟨8, 1, 6, 150⟩
def f_L_close_0 (σ : Mem) (x1 : Int32) : Option (Int32 × Mem) :=
  gbx (f_S_close x1 σ) (fun _ u1 =>
    some (0, u1)
    ) (fun E u => if E = "java/util/NoSuchElementException" then some (1, u) else none)
set_option maxRecDepth 100000 in
theorem m_L_close_0 {κ : GC} {Γ : GA} (hX : Gx κ Γ 3 b_L_close "PaneScreenLaw" r_L_close (some .int)) (hTab : κ.2.2.2.2.2.2.2.2.2.exceptionTable.toList = tableOf [(0, 5, 8, 21)]) (hT : κ.2.1.stackTraces = false) (σ : Mem) (x1 : Int32) : GG κ Γ 3 (gQ gqi κ Γ r_L_close) 0 0 σ [some (.ref (Γ.2.1 0)), some (.int x1), none] 0 [] (f_L_close_0 σ x1) := by
  unfold f_L_close_0
  refine g_aload_n hX 0 d_L_close_0 (n := 1) rfl rfl rfl ?_
  refine g_iload_n hX 1 d_L_close_1 (n := 2) rfl rfl rfl ?_
  refine g_tv hX hTab [_] rfl 1 6 (c_S_close _ hT Γ x1 σ) gw_L_17 rfl sh_0 rfl d_L_close_2 (n := 5) rfl ⟨by decide, by decide⟩ ⟨by decide, by decide⟩ (Nat.le_of_ble_eq_true rfl) rfl rfl (fun _ u1 => ?_) (fun E u hk => ?_)
  · refine g_goto hX 11 d_L_close_5 rfl ?_
    refine g_iconst hX 0 d_L_close_11 (n := 12) rfl k_iconst_0 ?_
    exact g_iret hX d_L_close_12 (by decide) (by decide)
  · by_cases e0 : E = "java/util/NoSuchElementException"
    · subst e0
      refine ⟨8, ⟨[], ⟨0, 5, 8, 21⟩, [], "java/util/NoSuchElementException", rfl, (fun z hz => by cases hz), rfl, by decide, gc_L_21, hX.2.2.2.2.2.2.2.2.2.2.2.2.2.1 _ (by decide), rfl⟩, fun q9 => ?_⟩
      refine g_eq (o' := some (1, u)) (by simp) ?_
      refine g_astore_n hX 2 [_, _, _] d_L_close_8 (n := 9) rfl rfl (by decide) rfl ?_
      refine g_iconst hX 1 d_L_close_9 (n := 10) rfl k_iconst_1 ?_
      exact g_iret hX d_L_close_10 (by decide) (by decide)
    · exact absurd (by simp only [if_neg e0]) hk
def f_L_close (x1 : Int32) (σ : Mem) : Option (Int32 × Mem) := f_L_close_0 σ x1
theorem c_L_close (l : Launch) (hT : l.stackTraces = false) (Γ : GA) (x1 : Int32) (σ : Mem) : gH l y_L_close b_L_close 3 [(0, 5, 8, 21)] r_L_close [.ref (Γ.2.1 0), .int x1] Γ σ (f_L_close x1 σ) :=
  gH.of [some (.ref (Γ.2.1 0)), some (.int x1), none] (by decide) (Nat.le_of_ble_eq_true rfl) rfl rfl (fun κ hX hκ hTab => m_L_close_0 hX hTab (by rw [hκ]; exact hT) σ x1)
/-! L_move -/
theorem d_L_move_0 : decode b_L_move 0 = .ok (.aload_n 0, 1) := by decide +kernel
theorem d_L_move_1 : decode b_L_move 1 = .ok (.iload_n 1, 1) := by decide +kernel
theorem d_L_move_2 : decode b_L_move 2 = .ok (.iload_n 2, 1) := by decide +kernel
theorem d_L_move_3 : decode b_L_move 3 = .ok (.iload_n 3, 1) := by decide +kernel
theorem d_L_move_4 : decode b_L_move 4 = .ok (.invokevirtual 23, 3) := by decide +kernel
theorem d_L_move_7 : decode b_L_move 7 = .ok (.goto 11, 3) := by decide +kernel
theorem d_L_move_10 : decode b_L_move 10 = .ok (.astore 4, 2) := by decide +kernel
theorem d_L_move_12 : decode b_L_move 12 = .ok (.iconst 1, 1) := by decide +kernel
theorem d_L_move_13 : decode b_L_move 13 = .ok (.ireturn, 1) := by decide +kernel
theorem d_L_move_14 : decode b_L_move 14 = .ok (.astore 4, 2) := by decide +kernel
theorem d_L_move_16 : decode b_L_move 16 = .ok (.iconst 2, 1) := by decide +kernel
theorem d_L_move_17 : decode b_L_move 17 = .ok (.ireturn, 1) := by decide +kernel
theorem d_L_move_18 : decode b_L_move 18 = .ok (.iconst 0, 1) := by decide +kernel
theorem d_L_move_19 : decode b_L_move 19 = .ok (.ireturn, 1) := by decide +kernel
abbrev r_L_move : Room := ⟨8, 2, 12, 152⟩
def f_L_move_0 (σ : Mem) (x1 : Int32) (x2 : Int32) (x3 : Int32) : Option (Int32 × Mem) :=
  gbx (f_S_move x1 x2 x3 σ) (fun _ u1 =>
    some (0, u1)
    ) (fun E u => if E = "java/util/NoSuchElementException" then some (1, u) else if E = "java/lang/IllegalArgumentException" then some (2, u) else none)
set_option maxRecDepth 100000 in
theorem m_L_move_0 {κ : GC} {Γ : GA} (hX : Gx κ Γ 5 b_L_move "PaneScreenLaw" r_L_move (some .int)) (hTab : κ.2.2.2.2.2.2.2.2.2.exceptionTable.toList = tableOf [(0, 7, 10, 21), (0, 7, 14, 13)]) (hT : κ.2.1.stackTraces = false) (σ : Mem) (x1 : Int32) (x2 : Int32) (x3 : Int32) : GG κ Γ 5 (gQ gqi κ Γ r_L_move) 0 0 σ [some (.ref (Γ.2.1 0)), some (.int x1), some (.int x2), some (.int x3), none] 0 [] (f_L_move_0 σ x1 x2 x3) := by
  unfold f_L_move_0
  refine g_aload_n hX 0 d_L_move_0 (n := 1) rfl rfl rfl ?_
  refine g_iload_n hX 1 d_L_move_1 (n := 2) rfl rfl rfl ?_
  refine g_iload_n hX 2 d_L_move_2 (n := 3) rfl rfl rfl ?_
  refine g_iload_n hX 3 d_L_move_3 (n := 4) rfl rfl rfl ?_
  refine g_tv hX hTab [_, _, _] rfl 2 12 (c_S_move _ hT Γ x1 x2 x3 σ) gw_L_23 rfl sh_0 rfl d_L_move_4 (n := 7) rfl ⟨by decide, by decide⟩ ⟨by decide, by decide⟩ (Nat.le_of_ble_eq_true rfl) rfl rfl (fun _ u1 => ?_) (fun E u hk => ?_)
  · refine g_goto hX 18 d_L_move_7 rfl ?_
    refine g_iconst hX 0 d_L_move_18 (n := 19) rfl k_iconst_0 ?_
    exact g_iret hX d_L_move_19 (by decide) (by decide)
  · by_cases e0 : E = "java/util/NoSuchElementException"
    · subst e0
      refine ⟨10, ⟨[], ⟨0, 7, 10, 21⟩, [⟨0, 7, 14, 13⟩], "java/util/NoSuchElementException", rfl, (fun z hz => by cases hz), rfl, by decide, gc_L_21, hX.2.2.2.2.2.2.2.2.2.2.2.2.2.1 _ (by decide), rfl⟩, fun q9 => ?_⟩
      refine g_eq (o' := some (1, u)) (by simp) ?_
      refine g_astore hX [_, _, _, _, _] d_L_move_10 (n := 12) rfl (by decide) rfl ?_
      refine g_iconst hX 1 d_L_move_12 (n := 13) rfl k_iconst_1 ?_
      exact g_iret hX d_L_move_13 (by decide) (by decide)
    · skip
      by_cases e1 : E = "java/lang/IllegalArgumentException"
      · subst e1
        refine ⟨14, ⟨[⟨0, 7, 10, 21⟩], ⟨0, 7, 14, 13⟩, [], "java/lang/IllegalArgumentException", rfl, (fun z hz => by
            rcases List.mem_singleton.1 hz with rfl
            exact Or.inr ⟨by decide, "java/util/NoSuchElementException", gc_L_21, hX.2.2.2.2.2.2.2.2.2.2.2.2.2.2 ("java/lang/IllegalArgumentException", "java/util/NoSuchElementException") (by decide)⟩), rfl, by decide, gc_L_13, hX.2.2.2.2.2.2.2.2.2.2.2.2.2.1 _ (by decide), rfl⟩, fun q9 => ?_⟩
        refine g_eq (o' := some (2, u)) (by simp) ?_
        refine g_astore hX [_, _, _, _, _] d_L_move_14 (n := 16) rfl (by decide) rfl ?_
        refine g_iconst hX 2 d_L_move_16 (n := 17) rfl k_iconst_2 ?_
        exact g_iret hX d_L_move_17 (by decide) (by decide)
      · exact absurd (by simp only [if_neg e0, if_neg e1]) hk
def f_L_move (x1 : Int32) (x2 : Int32) (x3 : Int32) (σ : Mem) : Option (Int32 × Mem) := f_L_move_0 σ x1 x2 x3
theorem c_L_move (l : Launch) (hT : l.stackTraces = false) (Γ : GA) (x1 : Int32) (x2 : Int32) (x3 : Int32) (σ : Mem) : gH l y_L_move b_L_move 5 [(0, 7, 10, 21), (0, 7, 14, 13)] r_L_move [.ref (Γ.2.1 0), .int x1, .int x2, .int x3] Γ σ (f_L_move x1 x2 x3 σ) :=
  gH.of [some (.ref (Γ.2.1 0)), some (.int x1), some (.int x2), some (.int x3), none] (by decide) (Nat.le_of_ble_eq_true rfl) rfl rfl (fun κ hX hκ hTab => m_L_move_0 hX hTab (by rw [hκ]; exact hT) σ x1 x2 x3)
/-! L_raise -/
theorem d_L_raise_0 : decode b_L_raise 0 = .ok (.aload_n 3, 1) := by decide +kernel
theorem d_L_raise_1 : decode b_L_raise 1 = .ok (.iconst 0, 1) := by decide +kernel
theorem d_L_raise_2 : decode b_L_raise 2 = .ok (.aload_n 0, 1) := by decide +kernel
theorem d_L_raise_3 : decode b_L_raise 3 = .ok (.iload_n 1, 1) := by decide +kernel
theorem d_L_raise_4 : decode b_L_raise 4 = .ok (.iload_n 2, 1) := by decide +kernel
theorem d_L_raise_5 : decode b_L_raise 5 = .ok (.invokevirtual 27, 3) := by decide +kernel
theorem d_L_raise_8 : decode b_L_raise 8 = .ok (.ifCond .eq 7, 3) := by decide +kernel
theorem d_L_raise_11 : decode b_L_raise 11 = .ok (.lconst 1, 1) := by decide +kernel
theorem d_L_raise_12 : decode b_L_raise 12 = .ok (.goto 4, 3) := by decide +kernel
theorem d_L_raise_15 : decode b_L_raise 15 = .ok (.lconst 0, 1) := by decide +kernel
theorem d_L_raise_16 : decode b_L_raise 16 = .ok (.lastore, 1) := by decide +kernel
theorem d_L_raise_17 : decode b_L_raise 17 = .ok (.goto 7, 3) := by decide +kernel
theorem d_L_raise_20 : decode b_L_raise 20 = .ok (.astore 4, 2) := by decide +kernel
theorem d_L_raise_22 : decode b_L_raise 22 = .ok (.iconst 1, 1) := by decide +kernel
theorem d_L_raise_23 : decode b_L_raise 23 = .ok (.ireturn, 1) := by decide +kernel
theorem d_L_raise_24 : decode b_L_raise 24 = .ok (.iconst 0, 1) := by decide +kernel
theorem d_L_raise_25 : decode b_L_raise 25 = .ok (.ireturn, 1) := by decide +kernel
abbrev r_L_raise : Room := ⟨8, 1, 6, 175⟩
def f_L_raise_16 (σ : Mem) (s0 : Int32) : Option (Int32 × Mem) :=
  gbm (m2 σ 40 (0 : Int32).toNatClampNeg s0) fun u1 =>
  some (0, u1)
set_option maxRecDepth 100000 in
theorem m_L_raise_16 {κ : GC} {Γ : GA} (hX : Gx κ Γ 5 b_L_raise "PaneScreenLaw" r_L_raise (some .int)) (hTab : κ.2.2.2.2.2.2.2.2.2.exceptionTable.toList = tableOf [(0, 17, 20, 21)]) (hT : κ.2.1.stackTraces = false) (σ : Mem) (s0 : Int32) : GG κ Γ 5 (gQ gqi κ Γ r_L_raise) 1 6 σ [none, none, none, none, none] 16 [.long (s0 : Int32).toInt64, .int 0, .ref (Γ.2.1 40)] (f_L_raise_16 σ s0) := by
  unfold f_L_raise_16
  refine g_lastK hX s0 rfl (by decide) d_L_raise_16 (n := 17) rfl sh_40 ?_
  refine g_mem (fun u1 => ?_)
  refine g_goto hX 24 d_L_raise_17 rfl ?_
  refine g_iconst hX 0 d_L_raise_24 (n := 25) rfl k_iconst_0 ?_
  exact g_iret hX d_L_raise_25 (by decide) (by decide)
def f_L_raise_0 (σ : Mem) (x1 : Int32) (x2 : Int32) : Option (Int32 × Mem) :=
  gbx (f_S_raise x1 x2 σ) (fun r2 u1 =>
    if r2 = 0 then
      f_L_raise_16 u1 (0 : Int32)
    else
      f_L_raise_16 u1 (1 : Int32)
    ) (fun E u => if E = "java/util/NoSuchElementException" then some (1, u) else none)
set_option maxRecDepth 100000 in
theorem m_L_raise_0 {κ : GC} {Γ : GA} (hX : Gx κ Γ 5 b_L_raise "PaneScreenLaw" r_L_raise (some .int)) (hTab : κ.2.2.2.2.2.2.2.2.2.exceptionTable.toList = tableOf [(0, 17, 20, 21)]) (hT : κ.2.1.stackTraces = false) (σ : Mem) (x1 : Int32) (x2 : Int32) : GG κ Γ 5 (gQ gqi κ Γ r_L_raise) 0 0 σ [some (.ref (Γ.2.1 0)), some (.int x1), some (.int x2), some (.ref (Γ.2.1 40)), none] 0 [] (f_L_raise_0 σ x1 x2) := by
  unfold f_L_raise_0
  refine g_aload_n hX 3 d_L_raise_0 (n := 1) rfl rfl rfl ?_
  refine g_iconst hX 0 d_L_raise_1 (n := 2) rfl k_iconst_0 ?_
  refine g_aload_n hX 0 d_L_raise_2 (n := 3) rfl rfl rfl ?_
  refine g_iload_n hX 1 d_L_raise_3 (n := 4) rfl rfl rfl ?_
  refine g_iload_n hX 2 d_L_raise_4 (n := 5) rfl rfl rfl ?_
  refine g_ti hX hTab [_, _] rfl 1 6 (c_S_raise _ hT Γ x1 x2 σ) gw_L_27 rfl sh_0 rfl d_L_raise_5 (n := 8) rfl ⟨by decide, by decide⟩ ⟨by decide, by decide⟩ (Nat.le_of_ble_eq_true rfl) rfl rfl (fun r2 u1 => ?_) (fun E u hk => ?_)
  · refine g_if_eq hX 15 d_L_raise_8 (n := 11) rfl rfl ?_ ?_
    · refine g_lconst hX (0 : Int32).toInt64 d_L_raise_15 (n := 16) rfl (by decide) ?_
      exact (g_sub (lw := [none, none, none, none, none]) (True.intro) (m_L_raise_16 hX hTab hT u1 (0 : Int32)))
    · refine g_lconst hX (1 : Int32).toInt64 d_L_raise_11 (n := 12) rfl (by decide) ?_
      refine g_goto hX 16 d_L_raise_12 rfl ?_
      exact (g_sub (lw := [none, none, none, none, none]) (True.intro) (m_L_raise_16 hX hTab hT u1 (1 : Int32)))
  · by_cases e0 : E = "java/util/NoSuchElementException"
    · subst e0
      refine ⟨20, ⟨[], ⟨0, 17, 20, 21⟩, [], "java/util/NoSuchElementException", rfl, (fun z hz => by cases hz), rfl, by decide, gc_L_21, hX.2.2.2.2.2.2.2.2.2.2.2.2.2.1 _ (by decide), rfl⟩, fun q9 => ?_⟩
      refine g_eq (o' := some (1, u)) (by simp) ?_
      refine g_astore hX [_, _, _, _, _] d_L_raise_20 (n := 22) rfl (by decide) rfl ?_
      refine g_iconst hX 1 d_L_raise_22 (n := 23) rfl k_iconst_1 ?_
      exact g_iret hX d_L_raise_23 (by decide) (by decide)
    · exact absurd (by simp only [if_neg e0]) hk
def f_L_raise (x1 : Int32) (x2 : Int32) (σ : Mem) : Option (Int32 × Mem) := f_L_raise_0 σ x1 x2
theorem c_L_raise (l : Launch) (hT : l.stackTraces = false) (Γ : GA) (x1 : Int32) (x2 : Int32) (σ : Mem) : gH l y_L_raise b_L_raise 5 [(0, 17, 20, 21)] r_L_raise [.ref (Γ.2.1 0), .int x1, .int x2, .ref (Γ.2.1 40)] Γ σ (f_L_raise x1 x2 σ) :=
  gH.of [some (.ref (Γ.2.1 0)), some (.int x1), some (.int x2), some (.ref (Γ.2.1 40)), none] (by decide) (Nat.le_of_ble_eq_true rfl) rfl rfl (fun κ hX hκ hTab => m_L_raise_0 hX hTab (by rw [hκ]; exact hT) σ x1 x2)
/-! L_plot -/
theorem d_L_plot_0 : decode b_L_plot 0 = .ok (.aload 5, 2) := by decide +kernel
theorem d_L_plot_2 : decode b_L_plot 2 = .ok (.iconst 0, 1) := by decide +kernel
theorem d_L_plot_3 : decode b_L_plot 3 = .ok (.aload_n 0, 1) := by decide +kernel
theorem d_L_plot_4 : decode b_L_plot 4 = .ok (.iload_n 1, 1) := by decide +kernel
theorem d_L_plot_5 : decode b_L_plot 5 = .ok (.iload_n 2, 1) := by decide +kernel
theorem d_L_plot_6 : decode b_L_plot 6 = .ok (.iload_n 3, 1) := by decide +kernel
theorem d_L_plot_7 : decode b_L_plot 7 = .ok (.iload 4, 2) := by decide +kernel
theorem d_L_plot_9 : decode b_L_plot 9 = .ok (.invokevirtual 31, 3) := by decide +kernel
theorem d_L_plot_12 : decode b_L_plot 12 = .ok (.ifCond .eq 7, 3) := by decide +kernel
theorem d_L_plot_15 : decode b_L_plot 15 = .ok (.lconst 1, 1) := by decide +kernel
theorem d_L_plot_16 : decode b_L_plot 16 = .ok (.goto 4, 3) := by decide +kernel
theorem d_L_plot_19 : decode b_L_plot 19 = .ok (.lconst 0, 1) := by decide +kernel
theorem d_L_plot_20 : decode b_L_plot 20 = .ok (.lastore, 1) := by decide +kernel
theorem d_L_plot_21 : decode b_L_plot 21 = .ok (.goto 11, 3) := by decide +kernel
theorem d_L_plot_24 : decode b_L_plot 24 = .ok (.astore 6, 2) := by decide +kernel
theorem d_L_plot_26 : decode b_L_plot 26 = .ok (.iconst 1, 1) := by decide +kernel
theorem d_L_plot_27 : decode b_L_plot 27 = .ok (.ireturn, 1) := by decide +kernel
theorem d_L_plot_28 : decode b_L_plot 28 = .ok (.astore 6, 2) := by decide +kernel
theorem d_L_plot_30 : decode b_L_plot 30 = .ok (.iconst 2, 1) := by decide +kernel
theorem d_L_plot_31 : decode b_L_plot 31 = .ok (.ireturn, 1) := by decide +kernel
theorem d_L_plot_32 : decode b_L_plot 32 = .ok (.iconst 0, 1) := by decide +kernel
theorem d_L_plot_33 : decode b_L_plot 33 = .ok (.ireturn, 1) := by decide +kernel
abbrev r_L_plot : Room := ⟨8, 2, 12, 132⟩
def f_L_plot_20 (σ : Mem) (s0 : Int32) : Option (Int32 × Mem) :=
  gbm (m2 σ 40 (0 : Int32).toNatClampNeg s0) fun u1 =>
  some (0, u1)
set_option maxRecDepth 100000 in
theorem m_L_plot_20 {κ : GC} {Γ : GA} (hX : Gx κ Γ 7 b_L_plot "PaneScreenLaw" r_L_plot (some .int)) (hTab : κ.2.2.2.2.2.2.2.2.2.exceptionTable.toList = tableOf [(0, 21, 24, 21), (0, 21, 28, 13)]) (hT : κ.2.1.stackTraces = false) (σ : Mem) (s0 : Int32) : GG κ Γ 7 (gQ gqi κ Γ r_L_plot) 2 12 σ [none, none, none, none, none, none, none] 20 [.long (s0 : Int32).toInt64, .int 0, .ref (Γ.2.1 40)] (f_L_plot_20 σ s0) := by
  unfold f_L_plot_20
  refine g_lastK hX s0 rfl (by decide) d_L_plot_20 (n := 21) rfl sh_40 ?_
  refine g_mem (fun u1 => ?_)
  refine g_goto hX 32 d_L_plot_21 rfl ?_
  refine g_iconst hX 0 d_L_plot_32 (n := 33) rfl k_iconst_0 ?_
  exact g_iret hX d_L_plot_33 (by decide) (by decide)
def f_L_plot_0 (σ : Mem) (x1 : Int32) (x2 : Int32) (x3 : Int32) (x4 : Int32) : Option (Int32 × Mem) :=
  gbx (f_S_plot x1 x2 x3 x4 σ) (fun r2 u1 =>
    if r2 = 0 then
      f_L_plot_20 u1 (0 : Int32)
    else
      f_L_plot_20 u1 (1 : Int32)
    ) (fun E u => if E = "java/util/NoSuchElementException" then some (1, u) else if E = "java/lang/IllegalArgumentException" then some (2, u) else none)
set_option maxRecDepth 100000 in
theorem m_L_plot_0 {κ : GC} {Γ : GA} (hX : Gx κ Γ 7 b_L_plot "PaneScreenLaw" r_L_plot (some .int)) (hTab : κ.2.2.2.2.2.2.2.2.2.exceptionTable.toList = tableOf [(0, 21, 24, 21), (0, 21, 28, 13)]) (hT : κ.2.1.stackTraces = false) (σ : Mem) (x1 : Int32) (x2 : Int32) (x3 : Int32) (x4 : Int32) : GG κ Γ 7 (gQ gqi κ Γ r_L_plot) 0 0 σ [some (.ref (Γ.2.1 0)), some (.int x1), some (.int x2), some (.int x3), some (.int x4), some (.ref (Γ.2.1 40)), none] 0 [] (f_L_plot_0 σ x1 x2 x3 x4) := by
  unfold f_L_plot_0
  refine g_aload hX d_L_plot_0 (n := 2) rfl rfl ?_
  refine g_iconst hX 0 d_L_plot_2 (n := 3) rfl k_iconst_0 ?_
  refine g_aload_n hX 0 d_L_plot_3 (n := 4) rfl rfl rfl ?_
  refine g_iload_n hX 1 d_L_plot_4 (n := 5) rfl rfl rfl ?_
  refine g_iload_n hX 2 d_L_plot_5 (n := 6) rfl rfl rfl ?_
  refine g_iload_n hX 3 d_L_plot_6 (n := 7) rfl rfl rfl ?_
  refine g_iload hX d_L_plot_7 (n := 9) rfl rfl ?_
  refine g_ti hX hTab [_, _, _, _] rfl 2 12 (c_S_plot _ hT Γ x1 x2 x3 x4 σ) gw_L_31 rfl sh_0 rfl d_L_plot_9 (n := 12) rfl ⟨by decide, by decide⟩ ⟨by decide, by decide⟩ (Nat.le_of_ble_eq_true rfl) rfl rfl (fun r2 u1 => ?_) (fun E u hk => ?_)
  · refine g_if_eq hX 19 d_L_plot_12 (n := 15) rfl rfl ?_ ?_
    · refine g_lconst hX (0 : Int32).toInt64 d_L_plot_19 (n := 20) rfl (by decide) ?_
      exact (g_sub (lw := [none, none, none, none, none, none, none]) (True.intro) (m_L_plot_20 hX hTab hT u1 (0 : Int32)))
    · refine g_lconst hX (1 : Int32).toInt64 d_L_plot_15 (n := 16) rfl (by decide) ?_
      refine g_goto hX 20 d_L_plot_16 rfl ?_
      exact (g_sub (lw := [none, none, none, none, none, none, none]) (True.intro) (m_L_plot_20 hX hTab hT u1 (1 : Int32)))
  · by_cases e0 : E = "java/util/NoSuchElementException"
    · subst e0
      refine ⟨24, ⟨[], ⟨0, 21, 24, 21⟩, [⟨0, 21, 28, 13⟩], "java/util/NoSuchElementException", rfl, (fun z hz => by cases hz), rfl, by decide, gc_L_21, hX.2.2.2.2.2.2.2.2.2.2.2.2.2.1 _ (by decide), rfl⟩, fun q9 => ?_⟩
      refine g_eq (o' := some (1, u)) (by simp) ?_
      refine g_astore hX [_, _, _, _, _, _, _] d_L_plot_24 (n := 26) rfl (by decide) rfl ?_
      refine g_iconst hX 1 d_L_plot_26 (n := 27) rfl k_iconst_1 ?_
      exact g_iret hX d_L_plot_27 (by decide) (by decide)
    · skip
      by_cases e1 : E = "java/lang/IllegalArgumentException"
      · subst e1
        refine ⟨28, ⟨[⟨0, 21, 24, 21⟩], ⟨0, 21, 28, 13⟩, [], "java/lang/IllegalArgumentException", rfl, (fun z hz => by
            rcases List.mem_singleton.1 hz with rfl
            exact Or.inr ⟨by decide, "java/util/NoSuchElementException", gc_L_21, hX.2.2.2.2.2.2.2.2.2.2.2.2.2.2 ("java/lang/IllegalArgumentException", "java/util/NoSuchElementException") (by decide)⟩), rfl, by decide, gc_L_13, hX.2.2.2.2.2.2.2.2.2.2.2.2.2.1 _ (by decide), rfl⟩, fun q9 => ?_⟩
        refine g_eq (o' := some (2, u)) (by simp) ?_
        refine g_astore hX [_, _, _, _, _, _, _] d_L_plot_28 (n := 30) rfl (by decide) rfl ?_
        refine g_iconst hX 2 d_L_plot_30 (n := 31) rfl k_iconst_2 ?_
        exact g_iret hX d_L_plot_31 (by decide) (by decide)
      · exact absurd (by simp only [if_neg e0, if_neg e1]) hk
def f_L_plot (x1 : Int32) (x2 : Int32) (x3 : Int32) (x4 : Int32) (σ : Mem) : Option (Int32 × Mem) := f_L_plot_0 σ x1 x2 x3 x4
theorem c_L_plot (l : Launch) (hT : l.stackTraces = false) (Γ : GA) (x1 : Int32) (x2 : Int32) (x3 : Int32) (x4 : Int32) (σ : Mem) : gH l y_L_plot b_L_plot 7 [(0, 21, 24, 21), (0, 21, 28, 13)] r_L_plot [.ref (Γ.2.1 0), .int x1, .int x2, .int x3, .int x4, .ref (Γ.2.1 40)] Γ σ (f_L_plot x1 x2 x3 x4 σ) :=
  gH.of [some (.ref (Γ.2.1 0)), some (.int x1), some (.int x2), some (.int x3), some (.int x4), some (.ref (Γ.2.1 40)), none] (by decide) (Nat.le_of_ble_eq_true rfl) rfl rfl (fun κ hX hκ hTab => m_L_plot_0 hX hTab (by rw [hκ]; exact hT) σ x1 x2 x3 x4)
/-! L_fill -/
theorem d_L_fill_0 : decode b_L_fill 0 = .ok (.aload 6, 2) := by decide +kernel
theorem d_L_fill_2 : decode b_L_fill 2 = .ok (.iconst 0, 1) := by decide +kernel
theorem d_L_fill_3 : decode b_L_fill 3 = .ok (.aload_n 0, 1) := by decide +kernel
theorem d_L_fill_4 : decode b_L_fill 4 = .ok (.iload_n 1, 1) := by decide +kernel
theorem d_L_fill_5 : decode b_L_fill 5 = .ok (.iload_n 2, 1) := by decide +kernel
theorem d_L_fill_6 : decode b_L_fill 6 = .ok (.iload_n 3, 1) := by decide +kernel
theorem d_L_fill_7 : decode b_L_fill 7 = .ok (.iload 4, 2) := by decide +kernel
theorem d_L_fill_9 : decode b_L_fill 9 = .ok (.iload 5, 2) := by decide +kernel
theorem d_L_fill_11 : decode b_L_fill 11 = .ok (.invokevirtual 35, 3) := by decide +kernel
theorem d_L_fill_14 : decode b_L_fill 14 = .ok (.i2l, 1) := by decide +kernel
theorem d_L_fill_15 : decode b_L_fill 15 = .ok (.lastore, 1) := by decide +kernel
theorem d_L_fill_16 : decode b_L_fill 16 = .ok (.goto 11, 3) := by decide +kernel
theorem d_L_fill_19 : decode b_L_fill 19 = .ok (.astore 7, 2) := by decide +kernel
theorem d_L_fill_21 : decode b_L_fill 21 = .ok (.iconst 1, 1) := by decide +kernel
theorem d_L_fill_22 : decode b_L_fill 22 = .ok (.ireturn, 1) := by decide +kernel
theorem d_L_fill_23 : decode b_L_fill 23 = .ok (.astore 7, 2) := by decide +kernel
theorem d_L_fill_25 : decode b_L_fill 25 = .ok (.iconst 2, 1) := by decide +kernel
theorem d_L_fill_26 : decode b_L_fill 26 = .ok (.ireturn, 1) := by decide +kernel
theorem d_L_fill_27 : decode b_L_fill 27 = .ok (.iconst 0, 1) := by decide +kernel
theorem d_L_fill_28 : decode b_L_fill 28 = .ok (.ireturn, 1) := by decide +kernel
abbrev r_L_fill : Room := ⟨8, 4, 24, 139⟩
def f_L_fill_0 (σ : Mem) (x1 : Int32) (x2 : Int32) (x3 : Int32) (x4 : Int32) (x5 : Int32) : Option (Int32 × Mem) :=
  gbx (f_S_fill x1 x2 x3 x4 x5 σ) (fun r2 u1 =>
    gbm (m2 u1 40 (0 : Int32).toNatClampNeg r2) fun u3 =>
    some (0, u3)
    ) (fun E u => if E = "java/util/NoSuchElementException" then some (1, u) else if E = "java/lang/IllegalArgumentException" then some (2, u) else none)
set_option maxRecDepth 100000 in
theorem m_L_fill_0 {κ : GC} {Γ : GA} (hX : Gx κ Γ 8 b_L_fill "PaneScreenLaw" r_L_fill (some .int)) (hTab : κ.2.2.2.2.2.2.2.2.2.exceptionTable.toList = tableOf [(0, 16, 19, 21), (0, 16, 23, 13)]) (hT : κ.2.1.stackTraces = false) (σ : Mem) (x1 : Int32) (x2 : Int32) (x3 : Int32) (x4 : Int32) (x5 : Int32) : GG κ Γ 8 (gQ gqi κ Γ r_L_fill) 0 0 σ [some (.ref (Γ.2.1 0)), some (.int x1), some (.int x2), some (.int x3), some (.int x4), some (.int x5), some (.ref (Γ.2.1 40)), none] 0 [] (f_L_fill_0 σ x1 x2 x3 x4 x5) := by
  unfold f_L_fill_0
  refine g_aload hX d_L_fill_0 (n := 2) rfl rfl ?_
  refine g_iconst hX 0 d_L_fill_2 (n := 3) rfl k_iconst_0 ?_
  refine g_aload_n hX 0 d_L_fill_3 (n := 4) rfl rfl rfl ?_
  refine g_iload_n hX 1 d_L_fill_4 (n := 5) rfl rfl rfl ?_
  refine g_iload_n hX 2 d_L_fill_5 (n := 6) rfl rfl rfl ?_
  refine g_iload_n hX 3 d_L_fill_6 (n := 7) rfl rfl rfl ?_
  refine g_iload hX d_L_fill_7 (n := 9) rfl rfl ?_
  refine g_iload hX d_L_fill_9 (n := 11) rfl rfl ?_
  refine g_ti hX hTab [_, _, _, _, _] rfl 4 24 (c_S_fill _ hT Γ x1 x2 x3 x4 x5 σ) gw_L_35 rfl sh_0 rfl d_L_fill_11 (n := 14) rfl ⟨by decide, by decide⟩ ⟨by decide, by decide⟩ (Nat.le_of_ble_eq_true rfl) rfl rfl (fun r2 u1 => ?_) (fun E u hk => ?_)
  · refine g_i2l hX d_L_fill_14 (n := 15) rfl ?_
    refine g_lastK hX r2 rfl (by decide) d_L_fill_15 (n := 16) rfl sh_40 ?_
    refine g_mem (fun u3 => ?_)
    refine g_goto hX 27 d_L_fill_16 rfl ?_
    refine g_iconst hX 0 d_L_fill_27 (n := 28) rfl k_iconst_0 ?_
    exact g_iret hX d_L_fill_28 (by decide) (by decide)
  · by_cases e0 : E = "java/util/NoSuchElementException"
    · subst e0
      refine ⟨19, ⟨[], ⟨0, 16, 19, 21⟩, [⟨0, 16, 23, 13⟩], "java/util/NoSuchElementException", rfl, (fun z hz => by cases hz), rfl, by decide, gc_L_21, hX.2.2.2.2.2.2.2.2.2.2.2.2.2.1 _ (by decide), rfl⟩, fun q9 => ?_⟩
      refine g_eq (o' := some (1, u)) (by simp) ?_
      refine g_astore hX [_, _, _, _, _, _, _, _] d_L_fill_19 (n := 21) rfl (by decide) rfl ?_
      refine g_iconst hX 1 d_L_fill_21 (n := 22) rfl k_iconst_1 ?_
      exact g_iret hX d_L_fill_22 (by decide) (by decide)
    · skip
      by_cases e1 : E = "java/lang/IllegalArgumentException"
      · subst e1
        refine ⟨23, ⟨[⟨0, 16, 19, 21⟩], ⟨0, 16, 23, 13⟩, [], "java/lang/IllegalArgumentException", rfl, (fun z hz => by
            rcases List.mem_singleton.1 hz with rfl
            exact Or.inr ⟨by decide, "java/util/NoSuchElementException", gc_L_21, hX.2.2.2.2.2.2.2.2.2.2.2.2.2.2 ("java/lang/IllegalArgumentException", "java/util/NoSuchElementException") (by decide)⟩), rfl, by decide, gc_L_13, hX.2.2.2.2.2.2.2.2.2.2.2.2.2.1 _ (by decide), rfl⟩, fun q9 => ?_⟩
        refine g_eq (o' := some (2, u)) (by simp) ?_
        refine g_astore hX [_, _, _, _, _, _, _, _] d_L_fill_23 (n := 25) rfl (by decide) rfl ?_
        refine g_iconst hX 2 d_L_fill_25 (n := 26) rfl k_iconst_2 ?_
        exact g_iret hX d_L_fill_26 (by decide) (by decide)
      · exact absurd (by simp only [if_neg e0, if_neg e1]) hk
def f_L_fill (x1 : Int32) (x2 : Int32) (x3 : Int32) (x4 : Int32) (x5 : Int32) (σ : Mem) : Option (Int32 × Mem) := f_L_fill_0 σ x1 x2 x3 x4 x5
theorem c_L_fill (l : Launch) (hT : l.stackTraces = false) (Γ : GA) (x1 : Int32) (x2 : Int32) (x3 : Int32) (x4 : Int32) (x5 : Int32) (σ : Mem) : gH l y_L_fill b_L_fill 8 [(0, 16, 19, 21), (0, 16, 23, 13)] r_L_fill [.ref (Γ.2.1 0), .int x1, .int x2, .int x3, .int x4, .int x5, .ref (Γ.2.1 40)] Γ σ (f_L_fill x1 x2 x3 x4 x5 σ) :=
  gH.of [some (.ref (Γ.2.1 0)), some (.int x1), some (.int x2), some (.int x3), some (.int x4), some (.int x5), some (.ref (Γ.2.1 40)), none] (by decide) (Nat.le_of_ble_eq_true rfl) rfl rfl (fun κ hX hκ hTab => m_L_fill_0 hX hTab (by rw [hκ]; exact hT) σ x1 x2 x3 x4 x5)
/-! L_pen -/
theorem d_L_pen_0 : decode b_L_pen 0 = .ok (.aload_n 0, 1) := by decide +kernel
theorem d_L_pen_1 : decode b_L_pen 1 = .ok (.iload_n 1, 1) := by decide +kernel
theorem d_L_pen_2 : decode b_L_pen 2 = .ok (.iload_n 2, 1) := by decide +kernel
theorem d_L_pen_3 : decode b_L_pen 3 = .ok (.iload_n 3, 1) := by decide +kernel
theorem d_L_pen_4 : decode b_L_pen 4 = .ok (.invokevirtual 39, 3) := by decide +kernel
theorem d_L_pen_7 : decode b_L_pen 7 = .ok (.goto 11, 3) := by decide +kernel
theorem d_L_pen_10 : decode b_L_pen 10 = .ok (.astore 4, 2) := by decide +kernel
theorem d_L_pen_12 : decode b_L_pen 12 = .ok (.iconst 1, 1) := by decide +kernel
theorem d_L_pen_13 : decode b_L_pen 13 = .ok (.ireturn, 1) := by decide +kernel
theorem d_L_pen_14 : decode b_L_pen 14 = .ok (.astore 4, 2) := by decide +kernel
theorem d_L_pen_16 : decode b_L_pen 16 = .ok (.iconst 2, 1) := by decide +kernel
theorem d_L_pen_17 : decode b_L_pen 17 = .ok (.ireturn, 1) := by decide +kernel
theorem d_L_pen_18 : decode b_L_pen 18 = .ok (.iconst 0, 1) := by decide +kernel
theorem d_L_pen_19 : decode b_L_pen 19 = .ok (.ireturn, 1) := by decide +kernel
abbrev r_L_pen : Room := ⟨8, 2, 12, 126⟩
def f_L_pen_0 (σ : Mem) (x1 : Int32) (x2 : Int32) (x3 : Int32) : Option (Int32 × Mem) :=
  gbx (f_S_pen x1 x2 x3 σ) (fun _ u1 =>
    some (0, u1)
    ) (fun E u => if E = "java/util/NoSuchElementException" then some (1, u) else if E = "java/lang/IllegalArgumentException" then some (2, u) else none)
set_option maxRecDepth 100000 in
theorem m_L_pen_0 {κ : GC} {Γ : GA} (hX : Gx κ Γ 5 b_L_pen "PaneScreenLaw" r_L_pen (some .int)) (hTab : κ.2.2.2.2.2.2.2.2.2.exceptionTable.toList = tableOf [(0, 7, 10, 21), (0, 7, 14, 13)]) (hT : κ.2.1.stackTraces = false) (σ : Mem) (x1 : Int32) (x2 : Int32) (x3 : Int32) : GG κ Γ 5 (gQ gqi κ Γ r_L_pen) 0 0 σ [some (.ref (Γ.2.1 0)), some (.int x1), some (.int x2), some (.int x3), none] 0 [] (f_L_pen_0 σ x1 x2 x3) := by
  unfold f_L_pen_0
  refine g_aload_n hX 0 d_L_pen_0 (n := 1) rfl rfl rfl ?_
  refine g_iload_n hX 1 d_L_pen_1 (n := 2) rfl rfl rfl ?_
  refine g_iload_n hX 2 d_L_pen_2 (n := 3) rfl rfl rfl ?_
  refine g_iload_n hX 3 d_L_pen_3 (n := 4) rfl rfl rfl ?_
  refine g_tv hX hTab [_, _, _] rfl 2 12 (c_S_pen _ hT Γ x1 x2 x3 σ) gw_L_39 rfl sh_0 rfl d_L_pen_4 (n := 7) rfl ⟨by decide, by decide⟩ ⟨by decide, by decide⟩ (Nat.le_of_ble_eq_true rfl) rfl rfl (fun _ u1 => ?_) (fun E u hk => ?_)
  · refine g_goto hX 18 d_L_pen_7 rfl ?_
    refine g_iconst hX 0 d_L_pen_18 (n := 19) rfl k_iconst_0 ?_
    exact g_iret hX d_L_pen_19 (by decide) (by decide)
  · by_cases e0 : E = "java/util/NoSuchElementException"
    · subst e0
      refine ⟨10, ⟨[], ⟨0, 7, 10, 21⟩, [⟨0, 7, 14, 13⟩], "java/util/NoSuchElementException", rfl, (fun z hz => by cases hz), rfl, by decide, gc_L_21, hX.2.2.2.2.2.2.2.2.2.2.2.2.2.1 _ (by decide), rfl⟩, fun q9 => ?_⟩
      refine g_eq (o' := some (1, u)) (by simp) ?_
      refine g_astore hX [_, _, _, _, _] d_L_pen_10 (n := 12) rfl (by decide) rfl ?_
      refine g_iconst hX 1 d_L_pen_12 (n := 13) rfl k_iconst_1 ?_
      exact g_iret hX d_L_pen_13 (by decide) (by decide)
    · skip
      by_cases e1 : E = "java/lang/IllegalArgumentException"
      · subst e1
        refine ⟨14, ⟨[⟨0, 7, 10, 21⟩], ⟨0, 7, 14, 13⟩, [], "java/lang/IllegalArgumentException", rfl, (fun z hz => by
            rcases List.mem_singleton.1 hz with rfl
            exact Or.inr ⟨by decide, "java/util/NoSuchElementException", gc_L_21, hX.2.2.2.2.2.2.2.2.2.2.2.2.2.2 ("java/lang/IllegalArgumentException", "java/util/NoSuchElementException") (by decide)⟩), rfl, by decide, gc_L_13, hX.2.2.2.2.2.2.2.2.2.2.2.2.2.1 _ (by decide), rfl⟩, fun q9 => ?_⟩
        refine g_eq (o' := some (2, u)) (by simp) ?_
        refine g_astore hX [_, _, _, _, _] d_L_pen_14 (n := 16) rfl (by decide) rfl ?_
        refine g_iconst hX 2 d_L_pen_16 (n := 17) rfl k_iconst_2 ?_
        exact g_iret hX d_L_pen_17 (by decide) (by decide)
      · exact absurd (by simp only [if_neg e0, if_neg e1]) hk
def f_L_pen (x1 : Int32) (x2 : Int32) (x3 : Int32) (σ : Mem) : Option (Int32 × Mem) := f_L_pen_0 σ x1 x2 x3
theorem c_L_pen (l : Launch) (hT : l.stackTraces = false) (Γ : GA) (x1 : Int32) (x2 : Int32) (x3 : Int32) (σ : Mem) : gH l y_L_pen b_L_pen 5 [(0, 7, 10, 21), (0, 7, 14, 13)] r_L_pen [.ref (Γ.2.1 0), .int x1, .int x2, .int x3] Γ σ (f_L_pen x1 x2 x3 σ) :=
  gH.of [some (.ref (Γ.2.1 0)), some (.int x1), some (.int x2), some (.int x3), none] (by decide) (Nat.le_of_ble_eq_true rfl) rfl rfl (fun κ hX hκ hTab => m_L_pen_0 hX hTab (by rw [hκ]; exact hT) σ x1 x2 x3)
/-! L_line -/
theorem d_L_line_0 : decode b_L_line 0 = .ok (.aload 5, 2) := by decide +kernel
theorem d_L_line_2 : decode b_L_line 2 = .ok (.iconst 0, 1) := by decide +kernel
theorem d_L_line_3 : decode b_L_line 3 = .ok (.aload_n 0, 1) := by decide +kernel
theorem d_L_line_4 : decode b_L_line 4 = .ok (.iload_n 1, 1) := by decide +kernel
theorem d_L_line_5 : decode b_L_line 5 = .ok (.iload_n 2, 1) := by decide +kernel
theorem d_L_line_6 : decode b_L_line 6 = .ok (.iload_n 3, 1) := by decide +kernel
theorem d_L_line_7 : decode b_L_line 7 = .ok (.iload 4, 2) := by decide +kernel
theorem d_L_line_9 : decode b_L_line 9 = .ok (.invokevirtual 42, 3) := by decide +kernel
theorem d_L_line_12 : decode b_L_line 12 = .ok (.i2l, 1) := by decide +kernel
theorem d_L_line_13 : decode b_L_line 13 = .ok (.lastore, 1) := by decide +kernel
theorem d_L_line_14 : decode b_L_line 14 = .ok (.goto 11, 3) := by decide +kernel
theorem d_L_line_17 : decode b_L_line 17 = .ok (.astore 6, 2) := by decide +kernel
theorem d_L_line_19 : decode b_L_line 19 = .ok (.iconst 1, 1) := by decide +kernel
theorem d_L_line_20 : decode b_L_line 20 = .ok (.ireturn, 1) := by decide +kernel
theorem d_L_line_21 : decode b_L_line 21 = .ok (.astore 6, 2) := by decide +kernel
theorem d_L_line_23 : decode b_L_line 23 = .ok (.iconst 2, 1) := by decide +kernel
theorem d_L_line_24 : decode b_L_line 24 = .ok (.ireturn, 1) := by decide +kernel
theorem d_L_line_25 : decode b_L_line 25 = .ok (.iconst 0, 1) := by decide +kernel
theorem d_L_line_26 : decode b_L_line 26 = .ok (.ireturn, 1) := by decide +kernel
abbrev r_L_line : Room := ⟨8, 3, 18, 168⟩
def f_L_line_0 (σ : Mem) (x1 : Int32) (x2 : Int32) (x3 : Int32) (x4 : Int32) : Option (Int32 × Mem) :=
  gbx (f_S_line x1 x2 x3 x4 σ) (fun r2 u1 =>
    gbm (m2 u1 40 (0 : Int32).toNatClampNeg r2) fun u3 =>
    some (0, u3)
    ) (fun E u => if E = "java/util/NoSuchElementException" then some (1, u) else if E = "java/lang/IllegalArgumentException" then some (2, u) else none)
set_option maxRecDepth 100000 in
theorem m_L_line_0 {κ : GC} {Γ : GA} (hX : Gx κ Γ 7 b_L_line "PaneScreenLaw" r_L_line (some .int)) (hTab : κ.2.2.2.2.2.2.2.2.2.exceptionTable.toList = tableOf [(0, 14, 17, 21), (0, 14, 21, 13)]) (hT : κ.2.1.stackTraces = false) (σ : Mem) (x1 : Int32) (x2 : Int32) (x3 : Int32) (x4 : Int32) : GG κ Γ 7 (gQ gqi κ Γ r_L_line) 0 0 σ [some (.ref (Γ.2.1 0)), some (.int x1), some (.int x2), some (.int x3), some (.int x4), some (.ref (Γ.2.1 40)), none] 0 [] (f_L_line_0 σ x1 x2 x3 x4) := by
  unfold f_L_line_0
  refine g_aload hX d_L_line_0 (n := 2) rfl rfl ?_
  refine g_iconst hX 0 d_L_line_2 (n := 3) rfl k_iconst_0 ?_
  refine g_aload_n hX 0 d_L_line_3 (n := 4) rfl rfl rfl ?_
  refine g_iload_n hX 1 d_L_line_4 (n := 5) rfl rfl rfl ?_
  refine g_iload_n hX 2 d_L_line_5 (n := 6) rfl rfl rfl ?_
  refine g_iload_n hX 3 d_L_line_6 (n := 7) rfl rfl rfl ?_
  refine g_iload hX d_L_line_7 (n := 9) rfl rfl ?_
  refine g_ti hX hTab [_, _, _, _] rfl 3 18 (c_S_line _ hT Γ x1 x2 x3 x4 σ) gw_L_42 rfl sh_0 rfl d_L_line_9 (n := 12) rfl ⟨by decide, by decide⟩ ⟨by decide, by decide⟩ (Nat.le_of_ble_eq_true rfl) rfl rfl (fun r2 u1 => ?_) (fun E u hk => ?_)
  · refine g_i2l hX d_L_line_12 (n := 13) rfl ?_
    refine g_lastK hX r2 rfl (by decide) d_L_line_13 (n := 14) rfl sh_40 ?_
    refine g_mem (fun u3 => ?_)
    refine g_goto hX 25 d_L_line_14 rfl ?_
    refine g_iconst hX 0 d_L_line_25 (n := 26) rfl k_iconst_0 ?_
    exact g_iret hX d_L_line_26 (by decide) (by decide)
  · by_cases e0 : E = "java/util/NoSuchElementException"
    · subst e0
      refine ⟨17, ⟨[], ⟨0, 14, 17, 21⟩, [⟨0, 14, 21, 13⟩], "java/util/NoSuchElementException", rfl, (fun z hz => by cases hz), rfl, by decide, gc_L_21, hX.2.2.2.2.2.2.2.2.2.2.2.2.2.1 _ (by decide), rfl⟩, fun q9 => ?_⟩
      refine g_eq (o' := some (1, u)) (by simp) ?_
      refine g_astore hX [_, _, _, _, _, _, _] d_L_line_17 (n := 19) rfl (by decide) rfl ?_
      refine g_iconst hX 1 d_L_line_19 (n := 20) rfl k_iconst_1 ?_
      exact g_iret hX d_L_line_20 (by decide) (by decide)
    · skip
      by_cases e1 : E = "java/lang/IllegalArgumentException"
      · subst e1
        refine ⟨21, ⟨[⟨0, 14, 17, 21⟩], ⟨0, 14, 21, 13⟩, [], "java/lang/IllegalArgumentException", rfl, (fun z hz => by
            rcases List.mem_singleton.1 hz with rfl
            exact Or.inr ⟨by decide, "java/util/NoSuchElementException", gc_L_21, hX.2.2.2.2.2.2.2.2.2.2.2.2.2.2 ("java/lang/IllegalArgumentException", "java/util/NoSuchElementException") (by decide)⟩), rfl, by decide, gc_L_13, hX.2.2.2.2.2.2.2.2.2.2.2.2.2.1 _ (by decide), rfl⟩, fun q9 => ?_⟩
        refine g_eq (o' := some (2, u)) (by simp) ?_
        refine g_astore hX [_, _, _, _, _, _, _] d_L_line_21 (n := 23) rfl (by decide) rfl ?_
        refine g_iconst hX 2 d_L_line_23 (n := 24) rfl k_iconst_2 ?_
        exact g_iret hX d_L_line_24 (by decide) (by decide)
      · exact absurd (by simp only [if_neg e0, if_neg e1]) hk
def f_L_line (x1 : Int32) (x2 : Int32) (x3 : Int32) (x4 : Int32) (σ : Mem) : Option (Int32 × Mem) := f_L_line_0 σ x1 x2 x3 x4
theorem c_L_line (l : Launch) (hT : l.stackTraces = false) (Γ : GA) (x1 : Int32) (x2 : Int32) (x3 : Int32) (x4 : Int32) (σ : Mem) : gH l y_L_line b_L_line 7 [(0, 14, 17, 21), (0, 14, 21, 13)] r_L_line [.ref (Γ.2.1 0), .int x1, .int x2, .int x3, .int x4, .ref (Γ.2.1 40)] Γ σ (f_L_line x1 x2 x3 x4 σ) :=
  gH.of [some (.ref (Γ.2.1 0)), some (.int x1), some (.int x2), some (.int x3), some (.int x4), some (.ref (Γ.2.1 40)), none] (by decide) (Nat.le_of_ble_eq_true rfl) rfl rfl (fun κ hX hκ hTab => m_L_line_0 hX hTab (by rw [hκ]; exact hT) σ x1 x2 x3 x4)
/-! L_scroll -/
theorem d_L_scroll_0 : decode b_L_scroll 0 = .ok (.aload_n 0, 1) := by decide +kernel
theorem d_L_scroll_1 : decode b_L_scroll 1 = .ok (.iload_n 1, 1) := by decide +kernel
theorem d_L_scroll_2 : decode b_L_scroll 2 = .ok (.iload_n 2, 1) := by decide +kernel
theorem d_L_scroll_3 : decode b_L_scroll 3 = .ok (.iload_n 3, 1) := by decide +kernel
theorem d_L_scroll_4 : decode b_L_scroll 4 = .ok (.invokevirtual 45, 3) := by decide +kernel
theorem d_L_scroll_7 : decode b_L_scroll 7 = .ok (.goto 11, 3) := by decide +kernel
theorem d_L_scroll_10 : decode b_L_scroll 10 = .ok (.astore 4, 2) := by decide +kernel
theorem d_L_scroll_12 : decode b_L_scroll 12 = .ok (.iconst 1, 1) := by decide +kernel
theorem d_L_scroll_13 : decode b_L_scroll 13 = .ok (.ireturn, 1) := by decide +kernel
theorem d_L_scroll_14 : decode b_L_scroll 14 = .ok (.astore 4, 2) := by decide +kernel
theorem d_L_scroll_16 : decode b_L_scroll 16 = .ok (.iconst 2, 1) := by decide +kernel
theorem d_L_scroll_17 : decode b_L_scroll 17 = .ok (.ireturn, 1) := by decide +kernel
theorem d_L_scroll_18 : decode b_L_scroll 18 = .ok (.iconst 0, 1) := by decide +kernel
theorem d_L_scroll_19 : decode b_L_scroll 19 = .ok (.ireturn, 1) := by decide +kernel
abbrev r_L_scroll : Room := ⟨8, 2, 12, 155⟩
def f_L_scroll_0 (σ : Mem) (x1 : Int32) (x2 : Int32) (x3 : Int32) : Option (Int32 × Mem) :=
  gbx (f_S_scroll x1 x2 x3 σ) (fun _ u1 =>
    some (0, u1)
    ) (fun E u => if E = "java/util/NoSuchElementException" then some (1, u) else if E = "java/lang/IllegalArgumentException" then some (2, u) else none)
set_option maxRecDepth 100000 in
theorem m_L_scroll_0 {κ : GC} {Γ : GA} (hX : Gx κ Γ 5 b_L_scroll "PaneScreenLaw" r_L_scroll (some .int)) (hTab : κ.2.2.2.2.2.2.2.2.2.exceptionTable.toList = tableOf [(0, 7, 10, 21), (0, 7, 14, 13)]) (hT : κ.2.1.stackTraces = false) (σ : Mem) (x1 : Int32) (x2 : Int32) (x3 : Int32) : GG κ Γ 5 (gQ gqi κ Γ r_L_scroll) 0 0 σ [some (.ref (Γ.2.1 0)), some (.int x1), some (.int x2), some (.int x3), none] 0 [] (f_L_scroll_0 σ x1 x2 x3) := by
  unfold f_L_scroll_0
  refine g_aload_n hX 0 d_L_scroll_0 (n := 1) rfl rfl rfl ?_
  refine g_iload_n hX 1 d_L_scroll_1 (n := 2) rfl rfl rfl ?_
  refine g_iload_n hX 2 d_L_scroll_2 (n := 3) rfl rfl rfl ?_
  refine g_iload_n hX 3 d_L_scroll_3 (n := 4) rfl rfl rfl ?_
  refine g_tv hX hTab [_, _, _] rfl 2 12 (c_S_scroll _ hT Γ x1 x2 x3 σ) gw_L_45 rfl sh_0 rfl d_L_scroll_4 (n := 7) rfl ⟨by decide, by decide⟩ ⟨by decide, by decide⟩ (Nat.le_of_ble_eq_true rfl) rfl rfl (fun _ u1 => ?_) (fun E u hk => ?_)
  · refine g_goto hX 18 d_L_scroll_7 rfl ?_
    refine g_iconst hX 0 d_L_scroll_18 (n := 19) rfl k_iconst_0 ?_
    exact g_iret hX d_L_scroll_19 (by decide) (by decide)
  · by_cases e0 : E = "java/util/NoSuchElementException"
    · subst e0
      refine ⟨10, ⟨[], ⟨0, 7, 10, 21⟩, [⟨0, 7, 14, 13⟩], "java/util/NoSuchElementException", rfl, (fun z hz => by cases hz), rfl, by decide, gc_L_21, hX.2.2.2.2.2.2.2.2.2.2.2.2.2.1 _ (by decide), rfl⟩, fun q9 => ?_⟩
      refine g_eq (o' := some (1, u)) (by simp) ?_
      refine g_astore hX [_, _, _, _, _] d_L_scroll_10 (n := 12) rfl (by decide) rfl ?_
      refine g_iconst hX 1 d_L_scroll_12 (n := 13) rfl k_iconst_1 ?_
      exact g_iret hX d_L_scroll_13 (by decide) (by decide)
    · skip
      by_cases e1 : E = "java/lang/IllegalArgumentException"
      · subst e1
        refine ⟨14, ⟨[⟨0, 7, 10, 21⟩], ⟨0, 7, 14, 13⟩, [], "java/lang/IllegalArgumentException", rfl, (fun z hz => by
            rcases List.mem_singleton.1 hz with rfl
            exact Or.inr ⟨by decide, "java/util/NoSuchElementException", gc_L_21, hX.2.2.2.2.2.2.2.2.2.2.2.2.2.2 ("java/lang/IllegalArgumentException", "java/util/NoSuchElementException") (by decide)⟩), rfl, by decide, gc_L_13, hX.2.2.2.2.2.2.2.2.2.2.2.2.2.1 _ (by decide), rfl⟩, fun q9 => ?_⟩
        refine g_eq (o' := some (2, u)) (by simp) ?_
        refine g_astore hX [_, _, _, _, _] d_L_scroll_14 (n := 16) rfl (by decide) rfl ?_
        refine g_iconst hX 2 d_L_scroll_16 (n := 17) rfl k_iconst_2 ?_
        exact g_iret hX d_L_scroll_17 (by decide) (by decide)
      · exact absurd (by simp only [if_neg e0, if_neg e1]) hk
def f_L_scroll (x1 : Int32) (x2 : Int32) (x3 : Int32) (σ : Mem) : Option (Int32 × Mem) := f_L_scroll_0 σ x1 x2 x3
theorem c_L_scroll (l : Launch) (hT : l.stackTraces = false) (Γ : GA) (x1 : Int32) (x2 : Int32) (x3 : Int32) (σ : Mem) : gH l y_L_scroll b_L_scroll 5 [(0, 7, 10, 21), (0, 7, 14, 13)] r_L_scroll [.ref (Γ.2.1 0), .int x1, .int x2, .int x3] Γ σ (f_L_scroll x1 x2 x3 σ) :=
  gH.of [some (.ref (Γ.2.1 0)), some (.int x1), some (.int x2), some (.int x3), none] (by decide) (Nat.le_of_ble_eq_true rfl) rfl rfl (fun κ hX hκ hTab => m_L_scroll_0 hX hTab (by rw [hκ]; exact hT) σ x1 x2 x3)
/-! L_screen -/
theorem d_L_screen_0 : decode b_L_screen 0 = .ok (.aload_n 3, 1) := by decide +kernel
theorem d_L_screen_1 : decode b_L_screen 1 = .ok (.iconst 0, 1) := by decide +kernel
theorem d_L_screen_2 : decode b_L_screen 2 = .ok (.aload_n 0, 1) := by decide +kernel
theorem d_L_screen_3 : decode b_L_screen 3 = .ok (.iload_n 1, 1) := by decide +kernel
theorem d_L_screen_4 : decode b_L_screen 4 = .ok (.iload_n 2, 1) := by decide +kernel
theorem d_L_screen_5 : decode b_L_screen 5 = .ok (.invokevirtual 48, 3) := by decide +kernel
theorem d_L_screen_8 : decode b_L_screen 8 = .ok (.i2l, 1) := by decide +kernel
theorem d_L_screen_9 : decode b_L_screen 9 = .ok (.lastore, 1) := by decide +kernel
theorem d_L_screen_10 : decode b_L_screen 10 = .ok (.goto 7, 3) := by decide +kernel
theorem d_L_screen_13 : decode b_L_screen 13 = .ok (.astore 4, 2) := by decide +kernel
theorem d_L_screen_15 : decode b_L_screen 15 = .ok (.iconst 1, 1) := by decide +kernel
theorem d_L_screen_16 : decode b_L_screen 16 = .ok (.ireturn, 1) := by decide +kernel
theorem d_L_screen_17 : decode b_L_screen 17 = .ok (.iconst 0, 1) := by decide +kernel
theorem d_L_screen_18 : decode b_L_screen 18 = .ok (.ireturn, 1) := by decide +kernel
abbrev r_L_screen : Room := ⟨8, 1, 6, 124⟩
def f_L_screen_0 (σ : Mem) (x1 : Int32) (x2 : Int32) : Option (Int32 × Mem) :=
  gbx (f_S_screen x1 x2 σ) (fun r2 u1 =>
    gbm (m2 u1 40 (0 : Int32).toNatClampNeg r2) fun u3 =>
    some (0, u3)
    ) (fun E u => if E = "java/lang/IndexOutOfBoundsException" then some (1, u) else none)
set_option maxRecDepth 100000 in
theorem m_L_screen_0 {κ : GC} {Γ : GA} (hX : Gx κ Γ 5 b_L_screen "PaneScreenLaw" r_L_screen (some .int)) (hTab : κ.2.2.2.2.2.2.2.2.2.exceptionTable.toList = tableOf [(0, 10, 13, 52)]) (hT : κ.2.1.stackTraces = false) (σ : Mem) (x1 : Int32) (x2 : Int32) : GG κ Γ 5 (gQ gqi κ Γ r_L_screen) 0 0 σ [some (.ref (Γ.2.1 0)), some (.int x1), some (.int x2), some (.ref (Γ.2.1 40)), none] 0 [] (f_L_screen_0 σ x1 x2) := by
  unfold f_L_screen_0
  refine g_aload_n hX 3 d_L_screen_0 (n := 1) rfl rfl rfl ?_
  refine g_iconst hX 0 d_L_screen_1 (n := 2) rfl k_iconst_0 ?_
  refine g_aload_n hX 0 d_L_screen_2 (n := 3) rfl rfl rfl ?_
  refine g_iload_n hX 1 d_L_screen_3 (n := 4) rfl rfl rfl ?_
  refine g_iload_n hX 2 d_L_screen_4 (n := 5) rfl rfl rfl ?_
  refine g_ti hX hTab [_, _] rfl 1 6 (c_S_screen _ hT Γ x1 x2 σ) gw_L_48 rfl sh_0 rfl d_L_screen_5 (n := 8) rfl ⟨by decide, by decide⟩ ⟨by decide, by decide⟩ (Nat.le_of_ble_eq_true rfl) rfl rfl (fun r2 u1 => ?_) (fun E u hk => ?_)
  · refine g_i2l hX d_L_screen_8 (n := 9) rfl ?_
    refine g_lastK hX r2 rfl (by decide) d_L_screen_9 (n := 10) rfl sh_40 ?_
    refine g_mem (fun u3 => ?_)
    refine g_goto hX 17 d_L_screen_10 rfl ?_
    refine g_iconst hX 0 d_L_screen_17 (n := 18) rfl k_iconst_0 ?_
    exact g_iret hX d_L_screen_18 (by decide) (by decide)
  · by_cases e0 : E = "java/lang/IndexOutOfBoundsException"
    · subst e0
      refine ⟨13, ⟨[], ⟨0, 10, 13, 52⟩, [], "java/lang/IndexOutOfBoundsException", rfl, (fun z hz => by cases hz), rfl, by decide, gc_L_52, hX.2.2.2.2.2.2.2.2.2.2.2.2.2.1 _ (by decide), rfl⟩, fun q9 => ?_⟩
      refine g_eq (o' := some (1, u)) (by simp) ?_
      refine g_astore hX [_, _, _, _, _] d_L_screen_13 (n := 15) rfl (by decide) rfl ?_
      refine g_iconst hX 1 d_L_screen_15 (n := 16) rfl k_iconst_1 ?_
      exact g_iret hX d_L_screen_16 (by decide) (by decide)
    · exact absurd (by simp only [if_neg e0]) hk
def f_L_screen (x1 : Int32) (x2 : Int32) (σ : Mem) : Option (Int32 × Mem) := f_L_screen_0 σ x1 x2
theorem c_L_screen (l : Launch) (hT : l.stackTraces = false) (Γ : GA) (x1 : Int32) (x2 : Int32) (σ : Mem) : gH l y_L_screen b_L_screen 5 [(0, 10, 13, 52)] r_L_screen [.ref (Γ.2.1 0), .int x1, .int x2, .ref (Γ.2.1 40)] Γ σ (f_L_screen x1 x2 σ) :=
  gH.of [some (.ref (Γ.2.1 0)), some (.int x1), some (.int x2), some (.ref (Γ.2.1 40)), none] (by decide) (Nat.le_of_ble_eq_true rfl) rfl rfl (fun κ hX hκ hTab => m_L_screen_0 hX hTab (by rw [hκ]; exact hT) σ x1 x2)
/-! L_picture -/
theorem d_L_picture_0 : decode b_L_picture 0 = .ok (.aload 4, 2) := by decide +kernel
theorem d_L_picture_2 : decode b_L_picture 2 = .ok (.iconst 0, 1) := by decide +kernel
theorem d_L_picture_3 : decode b_L_picture 3 = .ok (.aload_n 0, 1) := by decide +kernel
theorem d_L_picture_4 : decode b_L_picture 4 = .ok (.iload_n 1, 1) := by decide +kernel
theorem d_L_picture_5 : decode b_L_picture 5 = .ok (.iload_n 2, 1) := by decide +kernel
theorem d_L_picture_6 : decode b_L_picture 6 = .ok (.iload_n 3, 1) := by decide +kernel
theorem d_L_picture_7 : decode b_L_picture 7 = .ok (.invokevirtual 54, 3) := by decide +kernel
theorem d_L_picture_10 : decode b_L_picture 10 = .ok (.i2l, 1) := by decide +kernel
theorem d_L_picture_11 : decode b_L_picture 11 = .ok (.lastore, 1) := by decide +kernel
theorem d_L_picture_12 : decode b_L_picture 12 = .ok (.goto 11, 3) := by decide +kernel
theorem d_L_picture_15 : decode b_L_picture 15 = .ok (.astore 5, 2) := by decide +kernel
theorem d_L_picture_17 : decode b_L_picture 17 = .ok (.iconst 1, 1) := by decide +kernel
theorem d_L_picture_18 : decode b_L_picture 18 = .ok (.ireturn, 1) := by decide +kernel
theorem d_L_picture_19 : decode b_L_picture 19 = .ok (.astore 5, 2) := by decide +kernel
theorem d_L_picture_21 : decode b_L_picture 21 = .ok (.iconst 2, 1) := by decide +kernel
theorem d_L_picture_22 : decode b_L_picture 22 = .ok (.ireturn, 1) := by decide +kernel
theorem d_L_picture_23 : decode b_L_picture 23 = .ok (.iconst 0, 1) := by decide +kernel
theorem d_L_picture_24 : decode b_L_picture 24 = .ok (.ireturn, 1) := by decide +kernel
abbrev r_L_picture : Room := ⟨8, 2, 12, 126⟩
def f_L_picture_0 (σ : Mem) (x1 : Int32) (x2 : Int32) (x3 : Int32) : Option (Int32 × Mem) :=
  gbx (f_S_picture x1 x2 x3 σ) (fun r2 u1 =>
    gbm (m2 u1 40 (0 : Int32).toNatClampNeg r2) fun u3 =>
    some (0, u3)
    ) (fun E u => if E = "java/util/NoSuchElementException" then some (1, u) else if E = "java/lang/IndexOutOfBoundsException" then some (2, u) else none)
set_option maxRecDepth 100000 in
theorem m_L_picture_0 {κ : GC} {Γ : GA} (hX : Gx κ Γ 6 b_L_picture "PaneScreenLaw" r_L_picture (some .int)) (hTab : κ.2.2.2.2.2.2.2.2.2.exceptionTable.toList = tableOf [(0, 12, 15, 21), (0, 12, 19, 52)]) (hT : κ.2.1.stackTraces = false) (σ : Mem) (x1 : Int32) (x2 : Int32) (x3 : Int32) : GG κ Γ 6 (gQ gqi κ Γ r_L_picture) 0 0 σ [some (.ref (Γ.2.1 0)), some (.int x1), some (.int x2), some (.int x3), some (.ref (Γ.2.1 40)), none] 0 [] (f_L_picture_0 σ x1 x2 x3) := by
  unfold f_L_picture_0
  refine g_aload hX d_L_picture_0 (n := 2) rfl rfl ?_
  refine g_iconst hX 0 d_L_picture_2 (n := 3) rfl k_iconst_0 ?_
  refine g_aload_n hX 0 d_L_picture_3 (n := 4) rfl rfl rfl ?_
  refine g_iload_n hX 1 d_L_picture_4 (n := 5) rfl rfl rfl ?_
  refine g_iload_n hX 2 d_L_picture_5 (n := 6) rfl rfl rfl ?_
  refine g_iload_n hX 3 d_L_picture_6 (n := 7) rfl rfl rfl ?_
  refine g_ti hX hTab [_, _, _] rfl 2 12 (c_S_picture _ hT Γ x1 x2 x3 σ) gw_L_54 rfl sh_0 rfl d_L_picture_7 (n := 10) rfl ⟨by decide, by decide⟩ ⟨by decide, by decide⟩ (Nat.le_of_ble_eq_true rfl) rfl rfl (fun r2 u1 => ?_) (fun E u hk => ?_)
  · refine g_i2l hX d_L_picture_10 (n := 11) rfl ?_
    refine g_lastK hX r2 rfl (by decide) d_L_picture_11 (n := 12) rfl sh_40 ?_
    refine g_mem (fun u3 => ?_)
    refine g_goto hX 23 d_L_picture_12 rfl ?_
    refine g_iconst hX 0 d_L_picture_23 (n := 24) rfl k_iconst_0 ?_
    exact g_iret hX d_L_picture_24 (by decide) (by decide)
  · by_cases e0 : E = "java/util/NoSuchElementException"
    · subst e0
      refine ⟨15, ⟨[], ⟨0, 12, 15, 21⟩, [⟨0, 12, 19, 52⟩], "java/util/NoSuchElementException", rfl, (fun z hz => by cases hz), rfl, by decide, gc_L_21, hX.2.2.2.2.2.2.2.2.2.2.2.2.2.1 _ (by decide), rfl⟩, fun q9 => ?_⟩
      refine g_eq (o' := some (1, u)) (by simp) ?_
      refine g_astore hX [_, _, _, _, _, _] d_L_picture_15 (n := 17) rfl (by decide) rfl ?_
      refine g_iconst hX 1 d_L_picture_17 (n := 18) rfl k_iconst_1 ?_
      exact g_iret hX d_L_picture_18 (by decide) (by decide)
    · skip
      by_cases e1 : E = "java/lang/IndexOutOfBoundsException"
      · subst e1
        refine ⟨19, ⟨[⟨0, 12, 15, 21⟩], ⟨0, 12, 19, 52⟩, [], "java/lang/IndexOutOfBoundsException", rfl, (fun z hz => by
            rcases List.mem_singleton.1 hz with rfl
            exact Or.inr ⟨by decide, "java/util/NoSuchElementException", gc_L_21, hX.2.2.2.2.2.2.2.2.2.2.2.2.2.2 ("java/lang/IndexOutOfBoundsException", "java/util/NoSuchElementException") (by decide)⟩), rfl, by decide, gc_L_52, hX.2.2.2.2.2.2.2.2.2.2.2.2.2.1 _ (by decide), rfl⟩, fun q9 => ?_⟩
        refine g_eq (o' := some (2, u)) (by simp) ?_
        refine g_astore hX [_, _, _, _, _, _] d_L_picture_19 (n := 21) rfl (by decide) rfl ?_
        refine g_iconst hX 2 d_L_picture_21 (n := 22) rfl k_iconst_2 ?_
        exact g_iret hX d_L_picture_22 (by decide) (by decide)
      · exact absurd (by simp only [if_neg e0, if_neg e1]) hk
def f_L_picture (x1 : Int32) (x2 : Int32) (x3 : Int32) (σ : Mem) : Option (Int32 × Mem) := f_L_picture_0 σ x1 x2 x3
theorem c_L_picture (l : Launch) (hT : l.stackTraces = false) (Γ : GA) (x1 : Int32) (x2 : Int32) (x3 : Int32) (σ : Mem) : gH l y_L_picture b_L_picture 6 [(0, 12, 15, 21), (0, 12, 19, 52)] r_L_picture [.ref (Γ.2.1 0), .int x1, .int x2, .int x3, .ref (Γ.2.1 40)] Γ σ (f_L_picture x1 x2 x3 σ) :=
  gH.of [some (.ref (Γ.2.1 0)), some (.int x1), some (.int x2), some (.int x3), some (.ref (Γ.2.1 40)), none] (by decide) (Nat.le_of_ble_eq_true rfl) rfl rfl (fun κ hX hκ hTab => m_L_picture_0 hX hTab (by rw [hκ]; exact hT) σ x1 x2 x3)
/-! L_at -/
theorem d_L_at_0 : decode b_L_at 0 = .ok (.aload_n 3, 1) := by decide +kernel
theorem d_L_at_1 : decode b_L_at 1 = .ok (.iconst 0, 1) := by decide +kernel
theorem d_L_at_2 : decode b_L_at 2 = .ok (.aload_n 0, 1) := by decide +kernel
theorem d_L_at_3 : decode b_L_at 3 = .ok (.iload_n 1, 1) := by decide +kernel
theorem d_L_at_4 : decode b_L_at 4 = .ok (.iload_n 2, 1) := by decide +kernel
theorem d_L_at_5 : decode b_L_at 5 = .ok (.invokevirtual 58, 3) := by decide +kernel
theorem d_L_at_8 : decode b_L_at 8 = .ok (.i2l, 1) := by decide +kernel
theorem d_L_at_9 : decode b_L_at 9 = .ok (.lastore, 1) := by decide +kernel
theorem d_L_at_10 : decode b_L_at 10 = .ok (.goto 7, 3) := by decide +kernel
theorem d_L_at_13 : decode b_L_at 13 = .ok (.astore 4, 2) := by decide +kernel
theorem d_L_at_15 : decode b_L_at 15 = .ok (.iconst 1, 1) := by decide +kernel
theorem d_L_at_16 : decode b_L_at 16 = .ok (.ireturn, 1) := by decide +kernel
theorem d_L_at_17 : decode b_L_at 17 = .ok (.iconst 0, 1) := by decide +kernel
theorem d_L_at_18 : decode b_L_at 18 = .ok (.ireturn, 1) := by decide +kernel
abbrev r_L_at : Room := ⟨8, 1, 6, 124⟩
def f_L_at_0 (σ : Mem) (x1 : Int32) (x2 : Int32) : Option (Int32 × Mem) :=
  gbx (f_S_at x1 x2 σ) (fun r2 u1 =>
    gbm (m2 u1 40 (0 : Int32).toNatClampNeg r2) fun u3 =>
    some (0, u3)
    ) (fun E u => if E = "java/lang/IndexOutOfBoundsException" then some (1, u) else none)
set_option maxRecDepth 100000 in
theorem m_L_at_0 {κ : GC} {Γ : GA} (hX : Gx κ Γ 5 b_L_at "PaneScreenLaw" r_L_at (some .int)) (hTab : κ.2.2.2.2.2.2.2.2.2.exceptionTable.toList = tableOf [(0, 10, 13, 52)]) (hT : κ.2.1.stackTraces = false) (σ : Mem) (x1 : Int32) (x2 : Int32) : GG κ Γ 5 (gQ gqi κ Γ r_L_at) 0 0 σ [some (.ref (Γ.2.1 0)), some (.int x1), some (.int x2), some (.ref (Γ.2.1 40)), none] 0 [] (f_L_at_0 σ x1 x2) := by
  unfold f_L_at_0
  refine g_aload_n hX 3 d_L_at_0 (n := 1) rfl rfl rfl ?_
  refine g_iconst hX 0 d_L_at_1 (n := 2) rfl k_iconst_0 ?_
  refine g_aload_n hX 0 d_L_at_2 (n := 3) rfl rfl rfl ?_
  refine g_iload_n hX 1 d_L_at_3 (n := 4) rfl rfl rfl ?_
  refine g_iload_n hX 2 d_L_at_4 (n := 5) rfl rfl rfl ?_
  refine g_ti hX hTab [_, _] rfl 1 6 (c_S_at _ hT Γ x1 x2 σ) gw_L_58 rfl sh_0 rfl d_L_at_5 (n := 8) rfl ⟨by decide, by decide⟩ ⟨by decide, by decide⟩ (Nat.le_of_ble_eq_true rfl) rfl rfl (fun r2 u1 => ?_) (fun E u hk => ?_)
  · refine g_i2l hX d_L_at_8 (n := 9) rfl ?_
    refine g_lastK hX r2 rfl (by decide) d_L_at_9 (n := 10) rfl sh_40 ?_
    refine g_mem (fun u3 => ?_)
    refine g_goto hX 17 d_L_at_10 rfl ?_
    refine g_iconst hX 0 d_L_at_17 (n := 18) rfl k_iconst_0 ?_
    exact g_iret hX d_L_at_18 (by decide) (by decide)
  · by_cases e0 : E = "java/lang/IndexOutOfBoundsException"
    · subst e0
      refine ⟨13, ⟨[], ⟨0, 10, 13, 52⟩, [], "java/lang/IndexOutOfBoundsException", rfl, (fun z hz => by cases hz), rfl, by decide, gc_L_52, hX.2.2.2.2.2.2.2.2.2.2.2.2.2.1 _ (by decide), rfl⟩, fun q9 => ?_⟩
      refine g_eq (o' := some (1, u)) (by simp) ?_
      refine g_astore hX [_, _, _, _, _] d_L_at_13 (n := 15) rfl (by decide) rfl ?_
      refine g_iconst hX 1 d_L_at_15 (n := 16) rfl k_iconst_1 ?_
      exact g_iret hX d_L_at_16 (by decide) (by decide)
    · exact absurd (by simp only [if_neg e0]) hk
def f_L_at (x1 : Int32) (x2 : Int32) (σ : Mem) : Option (Int32 × Mem) := f_L_at_0 σ x1 x2
theorem c_L_at (l : Launch) (hT : l.stackTraces = false) (Γ : GA) (x1 : Int32) (x2 : Int32) (σ : Mem) : gH l y_L_at b_L_at 5 [(0, 10, 13, 52)] r_L_at [.ref (Γ.2.1 0), .int x1, .int x2, .ref (Γ.2.1 40)] Γ σ (f_L_at x1 x2 σ) :=
  gH.of [some (.ref (Γ.2.1 0)), some (.int x1), some (.int x2), some (.ref (Γ.2.1 40)), none] (by decide) (Nat.le_of_ble_eq_true rfl) rfl rfl (fun κ hX hκ hTab => m_L_at_0 hX hTab (by rw [hκ]; exact hT) σ x1 x2)
/-! L_visible -/
theorem d_L_visible_0 : decode b_L_visible 0 = .ok (.aload_n 2, 1) := by decide +kernel
theorem d_L_visible_1 : decode b_L_visible 1 = .ok (.iconst 0, 1) := by decide +kernel
theorem d_L_visible_2 : decode b_L_visible 2 = .ok (.aload_n 0, 1) := by decide +kernel
theorem d_L_visible_3 : decode b_L_visible 3 = .ok (.iload_n 1, 1) := by decide +kernel
theorem d_L_visible_4 : decode b_L_visible 4 = .ok (.invokevirtual 61, 3) := by decide +kernel
theorem d_L_visible_7 : decode b_L_visible 7 = .ok (.i2l, 1) := by decide +kernel
theorem d_L_visible_8 : decode b_L_visible 8 = .ok (.lastore, 1) := by decide +kernel
theorem d_L_visible_9 : decode b_L_visible 9 = .ok (.goto 6, 3) := by decide +kernel
theorem d_L_visible_12 : decode b_L_visible 12 = .ok (.astore_n 3, 1) := by decide +kernel
theorem d_L_visible_13 : decode b_L_visible 13 = .ok (.iconst 1, 1) := by decide +kernel
theorem d_L_visible_14 : decode b_L_visible 14 = .ok (.ireturn, 1) := by decide +kernel
theorem d_L_visible_15 : decode b_L_visible 15 = .ok (.iconst 0, 1) := by decide +kernel
theorem d_L_visible_16 : decode b_L_visible 16 = .ok (.ireturn, 1) := by decide +kernel
abbrev r_L_visible : Room := ⟨8, 1, 6, 126⟩
def f_L_visible_0 (σ : Mem) (x1 : Int32) : Option (Int32 × Mem) :=
  gbx (f_S_visible x1 σ) (fun r2 u1 =>
    gbm (m2 u1 40 (0 : Int32).toNatClampNeg r2) fun u3 =>
    some (0, u3)
    ) (fun E u => if E = "java/util/NoSuchElementException" then some (1, u) else none)
set_option maxRecDepth 100000 in
theorem m_L_visible_0 {κ : GC} {Γ : GA} (hX : Gx κ Γ 4 b_L_visible "PaneScreenLaw" r_L_visible (some .int)) (hTab : κ.2.2.2.2.2.2.2.2.2.exceptionTable.toList = tableOf [(0, 9, 12, 21)]) (hT : κ.2.1.stackTraces = false) (σ : Mem) (x1 : Int32) : GG κ Γ 4 (gQ gqi κ Γ r_L_visible) 0 0 σ [some (.ref (Γ.2.1 0)), some (.int x1), some (.ref (Γ.2.1 40)), none] 0 [] (f_L_visible_0 σ x1) := by
  unfold f_L_visible_0
  refine g_aload_n hX 2 d_L_visible_0 (n := 1) rfl rfl rfl ?_
  refine g_iconst hX 0 d_L_visible_1 (n := 2) rfl k_iconst_0 ?_
  refine g_aload_n hX 0 d_L_visible_2 (n := 3) rfl rfl rfl ?_
  refine g_iload_n hX 1 d_L_visible_3 (n := 4) rfl rfl rfl ?_
  refine g_ti hX hTab [_] rfl 1 6 (c_S_visible _ hT Γ x1 σ) gw_L_61 rfl sh_0 rfl d_L_visible_4 (n := 7) rfl ⟨by decide, by decide⟩ ⟨by decide, by decide⟩ (Nat.le_of_ble_eq_true rfl) rfl rfl (fun r2 u1 => ?_) (fun E u hk => ?_)
  · refine g_i2l hX d_L_visible_7 (n := 8) rfl ?_
    refine g_lastK hX r2 rfl (by decide) d_L_visible_8 (n := 9) rfl sh_40 ?_
    refine g_mem (fun u3 => ?_)
    refine g_goto hX 15 d_L_visible_9 rfl ?_
    refine g_iconst hX 0 d_L_visible_15 (n := 16) rfl k_iconst_0 ?_
    exact g_iret hX d_L_visible_16 (by decide) (by decide)
  · by_cases e0 : E = "java/util/NoSuchElementException"
    · subst e0
      refine ⟨12, ⟨[], ⟨0, 9, 12, 21⟩, [], "java/util/NoSuchElementException", rfl, (fun z hz => by cases hz), rfl, by decide, gc_L_21, hX.2.2.2.2.2.2.2.2.2.2.2.2.2.1 _ (by decide), rfl⟩, fun q9 => ?_⟩
      refine g_eq (o' := some (1, u)) (by simp) ?_
      refine g_astore_n hX 3 [_, _, _, _] d_L_visible_12 (n := 13) rfl rfl (by decide) rfl ?_
      refine g_iconst hX 1 d_L_visible_13 (n := 14) rfl k_iconst_1 ?_
      exact g_iret hX d_L_visible_14 (by decide) (by decide)
    · exact absurd (by simp only [if_neg e0]) hk
def f_L_visible (x1 : Int32) (σ : Mem) : Option (Int32 × Mem) := f_L_visible_0 σ x1
theorem c_L_visible (l : Launch) (hT : l.stackTraces = false) (Γ : GA) (x1 : Int32) (σ : Mem) : gH l y_L_visible b_L_visible 4 [(0, 9, 12, 21)] r_L_visible [.ref (Γ.2.1 0), .int x1, .ref (Γ.2.1 40)] Γ σ (f_L_visible x1 σ) :=
  gH.of [some (.ref (Γ.2.1 0)), some (.int x1), some (.ref (Γ.2.1 40)), none] (by decide) (Nat.le_of_ble_eq_true rfl) rfl rfl (fun κ hX hκ hTab => m_L_visible_0 hX hTab (by rw [hκ]; exact hT) σ x1)
/-! L_click -/
theorem d_L_click_0 : decode b_L_click 0 = .ok (.aload_n 3, 1) := by decide +kernel
theorem d_L_click_1 : decode b_L_click 1 = .ok (.iconst 0, 1) := by decide +kernel
theorem d_L_click_2 : decode b_L_click 2 = .ok (.aload_n 0, 1) := by decide +kernel
theorem d_L_click_3 : decode b_L_click 3 = .ok (.iload_n 1, 1) := by decide +kernel
theorem d_L_click_4 : decode b_L_click 4 = .ok (.iload_n 2, 1) := by decide +kernel
theorem d_L_click_5 : decode b_L_click 5 = .ok (.invokevirtual 65, 3) := by decide +kernel
theorem d_L_click_8 : decode b_L_click 8 = .ok (.i2l, 1) := by decide +kernel
theorem d_L_click_9 : decode b_L_click 9 = .ok (.lastore, 1) := by decide +kernel
theorem d_L_click_10 : decode b_L_click 10 = .ok (.goto 7, 3) := by decide +kernel
theorem d_L_click_13 : decode b_L_click 13 = .ok (.astore 4, 2) := by decide +kernel
theorem d_L_click_15 : decode b_L_click 15 = .ok (.iconst 1, 1) := by decide +kernel
theorem d_L_click_16 : decode b_L_click 16 = .ok (.ireturn, 1) := by decide +kernel
theorem d_L_click_17 : decode b_L_click 17 = .ok (.iconst 0, 1) := by decide +kernel
theorem d_L_click_18 : decode b_L_click 18 = .ok (.ireturn, 1) := by decide +kernel
abbrev r_L_click : Room := ⟨8, 1, 6, 176⟩
def f_L_click_0 (σ : Mem) (x1 : Int32) (x2 : Int32) : Option (Int32 × Mem) :=
  gbx (f_S_click x1 x2 σ) (fun r2 u1 =>
    gbm (m2 u1 40 (0 : Int32).toNatClampNeg r2) fun u3 =>
    some (0, u3)
    ) (fun E u => if E = "java/lang/IndexOutOfBoundsException" then some (1, u) else none)
set_option maxRecDepth 100000 in
theorem m_L_click_0 {κ : GC} {Γ : GA} (hX : Gx κ Γ 5 b_L_click "PaneScreenLaw" r_L_click (some .int)) (hTab : κ.2.2.2.2.2.2.2.2.2.exceptionTable.toList = tableOf [(0, 10, 13, 52)]) (hT : κ.2.1.stackTraces = false) (σ : Mem) (x1 : Int32) (x2 : Int32) : GG κ Γ 5 (gQ gqi κ Γ r_L_click) 0 0 σ [some (.ref (Γ.2.1 0)), some (.int x1), some (.int x2), some (.ref (Γ.2.1 40)), none] 0 [] (f_L_click_0 σ x1 x2) := by
  unfold f_L_click_0
  refine g_aload_n hX 3 d_L_click_0 (n := 1) rfl rfl rfl ?_
  refine g_iconst hX 0 d_L_click_1 (n := 2) rfl k_iconst_0 ?_
  refine g_aload_n hX 0 d_L_click_2 (n := 3) rfl rfl rfl ?_
  refine g_iload_n hX 1 d_L_click_3 (n := 4) rfl rfl rfl ?_
  refine g_iload_n hX 2 d_L_click_4 (n := 5) rfl rfl rfl ?_
  refine g_ti hX hTab [_, _] rfl 1 6 (c_S_click _ hT Γ x1 x2 σ) gw_L_65 rfl sh_0 rfl d_L_click_5 (n := 8) rfl ⟨by decide, by decide⟩ ⟨by decide, by decide⟩ (Nat.le_of_ble_eq_true rfl) rfl rfl (fun r2 u1 => ?_) (fun E u hk => ?_)
  · refine g_i2l hX d_L_click_8 (n := 9) rfl ?_
    refine g_lastK hX r2 rfl (by decide) d_L_click_9 (n := 10) rfl sh_40 ?_
    refine g_mem (fun u3 => ?_)
    refine g_goto hX 17 d_L_click_10 rfl ?_
    refine g_iconst hX 0 d_L_click_17 (n := 18) rfl k_iconst_0 ?_
    exact g_iret hX d_L_click_18 (by decide) (by decide)
  · by_cases e0 : E = "java/lang/IndexOutOfBoundsException"
    · subst e0
      refine ⟨13, ⟨[], ⟨0, 10, 13, 52⟩, [], "java/lang/IndexOutOfBoundsException", rfl, (fun z hz => by cases hz), rfl, by decide, gc_L_52, hX.2.2.2.2.2.2.2.2.2.2.2.2.2.1 _ (by decide), rfl⟩, fun q9 => ?_⟩
      refine g_eq (o' := some (1, u)) (by simp) ?_
      refine g_astore hX [_, _, _, _, _] d_L_click_13 (n := 15) rfl (by decide) rfl ?_
      refine g_iconst hX 1 d_L_click_15 (n := 16) rfl k_iconst_1 ?_
      exact g_iret hX d_L_click_16 (by decide) (by decide)
    · exact absurd (by simp only [if_neg e0]) hk
def f_L_click (x1 : Int32) (x2 : Int32) (σ : Mem) : Option (Int32 × Mem) := f_L_click_0 σ x1 x2
theorem c_L_click (l : Launch) (hT : l.stackTraces = false) (Γ : GA) (x1 : Int32) (x2 : Int32) (σ : Mem) : gH l y_L_click b_L_click 5 [(0, 10, 13, 52)] r_L_click [.ref (Γ.2.1 0), .int x1, .int x2, .ref (Γ.2.1 40)] Γ σ (f_L_click x1 x2 σ) :=
  gH.of [some (.ref (Γ.2.1 0)), some (.int x1), some (.int x2), some (.ref (Γ.2.1 40)), none] (by decide) (Nat.le_of_ble_eq_true rfl) rfl rfl (fun κ hX hκ hTab => m_L_click_0 hX hTab (by rw [hκ]; exact hT) σ x1 x2)
/-! L_next -/
theorem d_L_next_0 : decode b_L_next 0 = .ok (.aload_n 1, 1) := by decide +kernel
theorem d_L_next_1 : decode b_L_next 1 = .ok (.iconst 0, 1) := by decide +kernel
theorem d_L_next_2 : decode b_L_next 2 = .ok (.aload_n 0, 1) := by decide +kernel
theorem d_L_next_3 : decode b_L_next 3 = .ok (.invokevirtual 68, 3) := by decide +kernel
theorem d_L_next_6 : decode b_L_next 6 = .ok (.i2l, 1) := by decide +kernel
theorem d_L_next_7 : decode b_L_next 7 = .ok (.lastore, 1) := by decide +kernel
theorem d_L_next_8 : decode b_L_next 8 = .ok (.goto 6, 3) := by decide +kernel
theorem d_L_next_11 : decode b_L_next 11 = .ok (.astore_n 2, 1) := by decide +kernel
theorem d_L_next_12 : decode b_L_next 12 = .ok (.iconst 1, 1) := by decide +kernel
theorem d_L_next_13 : decode b_L_next 13 = .ok (.ireturn, 1) := by decide +kernel
theorem d_L_next_14 : decode b_L_next 14 = .ok (.iconst 0, 1) := by decide +kernel
theorem d_L_next_15 : decode b_L_next 15 = .ok (.ireturn, 1) := by decide +kernel
abbrev r_L_next : Room := ⟨7, 1, 6, 101⟩
def f_L_next_0 (σ : Mem) : Option (Int32 × Mem) :=
  gbx (f_S_next σ) (fun r2 u1 =>
    gbm (m2 u1 40 (0 : Int32).toNatClampNeg r2) fun u3 =>
    some (0, u3)
    ) (fun E u => if E = "java/util/NoSuchElementException" then some (1, u) else none)
set_option maxRecDepth 100000 in
theorem m_L_next_0 {κ : GC} {Γ : GA} (hX : Gx κ Γ 3 b_L_next "PaneScreenLaw" r_L_next (some .int)) (hTab : κ.2.2.2.2.2.2.2.2.2.exceptionTable.toList = tableOf [(0, 8, 11, 21)]) (hT : κ.2.1.stackTraces = false) (σ : Mem) : GG κ Γ 3 (gQ gqi κ Γ r_L_next) 0 0 σ [some (.ref (Γ.2.1 0)), some (.ref (Γ.2.1 40)), none] 0 [] (f_L_next_0 σ) := by
  unfold f_L_next_0
  refine g_aload_n hX 1 d_L_next_0 (n := 1) rfl rfl rfl ?_
  refine g_iconst hX 0 d_L_next_1 (n := 2) rfl k_iconst_0 ?_
  refine g_aload_n hX 0 d_L_next_2 (n := 3) rfl rfl rfl ?_
  refine g_ti hX hTab [] rfl 1 6 (c_S_next _ hT Γ σ) gw_L_68 rfl sh_0 rfl d_L_next_3 (n := 6) rfl ⟨by decide, by decide⟩ ⟨by decide, by decide⟩ (Nat.le_of_ble_eq_true rfl) rfl rfl (fun r2 u1 => ?_) (fun E u hk => ?_)
  · refine g_i2l hX d_L_next_6 (n := 7) rfl ?_
    refine g_lastK hX r2 rfl (by decide) d_L_next_7 (n := 8) rfl sh_40 ?_
    refine g_mem (fun u3 => ?_)
    refine g_goto hX 14 d_L_next_8 rfl ?_
    refine g_iconst hX 0 d_L_next_14 (n := 15) rfl k_iconst_0 ?_
    exact g_iret hX d_L_next_15 (by decide) (by decide)
  · by_cases e0 : E = "java/util/NoSuchElementException"
    · subst e0
      refine ⟨11, ⟨[], ⟨0, 8, 11, 21⟩, [], "java/util/NoSuchElementException", rfl, (fun z hz => by cases hz), rfl, by decide, gc_L_21, hX.2.2.2.2.2.2.2.2.2.2.2.2.2.1 _ (by decide), rfl⟩, fun q9 => ?_⟩
      refine g_eq (o' := some (1, u)) (by simp) ?_
      refine g_astore_n hX 2 [_, _, _] d_L_next_11 (n := 12) rfl rfl (by decide) rfl ?_
      refine g_iconst hX 1 d_L_next_12 (n := 13) rfl k_iconst_1 ?_
      exact g_iret hX d_L_next_13 (by decide) (by decide)
    · exact absurd (by simp only [if_neg e0]) hk
def f_L_next (σ : Mem) : Option (Int32 × Mem) := f_L_next_0 σ
theorem c_L_next (l : Launch) (hT : l.stackTraces = false) (Γ : GA) (σ : Mem) : gH l y_L_next b_L_next 3 [(0, 8, 11, 21)] r_L_next [.ref (Γ.2.1 0), .ref (Γ.2.1 40)] Γ σ (f_L_next σ) :=
  gH.of [some (.ref (Γ.2.1 0)), some (.ref (Γ.2.1 40)), none] (by decide) (Nat.le_of_ble_eq_true rfl) rfl rfl (fun κ hX hκ hTab => m_L_next_0 hX hTab (by rw [hκ]; exact hT) σ)
/-! L_event -/
theorem d_L_event_0 : decode b_L_event 0 = .ok (.aload_n 2, 1) := by decide +kernel
theorem d_L_event_1 : decode b_L_event 1 = .ok (.iconst 0, 1) := by decide +kernel
theorem d_L_event_2 : decode b_L_event 2 = .ok (.aload_n 0, 1) := by decide +kernel
theorem d_L_event_3 : decode b_L_event 3 = .ok (.iload_n 1, 1) := by decide +kernel
theorem d_L_event_4 : decode b_L_event 4 = .ok (.invokevirtual 72, 3) := by decide +kernel
theorem d_L_event_7 : decode b_L_event 7 = .ok (.i2l, 1) := by decide +kernel
theorem d_L_event_8 : decode b_L_event 8 = .ok (.lastore, 1) := by decide +kernel
theorem d_L_event_9 : decode b_L_event 9 = .ok (.goto 9, 3) := by decide +kernel
theorem d_L_event_12 : decode b_L_event 12 = .ok (.astore_n 3, 1) := by decide +kernel
theorem d_L_event_13 : decode b_L_event 13 = .ok (.iconst 1, 1) := by decide +kernel
theorem d_L_event_14 : decode b_L_event 14 = .ok (.ireturn, 1) := by decide +kernel
theorem d_L_event_15 : decode b_L_event 15 = .ok (.astore_n 3, 1) := by decide +kernel
theorem d_L_event_16 : decode b_L_event 16 = .ok (.iconst 2, 1) := by decide +kernel
theorem d_L_event_17 : decode b_L_event 17 = .ok (.ireturn, 1) := by decide +kernel
theorem d_L_event_18 : decode b_L_event 18 = .ok (.iconst 0, 1) := by decide +kernel
theorem d_L_event_19 : decode b_L_event 19 = .ok (.ireturn, 1) := by decide +kernel
abbrev r_L_event : Room := ⟨7, 1, 6, 102⟩
def f_L_event_0 (σ : Mem) (x1 : Int32) : Option (Int32 × Mem) :=
  gbx (f_S_event x1 σ) (fun r2 u1 =>
    gbm (m2 u1 40 (0 : Int32).toNatClampNeg r2) fun u3 =>
    some (0, u3)
    ) (fun E u => if E = "java/lang/IllegalStateException" then some (1, u) else if E = "java/lang/IllegalArgumentException" then some (2, u) else none)
set_option maxRecDepth 100000 in
theorem m_L_event_0 {κ : GC} {Γ : GA} (hX : Gx κ Γ 4 b_L_event "PaneScreenLaw" r_L_event (some .int)) (hTab : κ.2.2.2.2.2.2.2.2.2.exceptionTable.toList = tableOf [(0, 9, 12, 15), (0, 9, 15, 13)]) (hT : κ.2.1.stackTraces = false) (σ : Mem) (x1 : Int32) : GG κ Γ 4 (gQ gqi κ Γ r_L_event) 0 0 σ [some (.ref (Γ.2.1 0)), some (.int x1), some (.ref (Γ.2.1 40)), none] 0 [] (f_L_event_0 σ x1) := by
  unfold f_L_event_0
  refine g_aload_n hX 2 d_L_event_0 (n := 1) rfl rfl rfl ?_
  refine g_iconst hX 0 d_L_event_1 (n := 2) rfl k_iconst_0 ?_
  refine g_aload_n hX 0 d_L_event_2 (n := 3) rfl rfl rfl ?_
  refine g_iload_n hX 1 d_L_event_3 (n := 4) rfl rfl rfl ?_
  refine g_ti hX hTab [_] rfl 1 6 (c_S_event _ hT Γ x1 σ) gw_L_72 rfl sh_0 rfl d_L_event_4 (n := 7) rfl ⟨by decide, by decide⟩ ⟨by decide, by decide⟩ (Nat.le_of_ble_eq_true rfl) rfl rfl (fun r2 u1 => ?_) (fun E u hk => ?_)
  · refine g_i2l hX d_L_event_7 (n := 8) rfl ?_
    refine g_lastK hX r2 rfl (by decide) d_L_event_8 (n := 9) rfl sh_40 ?_
    refine g_mem (fun u3 => ?_)
    refine g_goto hX 18 d_L_event_9 rfl ?_
    refine g_iconst hX 0 d_L_event_18 (n := 19) rfl k_iconst_0 ?_
    exact g_iret hX d_L_event_19 (by decide) (by decide)
  · by_cases e0 : E = "java/lang/IllegalStateException"
    · subst e0
      refine ⟨12, ⟨[], ⟨0, 9, 12, 15⟩, [⟨0, 9, 15, 13⟩], "java/lang/IllegalStateException", rfl, (fun z hz => by cases hz), rfl, by decide, gc_L_15, hX.2.2.2.2.2.2.2.2.2.2.2.2.2.1 _ (by decide), rfl⟩, fun q9 => ?_⟩
      refine g_eq (o' := some (1, u)) (by simp) ?_
      refine g_astore_n hX 3 [_, _, _, _] d_L_event_12 (n := 13) rfl rfl (by decide) rfl ?_
      refine g_iconst hX 1 d_L_event_13 (n := 14) rfl k_iconst_1 ?_
      exact g_iret hX d_L_event_14 (by decide) (by decide)
    · skip
      by_cases e1 : E = "java/lang/IllegalArgumentException"
      · subst e1
        refine ⟨15, ⟨[⟨0, 9, 12, 15⟩], ⟨0, 9, 15, 13⟩, [], "java/lang/IllegalArgumentException", rfl, (fun z hz => by
            rcases List.mem_singleton.1 hz with rfl
            exact Or.inr ⟨by decide, "java/lang/IllegalStateException", gc_L_15, hX.2.2.2.2.2.2.2.2.2.2.2.2.2.2 ("java/lang/IllegalArgumentException", "java/lang/IllegalStateException") (by decide)⟩), rfl, by decide, gc_L_13, hX.2.2.2.2.2.2.2.2.2.2.2.2.2.1 _ (by decide), rfl⟩, fun q9 => ?_⟩
        refine g_eq (o' := some (2, u)) (by simp) ?_
        refine g_astore_n hX 3 [_, _, _, _] d_L_event_15 (n := 16) rfl rfl (by decide) rfl ?_
        refine g_iconst hX 2 d_L_event_16 (n := 17) rfl k_iconst_2 ?_
        exact g_iret hX d_L_event_17 (by decide) (by decide)
      · exact absurd (by simp only [if_neg e0, if_neg e1]) hk
def f_L_event (x1 : Int32) (σ : Mem) : Option (Int32 × Mem) := f_L_event_0 σ x1
theorem c_L_event (l : Launch) (hT : l.stackTraces = false) (Γ : GA) (x1 : Int32) (σ : Mem) : gH l y_L_event b_L_event 4 [(0, 9, 12, 15), (0, 9, 15, 13)] r_L_event [.ref (Γ.2.1 0), .int x1, .ref (Γ.2.1 40)] Γ σ (f_L_event x1 σ) :=
  gH.of [some (.ref (Γ.2.1 0)), some (.int x1), some (.ref (Γ.2.1 40)), none] (by decide) (Nat.le_of_ble_eq_true rfl) rfl rfl (fun κ hX hκ hTab => m_L_event_0 hX hTab (by rw [hκ]; exact hT) σ x1)
/-! L_figure -/
theorem d_L_figure_0 : decode b_L_figure 0 = .ok (.aload_n 2, 1) := by decide +kernel
theorem d_L_figure_1 : decode b_L_figure 1 = .ok (.iconst 0, 1) := by decide +kernel
theorem d_L_figure_2 : decode b_L_figure 2 = .ok (.aload_n 0, 1) := by decide +kernel
theorem d_L_figure_3 : decode b_L_figure 3 = .ok (.iload_n 1, 1) := by decide +kernel
theorem d_L_figure_4 : decode b_L_figure 4 = .ok (.invokevirtual 75, 3) := by decide +kernel
theorem d_L_figure_7 : decode b_L_figure 7 = .ok (.i2l, 1) := by decide +kernel
theorem d_L_figure_8 : decode b_L_figure 8 = .ok (.lastore, 1) := by decide +kernel
theorem d_L_figure_9 : decode b_L_figure 9 = .ok (.goto 6, 3) := by decide +kernel
theorem d_L_figure_12 : decode b_L_figure 12 = .ok (.astore_n 3, 1) := by decide +kernel
theorem d_L_figure_13 : decode b_L_figure 13 = .ok (.iconst 1, 1) := by decide +kernel
theorem d_L_figure_14 : decode b_L_figure 14 = .ok (.ireturn, 1) := by decide +kernel
theorem d_L_figure_15 : decode b_L_figure 15 = .ok (.iconst 0, 1) := by decide +kernel
theorem d_L_figure_16 : decode b_L_figure 16 = .ok (.ireturn, 1) := by decide +kernel
abbrev r_L_figure : Room := ⟨7, 1, 6, 102⟩
def f_L_figure_0 (σ : Mem) (x1 : Int32) : Option (Int32 × Mem) :=
  gbx (f_S_figure x1 σ) (fun r2 u1 =>
    gbm (m2 u1 40 (0 : Int32).toNatClampNeg r2) fun u3 =>
    some (0, u3)
    ) (fun E u => if E = "java/lang/IllegalArgumentException" then some (1, u) else none)
set_option maxRecDepth 100000 in
theorem m_L_figure_0 {κ : GC} {Γ : GA} (hX : Gx κ Γ 4 b_L_figure "PaneScreenLaw" r_L_figure (some .int)) (hTab : κ.2.2.2.2.2.2.2.2.2.exceptionTable.toList = tableOf [(0, 9, 12, 13)]) (hT : κ.2.1.stackTraces = false) (σ : Mem) (x1 : Int32) : GG κ Γ 4 (gQ gqi κ Γ r_L_figure) 0 0 σ [some (.ref (Γ.2.1 0)), some (.int x1), some (.ref (Γ.2.1 40)), none] 0 [] (f_L_figure_0 σ x1) := by
  unfold f_L_figure_0
  refine g_aload_n hX 2 d_L_figure_0 (n := 1) rfl rfl rfl ?_
  refine g_iconst hX 0 d_L_figure_1 (n := 2) rfl k_iconst_0 ?_
  refine g_aload_n hX 0 d_L_figure_2 (n := 3) rfl rfl rfl ?_
  refine g_iload_n hX 1 d_L_figure_3 (n := 4) rfl rfl rfl ?_
  refine g_ti hX hTab [_] rfl 1 6 (c_S_figure _ hT Γ x1 σ) gw_L_75 rfl sh_0 rfl d_L_figure_4 (n := 7) rfl ⟨by decide, by decide⟩ ⟨by decide, by decide⟩ (Nat.le_of_ble_eq_true rfl) rfl rfl (fun r2 u1 => ?_) (fun E u hk => ?_)
  · refine g_i2l hX d_L_figure_7 (n := 8) rfl ?_
    refine g_lastK hX r2 rfl (by decide) d_L_figure_8 (n := 9) rfl sh_40 ?_
    refine g_mem (fun u3 => ?_)
    refine g_goto hX 15 d_L_figure_9 rfl ?_
    refine g_iconst hX 0 d_L_figure_15 (n := 16) rfl k_iconst_0 ?_
    exact g_iret hX d_L_figure_16 (by decide) (by decide)
  · by_cases e0 : E = "java/lang/IllegalArgumentException"
    · subst e0
      refine ⟨12, ⟨[], ⟨0, 9, 12, 13⟩, [], "java/lang/IllegalArgumentException", rfl, (fun z hz => by cases hz), rfl, by decide, gc_L_13, hX.2.2.2.2.2.2.2.2.2.2.2.2.2.1 _ (by decide), rfl⟩, fun q9 => ?_⟩
      refine g_eq (o' := some (1, u)) (by simp) ?_
      refine g_astore_n hX 3 [_, _, _, _] d_L_figure_12 (n := 13) rfl rfl (by decide) rfl ?_
      refine g_iconst hX 1 d_L_figure_13 (n := 14) rfl k_iconst_1 ?_
      exact g_iret hX d_L_figure_14 (by decide) (by decide)
    · exact absurd (by simp only [if_neg e0]) hk
def f_L_figure (x1 : Int32) (σ : Mem) : Option (Int32 × Mem) := f_L_figure_0 σ x1
theorem c_L_figure (l : Launch) (hT : l.stackTraces = false) (Γ : GA) (x1 : Int32) (σ : Mem) : gH l y_L_figure b_L_figure 4 [(0, 9, 12, 13)] r_L_figure [.ref (Γ.2.1 0), .int x1, .ref (Γ.2.1 40)] Γ σ (f_L_figure x1 σ) :=
  gH.of [some (.ref (Γ.2.1 0)), some (.int x1), some (.ref (Γ.2.1 40)), none] (by decide) (Nat.le_of_ble_eq_true rfl) rfl rfl (fun κ hX hκ hTab => m_L_figure_0 hX hTab (by rw [hκ]; exact hT) σ x1)
