theorem d_P_init_0 : decode b_P_init 0 = .ok (.aload_n 0, 1) := by decide +kernel
theorem d_P_init_1 : decode b_P_init 1 = .ok (.invokespecial 1, 3) := by decide +kernel
theorem d_P_init_4 : decode b_P_init 4 = .ok (.return_, 1) := by decide +kernel
abbrev r_P_init : Room := ⟨1, 0, 0, 20⟩
set_option maxHeartbeats 4000000 in
set_option maxRecDepth 100000 in
theorem c_P_init (l : Launch) (dC : Nat → ClassId) (dI : Nat → Nat → Nat) (h0 sz : Nat) : Met l y_P_init (gws y_P_init b_P_init 1 none) r_P_init (va_Pc [.ref h0] (fun U => U.heap.size = sz ∧ va_P (dC, dI) gCl [(h0, .inr (4, [.int 0, .int 0, .int 0, .int 0, .int 0, .int 0, .int 0, .int 0]))] U.heap ∧ va_K (dC, dI) gCl [] U ∧ va_D (fun _ => True) [(h0, .inr (4, [.int 0, .int 0, .int 0, .int 0, .int 0, .int 0, .int 0, .int 0]))])) (va_Qv (fun _ : Unit => True) (fun _ t => va_P (dC, dI) gCl [(h0, .inr (4, [.int 0, .int 0, .int 0, .int 0, .int 0, .int 0, .int 0, .int 0]))] t.heap ∧ va_K (dC, dI) gCl [] t ∧ va_D (va_A [(h0, .inr (4, [.int 0, .int 0, .int 0, .int 0, .int 0, .int 0, .int 0, .int 0]))] sz) [(h0, .inr (4, [.int 0, .int 0, .int 0, .int 0, .int 0, .int 0, .int 0, .int 0]))]) (va_A [(h0, .inr (4, [.int 0, .int 0, .int 0, .int 0, .int 0, .int 0, .int 0, .int 0]))] sz)) 0 0 (va_A [(h0, .inr (4, [.int 0, .int 0, .int 0, .int 0, .int 0, .int 0, .int 0, .int 0]))] sz) := by
  refine Met.ofW (cc := b_P_init) (maxL := 1) (ret := none) (by decide) rfl ?_
  intro p e s m args below meth c s₁ B hml hv
  obtain ⟨rfl, hsz, hP, hK, hD0⟩ := hv
  have hx := B.exec
  have hb := B.bytes
  have hr := B.returns
  have hts : ∀ w ∈ TW, w.before _ s = true := fun w hw => atoms_spec (ws := gws y_P_init b_P_init 1 none) B.pre w (List.mem_cons_of_mem _ hw)
  have hown : s.vm.findClass "PaneScreen$Pane" = some m.cls := findClass_of_methodNamed B.named
  have hlocks := B.notSynchronized
  have hin : meth.name = "<init>" := (name_of_methodNamed B.named B.method).1
  subst hsz
  have hD := hD0.self (sz := s.heap.size)
  generalize hAe : va_A [(h0, .inr (4, [.int 0, .int 0, .int 0, .int 0, .int 0, .int 0, .int 0, .int 0]))] s.heap.size = A at hD ⊢
  have hA : ∀ q : Nat, s.heap.size ≤ q → A q := fun q h => by rw [← hAe]; exact Or.inr h
  have hS : va_S A s.heap s.heap [] := va_S.rf
  have hP : va_P (dC, dI) gCl [(h0, .inr (4, [.int 0, .int 0, .int 0, .int 0, .int 0, .int 0, .int 0, .int 0]))] s.heap := hP
  have hl := lv_entry ([.ref h0]) (n := 1) (Nat.le_of_ble_eq_true rfl)
  rw [lg_entry_eq]
  generalize (lg_sl ([.ref h0]) ++ List.replicate (1 - (lg_sl ([.ref h0])).length) Slot.unset).toArray = ls at hl ⊢
  have hl : lv_has ls 1 [(0, .ref h0)] := hl
  refine lv_aload_n hx hb d_P_init_0 rfl (lv_at hl 0 rfl) ?_
  refine W.objInit hx hb hown (hts _ w_516) (hts _ w_517) (hts _ w_518) rfl (by rw [hml]; exact hl.1) rfl d_P_init_1 (Nat.le_of_ble_eq_true rfl) (Nat.le_of_ble_eq_true rfl) ?_
  refine W.eq (g2 := F0 m 4 ls []) rfl ?_
  exact W.vret hx hb hr (fun t ht hW => ⟨⟨(), rfl, trivial, by rw [ht]; exact hP, va_K.moved hW.alike hK, hD⟩, hS.F ht⟩) hS.2.2 d_P_init_4
theorem d_O_init_0 : decode b_O_init 0 = .ok (.aload_n 0, 1) := by decide +kernel
theorem d_O_init_1 : decode b_O_init 1 = .ok (.invokespecial 3, 3) := by decide +kernel
theorem d_O_init_4 : decode b_O_init 4 = .ok (.aload_n 0, 1) := by decide +kernel
theorem d_O_init_5 : decode b_O_init 5 = .ok (.bipush 8, 2) := by decide +kernel
theorem d_O_init_7 : decode b_O_init 7 = .ok (.newarray .int, 2) := by decide +kernel
theorem d_O_init_9 : decode b_O_init 9 = .ok (.putfield 9, 3) := by decide +kernel
theorem d_O_init_12 : decode b_O_init 12 = .ok (.return_, 1) := by decide +kernel
abbrev r_O_init : Room := ⟨1, 1, 8, 20⟩
set_option maxHeartbeats 4000000 in
set_option maxRecDepth 100000 in
theorem c_O_init (l : Launch) (dC : Nat → ClassId) (dI : Nat → Nat → Nat) (h0 sz : Nat) : Met l y_O_init (gws y_O_init b_O_init 1 none) r_O_init (va_Pc [.ref h0] (fun U => U.heap.size = sz ∧ va_P (dC, dI) gCl [(h0, .inr (3, [.null, .int 0]))] U.heap ∧ va_K (dC, dI) gCl [] U ∧ va_D (fun _ => True) [(h0, .inr (3, [.null, .int 0]))])) (va_Qv (fun _ : Unit => True) (fun _ t => ∃ (a1 : Nat), ∃ (c1 : ClassId), va_P (dC, dI) gCl [(h0, .inr (3, [.ref a1, .int 0])), (a1, .inl (c1, 8, .inl (fun _ => 0)))] t.heap ∧ va_K (dC, dI) gCl [(c1, .int)] t ∧ va_D (va_A [(h0, .inr (3, [.null, .int 0]))] sz) [(h0, .inr (3, [.ref a1, .int 0])), (a1, .inl (c1, 8, .inl (fun _ => 0)))]) (va_A [(h0, .inr (3, [.null, .int 0]))] sz)) 1 8 (va_A [(h0, .inr (3, [.null, .int 0]))] sz) := by
  refine Met.ofW (cc := b_O_init) (maxL := 1) (ret := none) (by decide) rfl ?_
  intro p e s m args below meth c s₁ B hml hv
  obtain ⟨rfl, hsz, hP, hK, hD0⟩ := hv
  have hx := B.exec
  have hb := B.bytes
  have hr := B.returns
  have hts : ∀ w ∈ TW, w.before _ s = true := fun w hw => atoms_spec (ws := gws y_O_init b_O_init 1 none) B.pre w (List.mem_cons_of_mem _ hw)
  have hown : s.vm.findClass "PaneScreen$Order" = some m.cls := findClass_of_methodNamed B.named
  have hlocks := B.notSynchronized
  have hin : meth.name = "<init>" := (name_of_methodNamed B.named B.method).1
  subst hsz
  have hD := hD0.self (sz := s.heap.size)
  generalize hAe : va_A [(h0, .inr (3, [.null, .int 0]))] s.heap.size = A at hD ⊢
  have hA : ∀ q : Nat, s.heap.size ≤ q → A q := fun q h => by rw [← hAe]; exact Or.inr h
  have hS : va_S A s.heap s.heap [] := va_S.rf
  have hP : va_P (dC, dI) gCl [(h0, .inr (3, [.null, .int 0]))] s.heap := hP
  have hl := lv_entry ([.ref h0]) (n := 1) (Nat.le_of_ble_eq_true rfl)
  rw [lg_entry_eq]
  generalize (lg_sl ([.ref h0]) ++ List.replicate (1 - (lg_sl ([.ref h0])).length) Slot.unset).toArray = ls at hl ⊢
  have hl : lv_has ls 1 [(0, .ref h0)] := hl
  refine lv_aload_n hx hb d_O_init_0 rfl (lv_at hl 0 rfl) ?_
  refine W.objInit hx hb hown (hts _ w_519) (hts _ w_517) (hts _ w_518) rfl (by rw [hml]; exact hl.1) rfl d_O_init_1 (Nat.le_of_ble_eq_true rfl) (Nat.le_of_ble_eq_true rfl) ?_
  refine W.eq (g2 := F0 m 4 ls []) rfl ?_
  refine lv_aload_n hx hb d_O_init_4 rfl (lv_at hl 0 rfl) ?_
  refine lv_bipush (v := 8) hx hb d_O_init_5 k_bipush_8 ?_
  refine va_newa (atype := .int) (N' := 8) (a0 := (8, .inl (fun _ => 0))) (ty := .int) (n := 8) hx hb (hts (.arrayClass .int) w_520) rfl hK hP hD hS hA (fun _ => rfl) (by decide) (by decide) (by decide) (Nat.le_of_ble_eq_true rfl) (Nat.le_of_ble_eq_true rfl) d_O_init_7 (fun a1 c1 H hK hP hD hS => ?_)
  have hP : va_P (dC, dI) gCl [(h0, .inr (3, [.null, .int 0])), (a1, .inl (c1, 8, .inl (fun _ => 0)))] H := hP
  have hD : va_D A [(h0, .inr (3, [.null, .int 0])), (a1, .inl (c1, 8, .inl (fun _ => 0)))] := hD
  have hK : va_K (dC, dI) gCl [(c1, .int)] s := hK
  refine W.widen (k := 1) (n := 8) (by omega) (by omega) ?_
  refine va_putF (D := (dC, dI)) (ci := 3) (v := .ref a1) (ty := .array .int) (C := "PaneScreen$Order") (T := F_O) (N := 2) hx hb hts lays_O ty_O ty_O_ok nm_O hown hK hP hD hS 0 rfl rfl 0 (by decide) (hts _ w_121) (fun _ h9 => h9) rfl hin rfl (by decide +kernel) rfl rfl (Nat.le_of_ble_eq_true rfl) d_O_init_9 (fun H locs hP hD hS => ?_)
  have hP : va_P (dC, dI) gCl [(h0, .inr (3, [.ref a1, .int 0])), (a1, .inl (c1, 8, .inl (fun _ => 0)))] H := hP
  have hD : va_D A [(h0, .inr (3, [.ref a1, .int 0])), (a1, .inl (c1, 8, .inl (fun _ => 0)))] := hD
  exact W.vret hx hb hr (fun t ht hW => ⟨⟨(), rfl, trivial, a1, c1, by rw [ht]; exact hP, va_K.moved hW.alike hK, hD⟩, hS.F ht⟩) hS.2.2 d_O_init_12
theorem d_T_init_0 : decode b_T_init 0 = .ok (.aload_n 0, 1) := by decide +kernel
theorem d_T_init_1 : decode b_T_init 1 = .ok (.invokespecial 3, 3) := by decide +kernel
theorem d_T_init_4 : decode b_T_init 4 = .ok (.aload_n 0, 1) := by decide +kernel
theorem d_T_init_5 : decode b_T_init 5 = .ok (.sipush 400, 3) := by decide +kernel
theorem d_T_init_8 : decode b_T_init 8 = .ok (.newarray .int, 2) := by decide +kernel
theorem d_T_init_10 : decode b_T_init 10 = .ok (.putfield 9, 3) := by decide +kernel
theorem d_T_init_13 : decode b_T_init 13 = .ok (.aload_n 0, 1) := by decide +kernel
theorem d_T_init_14 : decode b_T_init 14 = .ok (.sipush 400, 3) := by decide +kernel
theorem d_T_init_17 : decode b_T_init 17 = .ok (.newarray .int, 2) := by decide +kernel
theorem d_T_init_19 : decode b_T_init 19 = .ok (.putfield 15, 3) := by decide +kernel
theorem d_T_init_22 : decode b_T_init 22 = .ok (.aload_n 0, 1) := by decide +kernel
theorem d_T_init_23 : decode b_T_init 23 = .ok (.sipush 400, 3) := by decide +kernel
theorem d_T_init_26 : decode b_T_init 26 = .ok (.newarray .boolean, 2) := by decide +kernel
theorem d_T_init_28 : decode b_T_init 28 = .ok (.putfield 18, 3) := by decide +kernel
theorem d_T_init_31 : decode b_T_init 31 = .ok (.return_, 1) := by decide +kernel
abbrev r_T_init : Room := ⟨1, 3, 1200, 20⟩
set_option maxHeartbeats 4000000 in
set_option maxRecDepth 100000 in
theorem c_T_init (l : Launch) (dC : Nat → ClassId) (dI : Nat → Nat → Nat) (h0 sz : Nat) : Met l y_T_init (gws y_T_init b_T_init 1 none) r_T_init (va_Pc [.ref h0] (fun U => U.heap.size = sz ∧ va_P (dC, dI) gCl [(h0, .inr (5, [.null, .null, .null]))] U.heap ∧ va_K (dC, dI) gCl [] U ∧ va_D (fun _ => True) [(h0, .inr (5, [.null, .null, .null]))])) (va_Qv (fun _ : Unit => True) (fun _ t => ∃ (a1 : Nat), ∃ (c1 : ClassId), ∃ (a2 : Nat), ∃ (c2 : ClassId), ∃ (a3 : Nat), ∃ (c3 : ClassId), va_P (dC, dI) gCl [(h0, .inr (5, [.ref a1, .ref a2, .ref a3])), (a1, .inl (c1, 400, .inl (fun _ => 0))), (a2, .inl (c2, 400, .inl (fun _ => 0))), (a3, .inl (c3, 400, .inl (fun _ => 0)))] t.heap ∧ va_K (dC, dI) gCl [(c1, .int), (c2, .int), (c3, .boolean)] t ∧ va_D (va_A [(h0, .inr (5, [.null, .null, .null]))] sz) [(h0, .inr (5, [.ref a1, .ref a2, .ref a3])), (a1, .inl (c1, 400, .inl (fun _ => 0))), (a2, .inl (c2, 400, .inl (fun _ => 0))), (a3, .inl (c3, 400, .inl (fun _ => 0)))]) (va_A [(h0, .inr (5, [.null, .null, .null]))] sz)) 3 1200 (va_A [(h0, .inr (5, [.null, .null, .null]))] sz) := by
  refine Met.ofW (cc := b_T_init) (maxL := 1) (ret := none) (by decide) rfl ?_
  intro p e s m args below meth c s₁ B hml hv
  obtain ⟨rfl, hsz, hP, hK, hD0⟩ := hv
  have hx := B.exec
  have hb := B.bytes
  have hr := B.returns
  have hts : ∀ w ∈ TW, w.before _ s = true := fun w hw => atoms_spec (ws := gws y_T_init b_T_init 1 none) B.pre w (List.mem_cons_of_mem _ hw)
  have hown : s.vm.findClass "PaneScreen$Store" = some m.cls := findClass_of_methodNamed B.named
  have hlocks := B.notSynchronized
  have hin : meth.name = "<init>" := (name_of_methodNamed B.named B.method).1
  subst hsz
  have hD := hD0.self (sz := s.heap.size)
  generalize hAe : va_A [(h0, .inr (5, [.null, .null, .null]))] s.heap.size = A at hD ⊢
  have hA : ∀ q : Nat, s.heap.size ≤ q → A q := fun q h => by rw [← hAe]; exact Or.inr h
  have hS : va_S A s.heap s.heap [] := va_S.rf
  have hP : va_P (dC, dI) gCl [(h0, .inr (5, [.null, .null, .null]))] s.heap := hP
  have hl := lv_entry ([.ref h0]) (n := 1) (Nat.le_of_ble_eq_true rfl)
  rw [lg_entry_eq]
  generalize (lg_sl ([.ref h0]) ++ List.replicate (1 - (lg_sl ([.ref h0])).length) Slot.unset).toArray = ls at hl ⊢
  have hl : lv_has ls 1 [(0, .ref h0)] := hl
  refine lv_aload_n hx hb d_T_init_0 rfl (lv_at hl 0 rfl) ?_
  refine W.objInit hx hb hown (hts _ w_521) (hts _ w_517) (hts _ w_518) rfl (by rw [hml]; exact hl.1) rfl d_T_init_1 (Nat.le_of_ble_eq_true rfl) (Nat.le_of_ble_eq_true rfl) ?_
  refine W.eq (g2 := F0 m 4 ls []) rfl ?_
  refine lv_aload_n hx hb d_T_init_4 rfl (lv_at hl 0 rfl) ?_
  refine lv_sipush (v := 400) hx hb d_T_init_5 k_sipush_400 ?_
  refine va_newa (atype := .int) (N' := 400) (a0 := (400, .inl (fun _ => 0))) (ty := .int) (n := 400) hx hb (hts (.arrayClass .int) w_520) rfl hK hP hD hS hA (fun _ => rfl) (by decide) (by decide) (by decide) (Nat.le_of_ble_eq_true rfl) (Nat.le_of_ble_eq_true rfl) d_T_init_8 (fun a1 c1 H hK hP hD hS => ?_)
  have hP : va_P (dC, dI) gCl [(h0, .inr (5, [.null, .null, .null])), (a1, .inl (c1, 400, .inl (fun _ => 0)))] H := hP
  have hD : va_D A [(h0, .inr (5, [.null, .null, .null])), (a1, .inl (c1, 400, .inl (fun _ => 0)))] := hD
  have hK : va_K (dC, dI) gCl [(c1, .int)] s := hK
  refine W.widen (k := 1) (n := 400) (by omega) (by omega) ?_
  refine va_putF (D := (dC, dI)) (ci := 5) (v := .ref a1) (ty := .array .int) (C := "PaneScreen$Store") (T := F_T) (N := 3) hx hb hts lays_T ty_T ty_T_ok nm_T hown hK hP hD hS 0 rfl rfl 0 (by decide) (hts _ w_155) (fun _ h9 => h9) rfl hin rfl (by decide +kernel) rfl rfl (Nat.le_of_ble_eq_true rfl) d_T_init_10 (fun H locs hP hD hS => ?_)
  have hP : va_P (dC, dI) gCl [(h0, .inr (5, [.ref a1, .null, .null])), (a1, .inl (c1, 400, .inl (fun _ => 0)))] H := hP
  have hD : va_D A [(h0, .inr (5, [.ref a1, .null, .null])), (a1, .inl (c1, 400, .inl (fun _ => 0)))] := hD
  refine lv_aload_n hx hb d_T_init_13 rfl (lv_at hl 0 rfl) ?_
  refine lv_sipush (v := 400) hx hb d_T_init_14 k_sipush_400 ?_
  refine va_newa (atype := .int) (N' := 400) (a0 := (400, .inl (fun _ => 0))) (ty := .int) (n := 400) hx hb (hts (.arrayClass .int) w_520) rfl hK hP hD hS hA (fun _ => rfl) (by decide) (by decide) (by decide) (Nat.le_of_ble_eq_true rfl) (Nat.le_of_ble_eq_true rfl) d_T_init_17 (fun a2 c2 H hK hP hD hS => ?_)
  have hP : va_P (dC, dI) gCl [(h0, .inr (5, [.ref a1, .null, .null])), (a1, .inl (c1, 400, .inl (fun _ => 0))), (a2, .inl (c2, 400, .inl (fun _ => 0)))] H := hP
  have hD : va_D A [(h0, .inr (5, [.ref a1, .null, .null])), (a1, .inl (c1, 400, .inl (fun _ => 0))), (a2, .inl (c2, 400, .inl (fun _ => 0)))] := hD
  have hK : va_K (dC, dI) gCl [(c1, .int), (c2, .int)] s := hK
  refine W.widen (k := 2) (n := 800) (by omega) (by omega) ?_
  refine va_putF (D := (dC, dI)) (ci := 5) (v := .ref a2) (ty := .array .int) (C := "PaneScreen$Store") (T := F_T) (N := 3) hx hb hts lays_T ty_T ty_T_ok nm_T hown hK hP hD hS 0 rfl rfl 1 (by decide) (hts _ w_156) (fun _ h9 => h9) rfl hin rfl (by decide +kernel) rfl rfl (Nat.le_of_ble_eq_true rfl) d_T_init_19 (fun H locs hP hD hS => ?_)
  have hP : va_P (dC, dI) gCl [(h0, .inr (5, [.ref a1, .ref a2, .null])), (a1, .inl (c1, 400, .inl (fun _ => 0))), (a2, .inl (c2, 400, .inl (fun _ => 0)))] H := hP
  have hD : va_D A [(h0, .inr (5, [.ref a1, .ref a2, .null])), (a1, .inl (c1, 400, .inl (fun _ => 0))), (a2, .inl (c2, 400, .inl (fun _ => 0)))] := hD
  refine lv_aload_n hx hb d_T_init_22 rfl (lv_at hl 0 rfl) ?_
  refine lv_sipush (v := 400) hx hb d_T_init_23 k_sipush_400 ?_
  refine va_newa (atype := .boolean) (N' := 400) (a0 := (400, .inl (fun _ => 0))) (ty := .boolean) (n := 400) hx hb (hts (.arrayClass .boolean) w_522) rfl hK hP hD hS hA (fun _ => rfl) (by decide) (by decide) (by decide) (Nat.le_of_ble_eq_true rfl) (Nat.le_of_ble_eq_true rfl) d_T_init_26 (fun a3 c3 H hK hP hD hS => ?_)
  have hP : va_P (dC, dI) gCl [(h0, .inr (5, [.ref a1, .ref a2, .null])), (a1, .inl (c1, 400, .inl (fun _ => 0))), (a2, .inl (c2, 400, .inl (fun _ => 0))), (a3, .inl (c3, 400, .inl (fun _ => 0)))] H := hP
  have hD : va_D A [(h0, .inr (5, [.ref a1, .ref a2, .null])), (a1, .inl (c1, 400, .inl (fun _ => 0))), (a2, .inl (c2, 400, .inl (fun _ => 0))), (a3, .inl (c3, 400, .inl (fun _ => 0)))] := hD
  have hK : va_K (dC, dI) gCl [(c1, .int), (c2, .int), (c3, .boolean)] s := hK
  refine W.widen (k := 3) (n := 1200) (by omega) (by omega) ?_
  refine va_putF (D := (dC, dI)) (ci := 5) (v := .ref a3) (ty := .array .boolean) (C := "PaneScreen$Store") (T := F_T) (N := 3) hx hb hts lays_T ty_T ty_T_ok nm_T hown hK hP hD hS 0 rfl rfl 2 (by decide) (hts _ w_157) (fun _ h9 => h9) rfl hin rfl (by decide +kernel) rfl rfl (Nat.le_of_ble_eq_true rfl) d_T_init_28 (fun H locs hP hD hS => ?_)
  have hP : va_P (dC, dI) gCl [(h0, .inr (5, [.ref a1, .ref a2, .ref a3])), (a1, .inl (c1, 400, .inl (fun _ => 0))), (a2, .inl (c2, 400, .inl (fun _ => 0))), (a3, .inl (c3, 400, .inl (fun _ => 0)))] H := hP
  have hD : va_D A [(h0, .inr (5, [.ref a1, .ref a2, .ref a3])), (a1, .inl (c1, 400, .inl (fun _ => 0))), (a2, .inl (c2, 400, .inl (fun _ => 0))), (a3, .inl (c3, 400, .inl (fun _ => 0)))] := hD
  exact W.vret hx hb hr (fun t ht hW => ⟨⟨(), rfl, trivial, a1, c1, a2, c2, a3, c3, by rw [ht]; exact hP, va_K.moved hW.alike hK, hD⟩, hS.F ht⟩) hS.2.2 d_T_init_31
theorem d_D_init_0 : decode b_D_init 0 = .ok (.aload_n 0, 1) := by decide +kernel
theorem d_D_init_1 : decode b_D_init 1 = .ok (.invokespecial 3, 3) := by decide +kernel
theorem d_D_init_4 : decode b_D_init 4 = .ok (.aload_n 0, 1) := by decide +kernel
theorem d_D_init_5 : decode b_D_init 5 = .ok (.bipush 6, 2) := by decide +kernel
theorem d_D_init_7 : decode b_D_init 7 = .ok (.newarray .int, 2) := by decide +kernel
theorem d_D_init_9 : decode b_D_init 9 = .ok (.putfield 9, 3) := by decide +kernel
theorem d_D_init_12 : decode b_D_init 12 = .ok (.aload_n 0, 1) := by decide +kernel
theorem d_D_init_13 : decode b_D_init 13 = .ok (.bipush 6, 2) := by decide +kernel
theorem d_D_init_15 : decode b_D_init 15 = .ok (.newarray .int, 2) := by decide +kernel
theorem d_D_init_17 : decode b_D_init 17 = .ok (.putfield 15, 3) := by decide +kernel
theorem d_D_init_20 : decode b_D_init 20 = .ok (.aload_n 0, 1) := by decide +kernel
theorem d_D_init_21 : decode b_D_init 21 = .ok (.bipush 6, 2) := by decide +kernel
theorem d_D_init_23 : decode b_D_init 23 = .ok (.newarray .int, 2) := by decide +kernel
theorem d_D_init_25 : decode b_D_init 25 = .ok (.putfield 18, 3) := by decide +kernel
theorem d_D_init_28 : decode b_D_init 28 = .ok (.aload_n 0, 1) := by decide +kernel
theorem d_D_init_29 : decode b_D_init 29 = .ok (.bipush 6, 2) := by decide +kernel
theorem d_D_init_31 : decode b_D_init 31 = .ok (.newarray .int, 2) := by decide +kernel
theorem d_D_init_33 : decode b_D_init 33 = .ok (.putfield 21, 3) := by decide +kernel
theorem d_D_init_36 : decode b_D_init 36 = .ok (.return_, 1) := by decide +kernel
abbrev r_D_init : Room := ⟨1, 4, 24, 20⟩
set_option maxHeartbeats 4000000 in
set_option maxRecDepth 100000 in
theorem c_D_init (l : Launch) (dC : Nat → ClassId) (dI : Nat → Nat → Nat) (h0 sz : Nat) : Met l y_D_init (gws y_D_init b_D_init 1 none) r_D_init (va_Pc [.ref h0] (fun U => U.heap.size = sz ∧ va_P (dC, dI) gCl [(h0, .inr (1, [.null, .null, .null, .null, .int 0]))] U.heap ∧ va_K (dC, dI) gCl [] U ∧ va_D (fun _ => True) [(h0, .inr (1, [.null, .null, .null, .null, .int 0]))])) (va_Qv (fun _ : Unit => True) (fun _ t => ∃ (a1 : Nat), ∃ (c1 : ClassId), ∃ (a2 : Nat), ∃ (c2 : ClassId), ∃ (a3 : Nat), ∃ (c3 : ClassId), ∃ (a4 : Nat), ∃ (c4 : ClassId), va_P (dC, dI) gCl [(h0, .inr (1, [.ref a1, .ref a2, .ref a3, .ref a4, .int 0])), (a1, .inl (c1, 6, .inl (fun _ => 0))), (a2, .inl (c2, 6, .inl (fun _ => 0))), (a3, .inl (c3, 6, .inl (fun _ => 0))), (a4, .inl (c4, 6, .inl (fun _ => 0)))] t.heap ∧ va_K (dC, dI) gCl [(c1, .int), (c2, .int), (c3, .int), (c4, .int)] t ∧ va_D (va_A [(h0, .inr (1, [.null, .null, .null, .null, .int 0]))] sz) [(h0, .inr (1, [.ref a1, .ref a2, .ref a3, .ref a4, .int 0])), (a1, .inl (c1, 6, .inl (fun _ => 0))), (a2, .inl (c2, 6, .inl (fun _ => 0))), (a3, .inl (c3, 6, .inl (fun _ => 0))), (a4, .inl (c4, 6, .inl (fun _ => 0)))]) (va_A [(h0, .inr (1, [.null, .null, .null, .null, .int 0]))] sz)) 4 24 (va_A [(h0, .inr (1, [.null, .null, .null, .null, .int 0]))] sz) := by
  refine Met.ofW (cc := b_D_init) (maxL := 1) (ret := none) (by decide) rfl ?_
  intro p e s m args below meth c s₁ B hml hv
  obtain ⟨rfl, hsz, hP, hK, hD0⟩ := hv
  have hx := B.exec
  have hb := B.bytes
  have hr := B.returns
  have hts : ∀ w ∈ TW, w.before _ s = true := fun w hw => atoms_spec (ws := gws y_D_init b_D_init 1 none) B.pre w (List.mem_cons_of_mem _ hw)
  have hown : s.vm.findClass "PaneScreen$Damage" = some m.cls := findClass_of_methodNamed B.named
  have hlocks := B.notSynchronized
  have hin : meth.name = "<init>" := (name_of_methodNamed B.named B.method).1
  subst hsz
  have hD := hD0.self (sz := s.heap.size)
  generalize hAe : va_A [(h0, .inr (1, [.null, .null, .null, .null, .int 0]))] s.heap.size = A at hD ⊢
  have hA : ∀ q : Nat, s.heap.size ≤ q → A q := fun q h => by rw [← hAe]; exact Or.inr h
  have hS : va_S A s.heap s.heap [] := va_S.rf
  have hP : va_P (dC, dI) gCl [(h0, .inr (1, [.null, .null, .null, .null, .int 0]))] s.heap := hP
  have hl := lv_entry ([.ref h0]) (n := 1) (Nat.le_of_ble_eq_true rfl)
  rw [lg_entry_eq]
  generalize (lg_sl ([.ref h0]) ++ List.replicate (1 - (lg_sl ([.ref h0])).length) Slot.unset).toArray = ls at hl ⊢
  have hl : lv_has ls 1 [(0, .ref h0)] := hl
  refine lv_aload_n hx hb d_D_init_0 rfl (lv_at hl 0 rfl) ?_
  refine W.objInit hx hb hown (hts _ w_523) (hts _ w_517) (hts _ w_518) rfl (by rw [hml]; exact hl.1) rfl d_D_init_1 (Nat.le_of_ble_eq_true rfl) (Nat.le_of_ble_eq_true rfl) ?_
  refine W.eq (g2 := F0 m 4 ls []) rfl ?_
  refine lv_aload_n hx hb d_D_init_4 rfl (lv_at hl 0 rfl) ?_
  refine lv_bipush (v := 6) hx hb d_D_init_5 k_bipush_6 ?_
  refine va_newa (atype := .int) (N' := 6) (a0 := (6, .inl (fun _ => 0))) (ty := .int) (n := 6) hx hb (hts (.arrayClass .int) w_520) rfl hK hP hD hS hA (fun _ => rfl) (by decide) (by decide) (by decide) (Nat.le_of_ble_eq_true rfl) (Nat.le_of_ble_eq_true rfl) d_D_init_7 (fun a1 c1 H hK hP hD hS => ?_)
  have hP : va_P (dC, dI) gCl [(h0, .inr (1, [.null, .null, .null, .null, .int 0])), (a1, .inl (c1, 6, .inl (fun _ => 0)))] H := hP
  have hD : va_D A [(h0, .inr (1, [.null, .null, .null, .null, .int 0])), (a1, .inl (c1, 6, .inl (fun _ => 0)))] := hD
  have hK : va_K (dC, dI) gCl [(c1, .int)] s := hK
  refine W.widen (k := 1) (n := 6) (by omega) (by omega) ?_
  refine va_putF (D := (dC, dI)) (ci := 1) (v := .ref a1) (ty := .array .int) (C := "PaneScreen$Damage") (T := F_D) (N := 5) hx hb hts lays_D ty_D ty_D_ok nm_D hown hK hP hD hS 0 rfl rfl 0 (by decide) (hts _ w_73) (fun _ h9 => h9) rfl hin rfl (by decide +kernel) rfl rfl (Nat.le_of_ble_eq_true rfl) d_D_init_9 (fun H locs hP hD hS => ?_)
  have hP : va_P (dC, dI) gCl [(h0, .inr (1, [.ref a1, .null, .null, .null, .int 0])), (a1, .inl (c1, 6, .inl (fun _ => 0)))] H := hP
  have hD : va_D A [(h0, .inr (1, [.ref a1, .null, .null, .null, .int 0])), (a1, .inl (c1, 6, .inl (fun _ => 0)))] := hD
  refine lv_aload_n hx hb d_D_init_12 rfl (lv_at hl 0 rfl) ?_
  refine lv_bipush (v := 6) hx hb d_D_init_13 k_bipush_6 ?_
  refine va_newa (atype := .int) (N' := 6) (a0 := (6, .inl (fun _ => 0))) (ty := .int) (n := 6) hx hb (hts (.arrayClass .int) w_520) rfl hK hP hD hS hA (fun _ => rfl) (by decide) (by decide) (by decide) (Nat.le_of_ble_eq_true rfl) (Nat.le_of_ble_eq_true rfl) d_D_init_15 (fun a2 c2 H hK hP hD hS => ?_)
  have hP : va_P (dC, dI) gCl [(h0, .inr (1, [.ref a1, .null, .null, .null, .int 0])), (a1, .inl (c1, 6, .inl (fun _ => 0))), (a2, .inl (c2, 6, .inl (fun _ => 0)))] H := hP
  have hD : va_D A [(h0, .inr (1, [.ref a1, .null, .null, .null, .int 0])), (a1, .inl (c1, 6, .inl (fun _ => 0))), (a2, .inl (c2, 6, .inl (fun _ => 0)))] := hD
  have hK : va_K (dC, dI) gCl [(c1, .int), (c2, .int)] s := hK
  refine W.widen (k := 2) (n := 12) (by omega) (by omega) ?_
  refine va_putF (D := (dC, dI)) (ci := 1) (v := .ref a2) (ty := .array .int) (C := "PaneScreen$Damage") (T := F_D) (N := 5) hx hb hts lays_D ty_D ty_D_ok nm_D hown hK hP hD hS 0 rfl rfl 1 (by decide) (hts _ w_74) (fun _ h9 => h9) rfl hin rfl (by decide +kernel) rfl rfl (Nat.le_of_ble_eq_true rfl) d_D_init_17 (fun H locs hP hD hS => ?_)
  have hP : va_P (dC, dI) gCl [(h0, .inr (1, [.ref a1, .ref a2, .null, .null, .int 0])), (a1, .inl (c1, 6, .inl (fun _ => 0))), (a2, .inl (c2, 6, .inl (fun _ => 0)))] H := hP
  have hD : va_D A [(h0, .inr (1, [.ref a1, .ref a2, .null, .null, .int 0])), (a1, .inl (c1, 6, .inl (fun _ => 0))), (a2, .inl (c2, 6, .inl (fun _ => 0)))] := hD
  refine lv_aload_n hx hb d_D_init_20 rfl (lv_at hl 0 rfl) ?_
  refine lv_bipush (v := 6) hx hb d_D_init_21 k_bipush_6 ?_
  refine va_newa (atype := .int) (N' := 6) (a0 := (6, .inl (fun _ => 0))) (ty := .int) (n := 6) hx hb (hts (.arrayClass .int) w_520) rfl hK hP hD hS hA (fun _ => rfl) (by decide) (by decide) (by decide) (Nat.le_of_ble_eq_true rfl) (Nat.le_of_ble_eq_true rfl) d_D_init_23 (fun a3 c3 H hK hP hD hS => ?_)
  have hP : va_P (dC, dI) gCl [(h0, .inr (1, [.ref a1, .ref a2, .null, .null, .int 0])), (a1, .inl (c1, 6, .inl (fun _ => 0))), (a2, .inl (c2, 6, .inl (fun _ => 0))), (a3, .inl (c3, 6, .inl (fun _ => 0)))] H := hP
  have hD : va_D A [(h0, .inr (1, [.ref a1, .ref a2, .null, .null, .int 0])), (a1, .inl (c1, 6, .inl (fun _ => 0))), (a2, .inl (c2, 6, .inl (fun _ => 0))), (a3, .inl (c3, 6, .inl (fun _ => 0)))] := hD
  have hK : va_K (dC, dI) gCl [(c1, .int), (c2, .int), (c3, .int)] s := hK
  refine W.widen (k := 3) (n := 18) (by omega) (by omega) ?_
  refine va_putF (D := (dC, dI)) (ci := 1) (v := .ref a3) (ty := .array .int) (C := "PaneScreen$Damage") (T := F_D) (N := 5) hx hb hts lays_D ty_D ty_D_ok nm_D hown hK hP hD hS 0 rfl rfl 2 (by decide) (hts _ w_75) (fun _ h9 => h9) rfl hin rfl (by decide +kernel) rfl rfl (Nat.le_of_ble_eq_true rfl) d_D_init_25 (fun H locs hP hD hS => ?_)
  have hP : va_P (dC, dI) gCl [(h0, .inr (1, [.ref a1, .ref a2, .ref a3, .null, .int 0])), (a1, .inl (c1, 6, .inl (fun _ => 0))), (a2, .inl (c2, 6, .inl (fun _ => 0))), (a3, .inl (c3, 6, .inl (fun _ => 0)))] H := hP
  have hD : va_D A [(h0, .inr (1, [.ref a1, .ref a2, .ref a3, .null, .int 0])), (a1, .inl (c1, 6, .inl (fun _ => 0))), (a2, .inl (c2, 6, .inl (fun _ => 0))), (a3, .inl (c3, 6, .inl (fun _ => 0)))] := hD
  refine lv_aload_n hx hb d_D_init_28 rfl (lv_at hl 0 rfl) ?_
  refine lv_bipush (v := 6) hx hb d_D_init_29 k_bipush_6 ?_
  refine va_newa (atype := .int) (N' := 6) (a0 := (6, .inl (fun _ => 0))) (ty := .int) (n := 6) hx hb (hts (.arrayClass .int) w_520) rfl hK hP hD hS hA (fun _ => rfl) (by decide) (by decide) (by decide) (Nat.le_of_ble_eq_true rfl) (Nat.le_of_ble_eq_true rfl) d_D_init_31 (fun a4 c4 H hK hP hD hS => ?_)
  have hP : va_P (dC, dI) gCl [(h0, .inr (1, [.ref a1, .ref a2, .ref a3, .null, .int 0])), (a1, .inl (c1, 6, .inl (fun _ => 0))), (a2, .inl (c2, 6, .inl (fun _ => 0))), (a3, .inl (c3, 6, .inl (fun _ => 0))), (a4, .inl (c4, 6, .inl (fun _ => 0)))] H := hP
  have hD : va_D A [(h0, .inr (1, [.ref a1, .ref a2, .ref a3, .null, .int 0])), (a1, .inl (c1, 6, .inl (fun _ => 0))), (a2, .inl (c2, 6, .inl (fun _ => 0))), (a3, .inl (c3, 6, .inl (fun _ => 0))), (a4, .inl (c4, 6, .inl (fun _ => 0)))] := hD
  have hK : va_K (dC, dI) gCl [(c1, .int), (c2, .int), (c3, .int), (c4, .int)] s := hK
  refine W.widen (k := 4) (n := 24) (by omega) (by omega) ?_
  refine va_putF (D := (dC, dI)) (ci := 1) (v := .ref a4) (ty := .array .int) (C := "PaneScreen$Damage") (T := F_D) (N := 5) hx hb hts lays_D ty_D ty_D_ok nm_D hown hK hP hD hS 0 rfl rfl 3 (by decide) (hts _ w_76) (fun _ h9 => h9) rfl hin rfl (by decide +kernel) rfl rfl (Nat.le_of_ble_eq_true rfl) d_D_init_33 (fun H locs hP hD hS => ?_)
  have hP : va_P (dC, dI) gCl [(h0, .inr (1, [.ref a1, .ref a2, .ref a3, .ref a4, .int 0])), (a1, .inl (c1, 6, .inl (fun _ => 0))), (a2, .inl (c2, 6, .inl (fun _ => 0))), (a3, .inl (c3, 6, .inl (fun _ => 0))), (a4, .inl (c4, 6, .inl (fun _ => 0)))] H := hP
  have hD : va_D A [(h0, .inr (1, [.ref a1, .ref a2, .ref a3, .ref a4, .int 0])), (a1, .inl (c1, 6, .inl (fun _ => 0))), (a2, .inl (c2, 6, .inl (fun _ => 0))), (a3, .inl (c3, 6, .inl (fun _ => 0))), (a4, .inl (c4, 6, .inl (fun _ => 0)))] := hD
  exact W.vret hx hb hr (fun t ht hW => ⟨⟨(), rfl, trivial, a1, c1, a2, c2, a3, c3, a4, c4, by rw [ht]; exact hP, va_K.moved hW.alike hK, hD⟩, hS.F ht⟩) hS.2.2 d_D_init_36
theorem d_E_init_0 : decode b_E_init 0 = .ok (.aload_n 0, 1) := by decide +kernel
theorem d_E_init_1 : decode b_E_init 1 = .ok (.invokespecial 3, 3) := by decide +kernel
theorem d_E_init_4 : decode b_E_init 4 = .ok (.aload_n 0, 1) := by decide +kernel
theorem d_E_init_5 : decode b_E_init 5 = .ok (.bipush 12, 2) := by decide +kernel
theorem d_E_init_7 : decode b_E_init 7 = .ok (.newarray .int, 2) := by decide +kernel
theorem d_E_init_9 : decode b_E_init 9 = .ok (.putfield 9, 3) := by decide +kernel
theorem d_E_init_12 : decode b_E_init 12 = .ok (.aload_n 0, 1) := by decide +kernel
theorem d_E_init_13 : decode b_E_init 13 = .ok (.bipush 12, 2) := by decide +kernel
theorem d_E_init_15 : decode b_E_init 15 = .ok (.newarray .int, 2) := by decide +kernel
theorem d_E_init_17 : decode b_E_init 17 = .ok (.putfield 15, 3) := by decide +kernel
theorem d_E_init_20 : decode b_E_init 20 = .ok (.aload_n 0, 1) := by decide +kernel
theorem d_E_init_21 : decode b_E_init 21 = .ok (.bipush 12, 2) := by decide +kernel
theorem d_E_init_23 : decode b_E_init 23 = .ok (.newarray .int, 2) := by decide +kernel
theorem d_E_init_25 : decode b_E_init 25 = .ok (.putfield 18, 3) := by decide +kernel
theorem d_E_init_28 : decode b_E_init 28 = .ok (.aload_n 0, 1) := by decide +kernel
theorem d_E_init_29 : decode b_E_init 29 = .ok (.bipush 12, 2) := by decide +kernel
theorem d_E_init_31 : decode b_E_init 31 = .ok (.newarray .int, 2) := by decide +kernel
theorem d_E_init_33 : decode b_E_init 33 = .ok (.putfield 21, 3) := by decide +kernel
theorem d_E_init_36 : decode b_E_init 36 = .ok (.aload_n 0, 1) := by decide +kernel
theorem d_E_init_37 : decode b_E_init 37 = .ok (.iconst (-1), 1) := by decide +kernel
theorem d_E_init_38 : decode b_E_init 38 = .ok (.putfield 24, 3) := by decide +kernel
theorem d_E_init_41 : decode b_E_init 41 = .ok (.return_, 1) := by decide +kernel
abbrev r_E_init : Room := ⟨1, 4, 48, 20⟩
set_option maxHeartbeats 4000000 in
set_option maxRecDepth 100000 in
theorem c_E_init (l : Launch) (dC : Nat → ClassId) (dI : Nat → Nat → Nat) (h0 sz : Nat) : Met l y_E_init (gws y_E_init b_E_init 1 none) r_E_init (va_Pc [.ref h0] (fun U => U.heap.size = sz ∧ va_P (dC, dI) gCl [(h0, .inr (2, [.null, .null, .null, .null, .int 0, .int 0, .int 0, .int 0, .int 0, .int 0]))] U.heap ∧ va_K (dC, dI) gCl [] U ∧ va_D (fun _ => True) [(h0, .inr (2, [.null, .null, .null, .null, .int 0, .int 0, .int 0, .int 0, .int 0, .int 0]))])) (va_Qv (fun _ : Unit => True) (fun _ t => ∃ (a1 : Nat), ∃ (c1 : ClassId), ∃ (a2 : Nat), ∃ (c2 : ClassId), ∃ (a3 : Nat), ∃ (c3 : ClassId), ∃ (a4 : Nat), ∃ (c4 : ClassId), va_P (dC, dI) gCl [(h0, .inr (2, [.ref a1, .ref a2, .ref a3, .ref a4, .int 0, .int 0, .int (-1), .int 0, .int 0, .int 0])), (a1, .inl (c1, 12, .inl (fun _ => 0))), (a2, .inl (c2, 12, .inl (fun _ => 0))), (a3, .inl (c3, 12, .inl (fun _ => 0))), (a4, .inl (c4, 12, .inl (fun _ => 0)))] t.heap ∧ va_K (dC, dI) gCl [(c1, .int), (c2, .int), (c3, .int), (c4, .int)] t ∧ va_D (va_A [(h0, .inr (2, [.null, .null, .null, .null, .int 0, .int 0, .int 0, .int 0, .int 0, .int 0]))] sz) [(h0, .inr (2, [.ref a1, .ref a2, .ref a3, .ref a4, .int 0, .int 0, .int (-1), .int 0, .int 0, .int 0])), (a1, .inl (c1, 12, .inl (fun _ => 0))), (a2, .inl (c2, 12, .inl (fun _ => 0))), (a3, .inl (c3, 12, .inl (fun _ => 0))), (a4, .inl (c4, 12, .inl (fun _ => 0)))]) (va_A [(h0, .inr (2, [.null, .null, .null, .null, .int 0, .int 0, .int 0, .int 0, .int 0, .int 0]))] sz)) 4 48 (va_A [(h0, .inr (2, [.null, .null, .null, .null, .int 0, .int 0, .int 0, .int 0, .int 0, .int 0]))] sz) := by
  refine Met.ofW (cc := b_E_init) (maxL := 1) (ret := none) (by decide) rfl ?_
  intro p e s m args below meth c s₁ B hml hv
  obtain ⟨rfl, hsz, hP, hK, hD0⟩ := hv
  have hx := B.exec
  have hb := B.bytes
  have hr := B.returns
  have hts : ∀ w ∈ TW, w.before _ s = true := fun w hw => atoms_spec (ws := gws y_E_init b_E_init 1 none) B.pre w (List.mem_cons_of_mem _ hw)
  have hown : s.vm.findClass "PaneScreen$EventLine" = some m.cls := findClass_of_methodNamed B.named
  have hlocks := B.notSynchronized
  have hin : meth.name = "<init>" := (name_of_methodNamed B.named B.method).1
  subst hsz
  have hD := hD0.self (sz := s.heap.size)
  generalize hAe : va_A [(h0, .inr (2, [.null, .null, .null, .null, .int 0, .int 0, .int 0, .int 0, .int 0, .int 0]))] s.heap.size = A at hD ⊢
  have hA : ∀ q : Nat, s.heap.size ≤ q → A q := fun q h => by rw [← hAe]; exact Or.inr h
  have hS : va_S A s.heap s.heap [] := va_S.rf
  have hP : va_P (dC, dI) gCl [(h0, .inr (2, [.null, .null, .null, .null, .int 0, .int 0, .int 0, .int 0, .int 0, .int 0]))] s.heap := hP
  have hl := lv_entry ([.ref h0]) (n := 1) (Nat.le_of_ble_eq_true rfl)
  rw [lg_entry_eq]
  generalize (lg_sl ([.ref h0]) ++ List.replicate (1 - (lg_sl ([.ref h0])).length) Slot.unset).toArray = ls at hl ⊢
  have hl : lv_has ls 1 [(0, .ref h0)] := hl
  refine lv_aload_n hx hb d_E_init_0 rfl (lv_at hl 0 rfl) ?_
  refine W.objInit hx hb hown (hts _ w_524) (hts _ w_517) (hts _ w_518) rfl (by rw [hml]; exact hl.1) rfl d_E_init_1 (Nat.le_of_ble_eq_true rfl) (Nat.le_of_ble_eq_true rfl) ?_
  refine W.eq (g2 := F0 m 4 ls []) rfl ?_
  refine lv_aload_n hx hb d_E_init_4 rfl (lv_at hl 0 rfl) ?_
  refine lv_bipush (v := 12) hx hb d_E_init_5 k_bipush_12 ?_
  refine va_newa (atype := .int) (N' := 12) (a0 := (12, .inl (fun _ => 0))) (ty := .int) (n := 12) hx hb (hts (.arrayClass .int) w_520) rfl hK hP hD hS hA (fun _ => rfl) (by decide) (by decide) (by decide) (Nat.le_of_ble_eq_true rfl) (Nat.le_of_ble_eq_true rfl) d_E_init_7 (fun a1 c1 H hK hP hD hS => ?_)
  have hP : va_P (dC, dI) gCl [(h0, .inr (2, [.null, .null, .null, .null, .int 0, .int 0, .int 0, .int 0, .int 0, .int 0])), (a1, .inl (c1, 12, .inl (fun _ => 0)))] H := hP
  have hD : va_D A [(h0, .inr (2, [.null, .null, .null, .null, .int 0, .int 0, .int 0, .int 0, .int 0, .int 0])), (a1, .inl (c1, 12, .inl (fun _ => 0)))] := hD
  have hK : va_K (dC, dI) gCl [(c1, .int)] s := hK
  refine W.widen (k := 1) (n := 12) (by omega) (by omega) ?_
  refine va_putF (D := (dC, dI)) (ci := 2) (v := .ref a1) (ty := .array .int) (C := "PaneScreen$EventLine") (T := F_E) (N := 10) hx hb hts lays_E ty_E ty_E_ok nm_E hown hK hP hD hS 0 rfl rfl 0 (by decide) (hts _ w_78) (fun _ h9 => h9) rfl hin rfl (by decide +kernel) rfl rfl (Nat.le_of_ble_eq_true rfl) d_E_init_9 (fun H locs hP hD hS => ?_)
  have hP : va_P (dC, dI) gCl [(h0, .inr (2, [.ref a1, .null, .null, .null, .int 0, .int 0, .int 0, .int 0, .int 0, .int 0])), (a1, .inl (c1, 12, .inl (fun _ => 0)))] H := hP
  have hD : va_D A [(h0, .inr (2, [.ref a1, .null, .null, .null, .int 0, .int 0, .int 0, .int 0, .int 0, .int 0])), (a1, .inl (c1, 12, .inl (fun _ => 0)))] := hD
  refine lv_aload_n hx hb d_E_init_12 rfl (lv_at hl 0 rfl) ?_
  refine lv_bipush (v := 12) hx hb d_E_init_13 k_bipush_12 ?_
  refine va_newa (atype := .int) (N' := 12) (a0 := (12, .inl (fun _ => 0))) (ty := .int) (n := 12) hx hb (hts (.arrayClass .int) w_520) rfl hK hP hD hS hA (fun _ => rfl) (by decide) (by decide) (by decide) (Nat.le_of_ble_eq_true rfl) (Nat.le_of_ble_eq_true rfl) d_E_init_15 (fun a2 c2 H hK hP hD hS => ?_)
  have hP : va_P (dC, dI) gCl [(h0, .inr (2, [.ref a1, .null, .null, .null, .int 0, .int 0, .int 0, .int 0, .int 0, .int 0])), (a1, .inl (c1, 12, .inl (fun _ => 0))), (a2, .inl (c2, 12, .inl (fun _ => 0)))] H := hP
  have hD : va_D A [(h0, .inr (2, [.ref a1, .null, .null, .null, .int 0, .int 0, .int 0, .int 0, .int 0, .int 0])), (a1, .inl (c1, 12, .inl (fun _ => 0))), (a2, .inl (c2, 12, .inl (fun _ => 0)))] := hD
  have hK : va_K (dC, dI) gCl [(c1, .int), (c2, .int)] s := hK
  refine W.widen (k := 2) (n := 24) (by omega) (by omega) ?_
  refine va_putF (D := (dC, dI)) (ci := 2) (v := .ref a2) (ty := .array .int) (C := "PaneScreen$EventLine") (T := F_E) (N := 10) hx hb hts lays_E ty_E ty_E_ok nm_E hown hK hP hD hS 0 rfl rfl 1 (by decide) (hts _ w_79) (fun _ h9 => h9) rfl hin rfl (by decide +kernel) rfl rfl (Nat.le_of_ble_eq_true rfl) d_E_init_17 (fun H locs hP hD hS => ?_)
  have hP : va_P (dC, dI) gCl [(h0, .inr (2, [.ref a1, .ref a2, .null, .null, .int 0, .int 0, .int 0, .int 0, .int 0, .int 0])), (a1, .inl (c1, 12, .inl (fun _ => 0))), (a2, .inl (c2, 12, .inl (fun _ => 0)))] H := hP
  have hD : va_D A [(h0, .inr (2, [.ref a1, .ref a2, .null, .null, .int 0, .int 0, .int 0, .int 0, .int 0, .int 0])), (a1, .inl (c1, 12, .inl (fun _ => 0))), (a2, .inl (c2, 12, .inl (fun _ => 0)))] := hD
  refine lv_aload_n hx hb d_E_init_20 rfl (lv_at hl 0 rfl) ?_
  refine lv_bipush (v := 12) hx hb d_E_init_21 k_bipush_12 ?_
  refine va_newa (atype := .int) (N' := 12) (a0 := (12, .inl (fun _ => 0))) (ty := .int) (n := 12) hx hb (hts (.arrayClass .int) w_520) rfl hK hP hD hS hA (fun _ => rfl) (by decide) (by decide) (by decide) (Nat.le_of_ble_eq_true rfl) (Nat.le_of_ble_eq_true rfl) d_E_init_23 (fun a3 c3 H hK hP hD hS => ?_)
  have hP : va_P (dC, dI) gCl [(h0, .inr (2, [.ref a1, .ref a2, .null, .null, .int 0, .int 0, .int 0, .int 0, .int 0, .int 0])), (a1, .inl (c1, 12, .inl (fun _ => 0))), (a2, .inl (c2, 12, .inl (fun _ => 0))), (a3, .inl (c3, 12, .inl (fun _ => 0)))] H := hP
  have hD : va_D A [(h0, .inr (2, [.ref a1, .ref a2, .null, .null, .int 0, .int 0, .int 0, .int 0, .int 0, .int 0])), (a1, .inl (c1, 12, .inl (fun _ => 0))), (a2, .inl (c2, 12, .inl (fun _ => 0))), (a3, .inl (c3, 12, .inl (fun _ => 0)))] := hD
  have hK : va_K (dC, dI) gCl [(c1, .int), (c2, .int), (c3, .int)] s := hK
  refine W.widen (k := 3) (n := 36) (by omega) (by omega) ?_
  refine va_putF (D := (dC, dI)) (ci := 2) (v := .ref a3) (ty := .array .int) (C := "PaneScreen$EventLine") (T := F_E) (N := 10) hx hb hts lays_E ty_E ty_E_ok nm_E hown hK hP hD hS 0 rfl rfl 2 (by decide) (hts _ w_80) (fun _ h9 => h9) rfl hin rfl (by decide +kernel) rfl rfl (Nat.le_of_ble_eq_true rfl) d_E_init_25 (fun H locs hP hD hS => ?_)
  have hP : va_P (dC, dI) gCl [(h0, .inr (2, [.ref a1, .ref a2, .ref a3, .null, .int 0, .int 0, .int 0, .int 0, .int 0, .int 0])), (a1, .inl (c1, 12, .inl (fun _ => 0))), (a2, .inl (c2, 12, .inl (fun _ => 0))), (a3, .inl (c3, 12, .inl (fun _ => 0)))] H := hP
  have hD : va_D A [(h0, .inr (2, [.ref a1, .ref a2, .ref a3, .null, .int 0, .int 0, .int 0, .int 0, .int 0, .int 0])), (a1, .inl (c1, 12, .inl (fun _ => 0))), (a2, .inl (c2, 12, .inl (fun _ => 0))), (a3, .inl (c3, 12, .inl (fun _ => 0)))] := hD
  refine lv_aload_n hx hb d_E_init_28 rfl (lv_at hl 0 rfl) ?_
  refine lv_bipush (v := 12) hx hb d_E_init_29 k_bipush_12 ?_
  refine va_newa (atype := .int) (N' := 12) (a0 := (12, .inl (fun _ => 0))) (ty := .int) (n := 12) hx hb (hts (.arrayClass .int) w_520) rfl hK hP hD hS hA (fun _ => rfl) (by decide) (by decide) (by decide) (Nat.le_of_ble_eq_true rfl) (Nat.le_of_ble_eq_true rfl) d_E_init_31 (fun a4 c4 H hK hP hD hS => ?_)
  have hP : va_P (dC, dI) gCl [(h0, .inr (2, [.ref a1, .ref a2, .ref a3, .null, .int 0, .int 0, .int 0, .int 0, .int 0, .int 0])), (a1, .inl (c1, 12, .inl (fun _ => 0))), (a2, .inl (c2, 12, .inl (fun _ => 0))), (a3, .inl (c3, 12, .inl (fun _ => 0))), (a4, .inl (c4, 12, .inl (fun _ => 0)))] H := hP
  have hD : va_D A [(h0, .inr (2, [.ref a1, .ref a2, .ref a3, .null, .int 0, .int 0, .int 0, .int 0, .int 0, .int 0])), (a1, .inl (c1, 12, .inl (fun _ => 0))), (a2, .inl (c2, 12, .inl (fun _ => 0))), (a3, .inl (c3, 12, .inl (fun _ => 0))), (a4, .inl (c4, 12, .inl (fun _ => 0)))] := hD
  have hK : va_K (dC, dI) gCl [(c1, .int), (c2, .int), (c3, .int), (c4, .int)] s := hK
  refine W.widen (k := 4) (n := 48) (by omega) (by omega) ?_
  refine va_putF (D := (dC, dI)) (ci := 2) (v := .ref a4) (ty := .array .int) (C := "PaneScreen$EventLine") (T := F_E) (N := 10) hx hb hts lays_E ty_E ty_E_ok nm_E hown hK hP hD hS 0 rfl rfl 3 (by decide) (hts _ w_81) (fun _ h9 => h9) rfl hin rfl (by decide +kernel) rfl rfl (Nat.le_of_ble_eq_true rfl) d_E_init_33 (fun H locs hP hD hS => ?_)
  have hP : va_P (dC, dI) gCl [(h0, .inr (2, [.ref a1, .ref a2, .ref a3, .ref a4, .int 0, .int 0, .int 0, .int 0, .int 0, .int 0])), (a1, .inl (c1, 12, .inl (fun _ => 0))), (a2, .inl (c2, 12, .inl (fun _ => 0))), (a3, .inl (c3, 12, .inl (fun _ => 0))), (a4, .inl (c4, 12, .inl (fun _ => 0)))] H := hP
  have hD : va_D A [(h0, .inr (2, [.ref a1, .ref a2, .ref a3, .ref a4, .int 0, .int 0, .int 0, .int 0, .int 0, .int 0])), (a1, .inl (c1, 12, .inl (fun _ => 0))), (a2, .inl (c2, 12, .inl (fun _ => 0))), (a3, .inl (c3, 12, .inl (fun _ => 0))), (a4, .inl (c4, 12, .inl (fun _ => 0)))] := hD
  refine lv_aload_n hx hb d_E_init_36 rfl (lv_at hl 0 rfl) ?_
  refine lv_iconst (v := (-1)) hx hb d_E_init_37 k_iconst_m1 ?_
  refine va_put (D := (dC, dI)) (ci := 2) (v := .int (-1)) (ty := .int) (C := "PaneScreen$EventLine") (T := F_E) (N := 10) hx hb hts lays_E ty_E ty_E_ok nm_E hown hK hP hD hS 0 rfl rfl 6 (by decide) (hts _ w_158) (fun _ h9 => h9) rfl (by decide +kernel) rfl rfl (Nat.le_of_ble_eq_true rfl) d_E_init_38 (fun H locs hP hD hS => ?_)
  have hP : va_P (dC, dI) gCl [(h0, .inr (2, [.ref a1, .ref a2, .ref a3, .ref a4, .int 0, .int 0, .int (-1), .int 0, .int 0, .int 0])), (a1, .inl (c1, 12, .inl (fun _ => 0))), (a2, .inl (c2, 12, .inl (fun _ => 0))), (a3, .inl (c3, 12, .inl (fun _ => 0))), (a4, .inl (c4, 12, .inl (fun _ => 0)))] H := hP
  have hD : va_D A [(h0, .inr (2, [.ref a1, .ref a2, .ref a3, .ref a4, .int 0, .int 0, .int (-1), .int 0, .int 0, .int 0])), (a1, .inl (c1, 12, .inl (fun _ => 0))), (a2, .inl (c2, 12, .inl (fun _ => 0))), (a3, .inl (c3, 12, .inl (fun _ => 0))), (a4, .inl (c4, 12, .inl (fun _ => 0)))] := hD
  exact W.vret hx hb hr (fun t ht hW => ⟨⟨(), rfl, trivial, a1, c1, a2, c2, a3, c3, a4, c4, by rw [ht]; exact hP, va_K.moved hW.alike hK, hD⟩, hS.F ht⟩) hS.2.2 d_E_init_41
