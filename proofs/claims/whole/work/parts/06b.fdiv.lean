/-! Math.floorDiv(II)I: the Statement's own code of it, walked; and the row of its call. -/
section FD
theorem d_fd_0 : decode b_J_floorDiv 0 = .ok (.iload_n 0, 1) := by decide +kernel
theorem d_fd_1 : decode b_J_floorDiv 1 = .ok (.iload_n 1, 1) := by decide +kernel
theorem d_fd_2 : decode b_J_floorDiv 2 = .ok (.idiv, 1) := by decide +kernel
theorem d_fd_3 : decode b_J_floorDiv 3 = .ok (.istore_n 2, 1) := by decide +kernel
theorem d_fd_4 : decode b_J_floorDiv 4 = .ok (.iload_n 0, 1) := by decide +kernel
theorem d_fd_5 : decode b_J_floorDiv 5 = .ok (.iload_n 1, 1) := by decide +kernel
theorem d_fd_6 : decode b_J_floorDiv 6 = .ok (.ixor, 1) := by decide +kernel
theorem d_fd_7 : decode b_J_floorDiv 7 = .ok (.ifCond .ge 14, 3) := by decide +kernel
theorem d_fd_10 : decode b_J_floorDiv 10 = .ok (.iload_n 2, 1) := by decide +kernel
theorem d_fd_11 : decode b_J_floorDiv 11 = .ok (.iload_n 1, 1) := by decide +kernel
theorem d_fd_12 : decode b_J_floorDiv 12 = .ok (.imul, 1) := by decide +kernel
theorem d_fd_13 : decode b_J_floorDiv 13 = .ok (.iload_n 0, 1) := by decide +kernel
theorem d_fd_14 : decode b_J_floorDiv 14 = .ok (.if_icmp .eq 7, 3) := by decide +kernel
theorem d_fd_17 : decode b_J_floorDiv 17 = .ok (.iload_n 2, 1) := by decide +kernel
theorem d_fd_18 : decode b_J_floorDiv 18 = .ok (.iconst 1, 1) := by decide +kernel
theorem d_fd_19 : decode b_J_floorDiv 19 = .ok (.isub, 1) := by decide +kernel
theorem d_fd_20 : decode b_J_floorDiv 20 = .ok (.ireturn, 1) := by decide +kernel
theorem d_fd_21 : decode b_J_floorDiv 21 = .ok (.iload_n 2, 1) := by decide +kernel
theorem d_fd_22 : decode b_J_floorDiv 22 = .ok (.ireturn, 1) := by decide +kernel
theorem fd_row0 : (NativeRow.find? natives y_J_floorDiv.cls y_J_floorDiv.name y_J_floorDiv.desc).isNone = true := by decide +kernel
theorem fd_row (p : Program) : NativeRow.find? p.tables.natives y_J_floorDiv.cls y_J_floorDiv.name y_J_floorDiv.desc = none := by
  cases p <;> exact Option.isNone_iff_eq_none.mp fd_row0
def mfdiv (x y : Int32) : Int32 := if 0 ≤ x ^^^ y then x / y else if x / y * y = x then x / y else x / y - 1
def fd_spec (a b : Int32) : Spec := { pre := .and (.code y_J_floorDiv b_J_floorDiv 3 (some .int)) (.and (.count 2) (.and (.isInt (.arg 0)) (.and (.isInt (.arg 1)) (.and (.eq (.arg 0) (.int a)) (.eq (.arg 1) (.int b)))))), post := .and .returned (.eq .result (.int (mfdiv a b))), changes := some [] }
set_option maxHeartbeats 4000000 in
theorem fd_meets (l : Launch) (a b : Int32) (hb0 : ¬ b = 0) : MeetsLoose l y_J_floorDiv (fd_spec a b) := by
  refine MeetsLoose.of_body_ov (code := b_J_floorDiv) (maxLocals := 3) (ret := some .int) fd_row ?_ ?_
  · intro args s h
    simp only [fd_spec, Cond.before_and, Bool.and_eq_true] at h
    exact h.1
  · intro p e s m args below meth c s₁ B
    have hpre := B.pre
    simp only [fd_spec, Cond.before_and, Bool.and_eq_true] at hpre
    obtain ⟨a', b', rfl⟩ := Cond.two_ints hpre.2.1 hpre.2.2.1 hpre.2.2.2.1
    have ea : a' = a := by
      have h := hpre.2.2.2.2.1
      have h2 : (Cond.eq (.arg 0) (.int a)).value #[.int a', .int b'] s none s [] = some (decide (a' = a)) := Cond.eq_ints rfl rfl
      simpa [Cond.before, Cond.holds, h2] using h
    have eb : b' = b := by
      have h := hpre.2.2.2.2.2
      have h2 : (Cond.eq (.arg 1) (.int b)).value #[.int a', .int b'] s none s [] = some (decide (b' = b)) := Cond.eq_ints rfl rfl
      simpa [Cond.before, Cond.holds, h2] using h
    subst ea; subst eb
    have hloc : argsToLocals #[.int a', .int b'] 3 = #[.val (.int a'), .val (.int b'), .unset] := rfl
    have fin : ∀ r : Int32, mfdiv a' b' = r → (∀ fs, Steps p.tables e below (s₁.setTop (entryFrame m #[.int a', .int b'] 3)) (s₁.setFrames fs) ∨ handOver s₁ (some (.int r)) below ≠ some fs) →
        ∃ s₂ o, Steps p.tables e below (s₁.setTop (entryFrame m #[.int a', .int b'] 3)) s₂ ∧ s₂.status = .running ∧ Ended s₂ below o ∧
          (fd_spec a' b').ensures #[.int a', .int b'] s o s₂ := by
      intro r hr hwalk
      obtain ⟨fs, hfs⟩ := handOver_isSome (s := s₁) (some (.int r)) B.hears₁
      refine ⟨s₁.setFrames fs, .returned (some (.int r)), (hwalk fs).resolve_right (fun h => h hfs), B.here.running, B.ended hfs (by intro h; cases h), ?_, State.sameBut_nil.mpr ?_⟩
      · simp [fd_spec, Cond.after, Cond.holds, Cond.value, Term.eval, hr]
      · rw [State.frames_setFrames _ B.cur₁, B.back]
    by_cases h2 : 0 ≤ a' ^^^ b'
    ·
      refine fin (a' / b') (by rw [mfdiv, if_pos h2]) (fun fs => ?_)
      by_cases hfs : handOver s₁ (some (.int (a' / b'))) below = some fs
      · left
        unfold entryFrame; rw [hloc]
        refine Steps.instrAtOv (c := _) (by simpa using B.here) ?_
        simp [jvm, wpRun, exec, B.here.top, B.exec, B.bytes, d_fd_0]
        refine Steps.instrAtOv (c := _) (by simpa using B.here) ?_
        simp [jvm, wpRun, exec, B.here.top, B.exec, B.bytes, d_fd_1]
        refine Steps.instrAtOv (c := _) (by simpa using B.here) ?_
        simp [jvm, wpRun, exec, B.here.top, B.exec, B.bytes, d_fd_2, hb0]
        refine Steps.instrAtOv (c := _) (by simpa using B.here) ?_
        simp [jvm, wpRun, exec, B.here.top, B.exec, B.bytes, d_fd_3]
        refine ⟨#[.val (.int a'), .val (.int b'), .val (.int (a' / b'))], rfl, ?_⟩
        refine Steps.instrAtOv (c := _) (by simpa using B.here) ?_
        simp [jvm, wpRun, exec, B.here.top, B.exec, B.bytes, d_fd_4]
        refine Steps.instrAtOv (c := _) (by simpa using B.here) ?_
        simp [jvm, wpRun, exec, B.here.top, B.exec, B.bytes, d_fd_5]
        refine Steps.instrAtOv (c := _) (by simpa using B.here) ?_
        simp [jvm, wpRun, exec, B.here.top, B.exec, B.bytes, d_fd_6]
        refine Steps.instrAtOv (c := _) (by simpa using B.here) ?_
        simp [jvm, wpRun, exec, B.here.top, B.exec, B.bytes, d_fd_7, ifCond.holds, h2]
        refine Steps.instrAtOv (c := _) (by simpa using B.here) ?_
        simp [jvm, wpRun, exec, B.here.top, B.exec, B.bytes, d_fd_21]
        refine Steps.instrAtOv (c := _) (by simpa using B.here) ?_
        simp [jvm, wpRun, exec, B.here.top, B.exec, B.bytes, d_fd_22, B.method₁, B.returns, narrow]
        intro acts
        rw [ret_to B.frames₁ B.method₁ B.notSynchronized rfl rfl hfs]
        exact Steps.refl _
      · exact Or.inr hfs
    · by_cases h3 : a' / b' * b' = a'
      ·
        refine fin (a' / b') (by rw [mfdiv, if_neg h2, if_pos h3]) (fun fs => ?_)
        by_cases hfs : handOver s₁ (some (.int (a' / b'))) below = some fs
        · left
          unfold entryFrame; rw [hloc]
          refine Steps.instrAtOv (c := _) (by simpa using B.here) ?_
          simp [jvm, wpRun, exec, B.here.top, B.exec, B.bytes, d_fd_0]
          refine Steps.instrAtOv (c := _) (by simpa using B.here) ?_
          simp [jvm, wpRun, exec, B.here.top, B.exec, B.bytes, d_fd_1]
          refine Steps.instrAtOv (c := _) (by simpa using B.here) ?_
          simp [jvm, wpRun, exec, B.here.top, B.exec, B.bytes, d_fd_2, hb0]
          refine Steps.instrAtOv (c := _) (by simpa using B.here) ?_
          simp [jvm, wpRun, exec, B.here.top, B.exec, B.bytes, d_fd_3]
          refine ⟨#[.val (.int a'), .val (.int b'), .val (.int (a' / b'))], rfl, ?_⟩
          refine Steps.instrAtOv (c := _) (by simpa using B.here) ?_
          simp [jvm, wpRun, exec, B.here.top, B.exec, B.bytes, d_fd_4]
          refine Steps.instrAtOv (c := _) (by simpa using B.here) ?_
          simp [jvm, wpRun, exec, B.here.top, B.exec, B.bytes, d_fd_5]
          refine Steps.instrAtOv (c := _) (by simpa using B.here) ?_
          simp [jvm, wpRun, exec, B.here.top, B.exec, B.bytes, d_fd_6]
          refine Steps.instrAtOv (c := _) (by simpa using B.here) ?_
          simp [jvm, wpRun, exec, B.here.top, B.exec, B.bytes, d_fd_7, ifCond.holds, h2]
          refine Steps.instrAtOv (c := _) (by simpa using B.here) ?_
          simp [jvm, wpRun, exec, B.here.top, B.exec, B.bytes, d_fd_10]
          refine Steps.instrAtOv (c := _) (by simpa using B.here) ?_
          simp [jvm, wpRun, exec, B.here.top, B.exec, B.bytes, d_fd_11]
          refine Steps.instrAtOv (c := _) (by simpa using B.here) ?_
          simp [jvm, wpRun, exec, B.here.top, B.exec, B.bytes, d_fd_12]
          refine Steps.instrAtOv (c := _) (by simpa using B.here) ?_
          simp [jvm, wpRun, exec, B.here.top, B.exec, B.bytes, d_fd_13]
          refine Steps.instrAtOv (c := _) (by simpa using B.here) ?_
          simp [jvm, wpRun, exec, B.here.top, B.exec, B.bytes, d_fd_14, if_icmp.holds, h3]
          refine Steps.instrAtOv (c := _) (by simpa using B.here) ?_
          simp [jvm, wpRun, exec, B.here.top, B.exec, B.bytes, d_fd_21]
          refine Steps.instrAtOv (c := _) (by simpa using B.here) ?_
          simp [jvm, wpRun, exec, B.here.top, B.exec, B.bytes, d_fd_22, B.method₁, B.returns, narrow]
          intro acts
          rw [ret_to B.frames₁ B.method₁ B.notSynchronized rfl rfl hfs]
          exact Steps.refl _
        · exact Or.inr hfs
      ·
        refine fin (a' / b' - 1) (by rw [mfdiv, if_neg h2, if_neg h3]) (fun fs => ?_)
        by_cases hfs : handOver s₁ (some (.int (a' / b' - 1))) below = some fs
        · left
          unfold entryFrame; rw [hloc]
          refine Steps.instrAtOv (c := _) (by simpa using B.here) ?_
          simp [jvm, wpRun, exec, B.here.top, B.exec, B.bytes, d_fd_0]
          refine Steps.instrAtOv (c := _) (by simpa using B.here) ?_
          simp [jvm, wpRun, exec, B.here.top, B.exec, B.bytes, d_fd_1]
          refine Steps.instrAtOv (c := _) (by simpa using B.here) ?_
          simp [jvm, wpRun, exec, B.here.top, B.exec, B.bytes, d_fd_2, hb0]
          refine Steps.instrAtOv (c := _) (by simpa using B.here) ?_
          simp [jvm, wpRun, exec, B.here.top, B.exec, B.bytes, d_fd_3]
          refine ⟨#[.val (.int a'), .val (.int b'), .val (.int (a' / b'))], rfl, ?_⟩
          refine Steps.instrAtOv (c := _) (by simpa using B.here) ?_
          simp [jvm, wpRun, exec, B.here.top, B.exec, B.bytes, d_fd_4]
          refine Steps.instrAtOv (c := _) (by simpa using B.here) ?_
          simp [jvm, wpRun, exec, B.here.top, B.exec, B.bytes, d_fd_5]
          refine Steps.instrAtOv (c := _) (by simpa using B.here) ?_
          simp [jvm, wpRun, exec, B.here.top, B.exec, B.bytes, d_fd_6]
          refine Steps.instrAtOv (c := _) (by simpa using B.here) ?_
          simp [jvm, wpRun, exec, B.here.top, B.exec, B.bytes, d_fd_7, ifCond.holds, h2]
          refine Steps.instrAtOv (c := _) (by simpa using B.here) ?_
          simp [jvm, wpRun, exec, B.here.top, B.exec, B.bytes, d_fd_10]
          refine Steps.instrAtOv (c := _) (by simpa using B.here) ?_
          simp [jvm, wpRun, exec, B.here.top, B.exec, B.bytes, d_fd_11]
          refine Steps.instrAtOv (c := _) (by simpa using B.here) ?_
          simp [jvm, wpRun, exec, B.here.top, B.exec, B.bytes, d_fd_12]
          refine Steps.instrAtOv (c := _) (by simpa using B.here) ?_
          simp [jvm, wpRun, exec, B.here.top, B.exec, B.bytes, d_fd_13]
          refine Steps.instrAtOv (c := _) (by simpa using B.here) ?_
          simp [jvm, wpRun, exec, B.here.top, B.exec, B.bytes, d_fd_14, if_icmp.holds, h3]
          refine Steps.instrAtOv (c := _) (by simpa using B.here) ?_
          simp [jvm, wpRun, exec, B.here.top, B.exec, B.bytes, d_fd_17]
          refine Steps.instrAtOv (c := _) (by simpa using B.here) ?_
          simp [jvm, wpRun, exec, B.here.top, B.exec, B.bytes, d_fd_18]
          refine Steps.instrAtOv (c := _) (by simpa using B.here) ?_
          simp [jvm, wpRun, exec, B.here.top, B.exec, B.bytes, d_fd_19]
          refine Steps.instrAtOv (c := _) (by simpa using B.here) ?_
          simp [jvm, wpRun, exec, B.here.top, B.exec, B.bytes, d_fd_20, B.method₁, B.returns, narrow]
          intro acts
          rw [ret_to B.frames₁ B.method₁ B.notSynchronized rfl rfl hfs]
          exact Steps.refl _
        · exact Or.inr hfs
set_option maxHeartbeats 4000000 in
theorem va_fdiv {p : Program} {l : Launch} {e : Env} {R : Room} {s : State} {m : MethodId} {args : Array Value} {below : List Frame} {meth : Method} {c : Code} {H : Heap} {locs : List Loc} {cells slots : Nat} {Q : State → Prop} {pc : Nat} {ls : Array Slot} {rest : List Value} {cc : ByteArray} (hexec : p.tables.exec = Jvm.exec) (hb : c.code = cc) (hml : c.maxLocals = ls.size) {own : String} {index : Nat} (hown : s.vm.findClass own = some m.cls) (hlink : (Cond.methodLink own index y_J_floorDiv).before args s = true) (hstat : (Cond.static y_J_floorDiv).before args s = true) (hini : (Cond.initialized "java/lang/Math").before args s = true) (hcode : (Cond.code y_J_floorDiv b_J_floorDiv 3 (some .int)).before args s = true)
    (hframes : 1 ≤ R.frames) (hlocals : (rest.map fun v => v.category).sum + 14 ≤ R.locals) (hc : cells ≤ R.cells) (hs : slots ≤ R.slots) {x y : Int32} (hy0 : ¬ y = 0) (hdg : decode cc pc = .ok (.invokestatic index, 3))
    (kk : W p l e R s m args below meth c H locs cells slots Q (F0 m (pc + 3) ls (.int (mfdiv x y) :: rest))) : W p l e R s m args below meth c H locs cells slots Q (F0 m pc ls (.int y :: .int x :: rest)) := by
  intro T hT X
  obtain ⟨v, vm', X', ⟨first, t, hpost⟩, hstep⟩ := X.staticByContractV hexec hown hlink hstat hini hcode (by decide) (fd_meets l x y hy0) rfl rfl rfl rfl
    (fun args' first o s₂ h => by
      simp only [fd_spec, Cond.after_and, Bool.and_eq_true] at h
      cases o with
      | returned r => exact ⟨r, rfl⟩
      | threw y => simp [Cond.after, Cond.holds, Cond.value] at h)
    (g := F0 m pc ls (.int y :: .int x :: rest)) rfl (by rw [hml]) (argsL := [.int x, .int y]) (rest := rest)
    (fun sig hs => by
      have h : parseMethodDescriptor "(II)I" = some { parameters := [.int, .int], returnType := some .int } := by decide +kernel
      rw [show y_J_floorDiv.desc = "(II)I" from rfl, h] at hs
      rw [← Option.some.inj hs]; rfl)
    rfl (by rw [hb]; exact hdg)
    (fun vm' hW => by
      simp only [fd_spec, Cond.before_and, Bool.and_eq_true]
      refine ⟨?_, rfl, rfl, rfl, ?_, ?_⟩
      · have q := hcode
        rw [← Cond.code_setVm hW.alike] at q
        simp only [Cond.before, Cond.holds, Cond.value, State.methodNamed?, State.vm_setVm] at q ⊢
        exact q
      · simp [Cond.before, Cond.holds, Cond.value, Term.eval]
      · simp [Cond.before, Cond.holds, Cond.value, Term.eval])
    (by show 0 + 1 ≤ R.frames; omega) (by show 2 * 0 + (rest.map fun v => v.category).sum + (3 + 11) + 0 ≤ R.locals; omega) (by show cells + 0 ≤ R.cells; omega) (by show slots + 0 ≤ R.slots; omega)
  obtain rfl : v = some (.int (mfdiv x y)) := by
    rcases v with _ | w
    · simp [fd_spec, Cond.after, Cond.holds, Cond.value, Term.eval] at hpost
    · cases w <;> simp [fd_spec, Cond.after, Cond.holds, Cond.value, Term.eval] at hpost
      simp [hpost]
  obtain ⟨t2, a1, b1⟩ := kk (T.setVm vm') hT X'
  exact ⟨t2, hstep t2 a1, b1⟩
variable {ρ : Type} {κ : GC} {Γ : GA} {nL cells slots : Nat} {QF : Option ρ → State → Prop} {σ : Mem} {lo lw : List (Option Value)} {pc n : Nat} {rest : List Value} {o : Option ρ} {cc : ByteArray} {own : String} {rm : Room} {rt : Option FieldType}
theorem g_mfdiv (hX : Gx κ Γ nL cc own rm rt) {x y : Int32} {dc : Decidable (y = 0)} {index : Nat} (hl1 : Cond.methodLink own index y_J_floorDiv ∈ TW) (hl2 : Cond.static y_J_floorDiv ∈ TW) (hl3 : Cond.initialized "java/lang/Math" ∈ TW) (hl4 : Cond.code y_J_floorDiv b_J_floorDiv 3 (some .int) ∈ TW) (hd : decode cc pc = .ok (.invokestatic index, 3)) (hn : pc + 3 = n) (hR : 1 ≤ rm.frames) (hR2 : (rest.map fun v => v.category).sum + 14 ≤ rm.locals) (hc : cells ≤ rm.cells) (hs : slots ≤ rm.slots) (k : GG κ Γ nL QF cells slots σ lo n (.int (mfdiv x y) :: rest) o) : GG κ Γ nL QF cells slots σ lo pc (.int y :: .int x :: rest) (@ite _ (y = 0) dc none o) := by
  subst hn
  have hRm := hX.2.2.2.2.2.2.2.2.1
  intro h0 H locs ls hP hD hS hl
  by_cases h : y = 0
  · exact absurd (if_pos h) h0
  · rw [if_neg h] at h0 ⊢
    exact va_fdiv hX.1 hX.2.1 (by rw [hX.2.2.2.2.2.2.1]; exact hl.1.1.symm) hX.2.2.2.1 (hX.2.2.1 _ hl1) (hX.2.2.1 _ hl2) (hX.2.2.1 _ hl3) (hX.2.2.1 _ hl4) (by rw [hRm]; exact hR) (by rw [hRm]; exact hR2) (by rw [hRm]; exact hc) (by rw [hRm]; exact hs) h hd (k h0 H locs ls hP hD hS hl)
end FD
