/-! Methods with a table of handlers. -/
section GJ4
variable {ρ : Type} {κ : GC} {Γ : GA} {nL cells slots : Nat} {QF : Option ρ → State → Prop} {σ : Mem} {lo lw : List (Option Value)} {pc n : Nat} {rest : List Value} {o : Option ρ} {cc : ByteArray} {own : String} {rm : Room} {rt : Option FieldType}
abbrev gwsH (y : MethodName) (bc : ByteArray) (mL : Nat) (hh : List (Nat × Nat × Nat × Nat)) : List Cond := Cond.codeWith y bc mL (some .int) hh :: TW
def gH (l : Launch) (y : MethodName) (bc : ByteArray) (mL : Nat) (hh : List (Nat × Nat × Nat × Nat)) (rm : Room) (av : List Value) (Γ : GA) (σ : Mem) (o : Option (Int32 × Mem)) : Prop :=
  o ≠ none → Met l y (gwsH y bc mL hh) rm (va_Pc av (gBW Γ σ)) (gqi Γ o) rm.cells rm.slots (gA Γ)
theorem gH.of {l : Launch} {y : MethodName} {bc : ByteArray} {mL : Nat} {hh : List (Nat × Nat × Nat × Nat)} {rm : Room} {av : List Value} {Γ : GA} {σ : Mem} {o : Option (Int32 × Mem)} (lo0 : List (Option Value)) (hy : plainName y.cls = true) (hlen : (lg_sl av).length ≤ mL) (hla : gla 0 lo0 = lv_args 0 av) (hca : (gla 0 lo0).all (fun x => x.2.category == 1) = true)
    (body : ∀ κ : GC, Gx κ Γ mL bc y.cls rm (some .int) → κ.2.1 = l → κ.2.2.2.2.2.2.2.2.2.exceptionTable.toList = tableOf hh → GG κ Γ mL (gQ gqi κ Γ rm) 0 0 σ lo0 0 [] o) : gH l y bc mL hh rm av Γ σ o := by
  intro ho
  refine va_MetW (cc := bc) (maxL := mL) (ret := some .int) hy rfl ?_
  intro p e s m args below meth c s₁ B hml hv
  obtain ⟨rfl, hP, hD, hK, hsz, hz1, hz2, hbd⟩ := hv
  have hts := atoms_spec (ws := gwsH y bc mL hh) B.pre
  have hl := lv_entry av (n := mL) hlen
  rw [lg_entry_eq]
  exact body (p, l, e, rm, s, m, av.toArray, below, meth, c) ⟨B.exec, B.bytes, fun w hw => hts w (List.mem_cons_of_mem _ hw), findClass_of_methodNamed B.named, hK, hsz, hml, B.notSynchronized, rfl, B.returns, hz1, hz2, hbd⟩ rfl (vx_table (x := y) B (hts _ List.mem_cons_self)) ho s.heap [] _ hP hD va_S.rf (gL.entry hl hla hca)
def gWH (own : String) (index : Nat) (y : MethodName) (bc : ByteArray) (mL : Nat) (hh : List (Nat × Nat × Nat × Nat)) (nA : Nat) : Prop := GoodIn TW (va_wsS own index y (gwsH y bc mL hh)) ∧ y.cls ≠ "java/lang/invoke/MethodHandle" ∧ y.cls ≠ "java/lang/invoke/VarHandle" ∧ (parseMethodDescriptor y.desc).map (fun d => d.parameters.length) = some nA
theorem gGoodH {ws : List Cond} {y : MethodName} {bc : ByteArray} {mL : Nat} {hh : List (Nat × Nat × Nat × Nat)} (hT : ∀ w ∈ TW, goodWord w = true) (h : ∀ w ∈ ws, w ∈ TW) (hc : Cond.codeWith y bc mL (some .int) hh ∈ TW) : GoodIn TW (ws ++ gwsH y bc mL hh) := by
  intro w hw
  have h1 : w ∈ TW := by
    rcases List.mem_append.1 hw with q | q
    · exact h w q
    · rcases List.mem_cons.1 q with q | q
      · rw [q]; exact hc
      · exact q
  exact ⟨h1, good_of_word (hT w h1)⟩
theorem g_cH (hX : Gx κ Γ nL cc own rm rt) {y : MethodName} {bc : ByteArray} {mL : Nat} {yrm : Room} {index nA : Nat} {st : List Value} {hh : List (Nat × Nat × Nat × Nat)} (As : List Value) (hst : As.reverse ++ rest = st) {of : Option (Int32 × Mem)} {ok : Int32 → Mem → Option ρ} (c1 s1 : Nat) (hM : gH κ.2.1 y bc mL hh yrm As Γ σ of) (hW : gWH own index y bc mL hh nA) (hA : As.length = nA) (hd : decode cc pc = .ok (.invokestatic index, 3)) (hn : pc + 3 = n) (hR : yrm.frames + 1 ≤ rm.frames ∧ 8 + (mL + 11) + yrm.locals ≤ rm.locals) (hC : cells + yrm.cells ≤ rm.cells ∧ slots + yrm.slots ≤ rm.slots) (hw : (rest.map fun v => v.category).sum ≤ 8) (hc1 : cells + yrm.cells = c1) (hs1 : slots + yrm.slots = s1) (k : ∀ r u, GG κ Γ nL QF c1 s1 u lo n (.int r :: rest) (ok r u)) : GG κ Γ nL QF cells slots σ lo pc st (gb of ok) := by
  subst hn; subst hst; subst hc1; subst hs1
  have hRm := hX.2.2.2.2.2.2.2.2.1
  intro h0 H locs ls hP hD hS hl
  have ho : of ≠ none := by rintro rfl; exact h0 rfl
  refine va_calli (vx_runSW (As := As) (rest := rest) ⟨hX.1, hX.2.1, hX.2.2.2.2.2.2.1, hX.2.2.2.1, hX.2.2.1⟩ (hM ho) (vx_cwSW nA hX.2.2.1 hW.1 rfl rfl rfl hW.2 (by rw [hRm]; exact hR)) ⟨gBW.blind, fun U hU hW => ⟨rfl, gBW.mk hX hP hD hS hU hW.alike⟩⟩ rfl hA hl.1.1 rfl (lv_room hw) hd (by rw [hRm]; exact hC)) hS (fun q _ h => h) (fun q h => h) (fun r u t H1 locs1 ht hvm hp hB hz hk hS1 => ?_)
  have e1 : gb of ok = ok r u := by rw [hp]; rfl
  rw [e1] at h0 ⊢
  exact k r u h0 H1 locs1 ls (ht ▸ hB.1) hB.2.1 hS1 hl
/-- the row of the table that takes an exception E thrown at pc -/
def gCt (κ : GC) (own : String) (tab : List ExceptionTableEntry) (pc : Nat) (E : String) (hpc : Nat) : Prop := ∃ (pre : List ExceptionTableEntry) (x : ExceptionTableEntry) (suf : List ExceptionTableEntry) (nm : String), tab = pre ++ x :: suf ∧ (∀ z ∈ pre, covers z pc = false ∨ (z.catchType ≠ 0 ∧ ∃ nm : String, Cond.classLink own z.catchType nm ∈ TW ∧ va_Nc E nm κ.2.2.2.2.1)) ∧ covers x pc = true ∧ x.catchType ≠ 0 ∧ Cond.classLink own x.catchType nm ∈ TW ∧ va_Nw (.castable E nm) κ.2.2.2.2.1 ∧ x.handlerPc = hpc
theorem g_ti (hX : Gx κ Γ nL cc own rm rt) {tab : List ExceptionTableEntry} (hTab : κ.2.2.2.2.2.2.2.2.2.exceptionTable.toList = tab) {y : MethodName} {bc : ByteArray} {mL : Nat} {yrt : Option FieldType} {yrm : Room} {index nA : Nat} {st : List Value} {q ci : Nat} {fl : List Nat} (As : List Value) (hst : As.reverse ++ .ref (Γ.2.1 q) :: rest = st) {of : Option ((Int32 ⊕ String) × Mem)} {ok : Int32 → Mem → Option ρ} {kx : String → Mem → Option ρ} (c1 s1 : Nat) (hM : gX gxi κ.2.1 y bc mL yrt yrm (.ref (Γ.2.1 q) :: As) Γ σ of) (hW : gWV own index y bc mL yrt nA) (hA : As.length = nA) (hs : gSh[q]? = some (0, ci, fl)) (hcl : (gCl[ci]?).map (fun z => z.1) = some y.cls) (hd : decode cc pc = .ok (.invokevirtual index, 3)) (hn : pc + 3 = n) (hR : yrm.frames + 1 ≤ rm.frames ∧ 8 + (mL + 11) + yrm.locals ≤ rm.locals) (hC : cells + yrm.cells ≤ rm.cells ∧ slots + yrm.slots ≤ rm.slots) (hw : (rest.map fun v => v.category).sum ≤ 8) (hc1 : cells + yrm.cells = c1) (hs1 : slots + yrm.slots = s1) (k : ∀ r u, GG κ Γ nL QF c1 s1 u lo n (.int r :: rest) (ok r u)) (hx : ∀ E u, kx E u ≠ none → ∃ hpc, gCt κ own tab pc E hpc ∧ ∀ q9 : Nat, GG κ Γ nL QF c1 s1 u lo hpc [.ref q9] (kx E u)) : GG κ Γ nL QF cells slots σ lo pc st (gbx of ok kx) := by
  subst hn; subst hst; subst hc1; subst hs1
  have hRm := hX.2.2.2.2.2.2.2.2.1
  intro h0 H locs ls hP hD hS hl
  have ho : of ≠ none := by rintro rfl; exact h0 rfl
  refine vx_calli (vx_runV (As := As) (rest := rest) ⟨hX.1, hX.2.1, hX.2.2.2.2.2.2.1, hX.2.2.2.1, hX.2.2.1⟩ (hM ho) (cwV nA hX.2.2.1 hW.1 rfl rfl rfl ⟨rfl, hW.2.1, hW.2.2.1, hW.2.2.2⟩ (by rw [hRm]; exact hR)) ⟨gBW.blind, gRecv hX hP hs hcl, fun U hU hW => ⟨rfl, gBW.mk hX hP hD hS hU hW.alike⟩⟩ rfl hA hl.1.1 rfl (lv_room hw) hd (by rw [hRm]; exact hC)) hS (fun q _ h => h) (fun q h => h) (fun q _ h => h) (fun E ce q9 u t H1 locs1 ht hvm _ hB hz hk hS1 hce hcv hcl9 => ?_) (fun r u t H1 locs1 ht hvm hp hB hz hk hS1 => ?_)
  · obtain ⟨hp, hB⟩ := hB
    have e1 : gbx of ok kx = kx E u := by rw [hp]; rfl
    rw [e1] at h0 ⊢
    obtain ⟨hpc, ⟨pre, x, suf, nm, ht1, ht2, ht3, ht4, ht5, ht6, ht7⟩, hk9⟩ := hx E u h0
    subst ht7
    refine vx_catch hX.2.2.2.1 pre x suf (by rw [hTab]; exact ht1) (fun z hz => ?_) ht3 ht4 (hX.2.2.1 _ ht5) (va_Nw.use rfl ht6) hce hcv hcl9 (hk9 q9 h0 H1 locs1 ls (ht ▸ hB.1) hB.2.1 hS1 hl)
    rcases ht2 z hz with a | ⟨a, nm2, b, c⟩
    · exact Or.inl a
    · exact Or.inr ⟨a, nm2, hX.2.2.1 _ b, c⟩
  · have e1 : gbx of ok kx = ok r u := by rw [hp]; rfl
    rw [e1] at h0 ⊢
    exact k r u h0 H1 locs1 ls (ht ▸ hB.1) hB.2.1 hS1 hl
theorem g_tv (hX : Gx κ Γ nL cc own rm rt) {tab : List ExceptionTableEntry} (hTab : κ.2.2.2.2.2.2.2.2.2.exceptionTable.toList = tab) {y : MethodName} {bc : ByteArray} {mL : Nat} {yrt : Option FieldType} {yrm : Room} {index nA : Nat} {st : List Value} {q ci : Nat} {fl : List Nat} (As : List Value) (hst : As.reverse ++ .ref (Γ.2.1 q) :: rest = st) {of : Option ((Unit ⊕ String) × Mem)} {ok : Unit → Mem → Option ρ} {kx : String → Mem → Option ρ} (c1 s1 : Nat) (hM : gX gxv κ.2.1 y bc mL yrt yrm (.ref (Γ.2.1 q) :: As) Γ σ of) (hW : gWV own index y bc mL yrt nA) (hA : As.length = nA) (hs : gSh[q]? = some (0, ci, fl)) (hcl : (gCl[ci]?).map (fun z => z.1) = some y.cls) (hd : decode cc pc = .ok (.invokevirtual index, 3)) (hn : pc + 3 = n) (hR : yrm.frames + 1 ≤ rm.frames ∧ 8 + (mL + 11) + yrm.locals ≤ rm.locals) (hC : cells + yrm.cells ≤ rm.cells ∧ slots + yrm.slots ≤ rm.slots) (hw : (rest.map fun v => v.category).sum ≤ 8) (hc1 : cells + yrm.cells = c1) (hs1 : slots + yrm.slots = s1) (k : ∀ _r u, GG κ Γ nL QF c1 s1 u lo n rest (ok _r u)) (hx : ∀ E u, kx E u ≠ none → ∃ hpc, gCt κ own tab pc E hpc ∧ ∀ q9 : Nat, GG κ Γ nL QF c1 s1 u lo hpc [.ref q9] (kx E u)) : GG κ Γ nL QF cells slots σ lo pc st (gbx of ok kx) := by
  subst hn; subst hst; subst hc1; subst hs1
  have hRm := hX.2.2.2.2.2.2.2.2.1
  intro h0 H locs ls hP hD hS hl
  have ho : of ≠ none := by rintro rfl; exact h0 rfl
  refine vx_callv (vx_runV (As := As) (rest := rest) ⟨hX.1, hX.2.1, hX.2.2.2.2.2.2.1, hX.2.2.2.1, hX.2.2.1⟩ (hM ho) (cwV nA hX.2.2.1 hW.1 rfl rfl rfl ⟨rfl, hW.2.1, hW.2.2.1, hW.2.2.2⟩ (by rw [hRm]; exact hR)) ⟨gBW.blind, gRecv hX hP hs hcl, fun U hU hW => ⟨rfl, gBW.mk hX hP hD hS hU hW.alike⟩⟩ rfl hA hl.1.1 rfl (lv_room hw) hd (by rw [hRm]; exact hC)) hS (fun q _ h => h) (fun q h => h) (fun q _ h => h) (fun E ce q9 u t H1 locs1 ht hvm _ hB hz hk hS1 hce hcv hcl9 => ?_) (fun u t H1 locs1 ht hvm hp hB hz hk hS1 => ?_)
  · obtain ⟨hp, hB⟩ := hB
    have e1 : gbx of ok kx = kx E u := by rw [hp]; rfl
    rw [e1] at h0 ⊢
    obtain ⟨hpc, ⟨pre, x, suf, nm, ht1, ht2, ht3, ht4, ht5, ht6, ht7⟩, hk9⟩ := hx E u h0
    subst ht7
    refine vx_catch hX.2.2.2.1 pre x suf (by rw [hTab]; exact ht1) (fun z hz => ?_) ht3 ht4 (hX.2.2.1 _ ht5) (va_Nw.use rfl ht6) hce hcv hcl9 (hk9 q9 h0 H1 locs1 ls (ht ▸ hB.1) hB.2.1 hS1 hl)
    rcases ht2 z hz with a | ⟨a, nm2, b, c⟩
    · exact Or.inl a
    · exact Or.inr ⟨a, nm2, hX.2.2.1 _ b, c⟩
  · have e1 : gbx of ok kx = ok () u := by rw [hp]; rfl
    rw [e1] at h0 ⊢
    exact k () u h0 H1 locs1 ls (ht ▸ hB.1) hB.2.1 hS1 hl
end GJ4
