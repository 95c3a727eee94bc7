/-! Contracts, calls, returns, throws. -/
section GJ3
variable {ρ : Type} {κ : GC} {Γ : GA} {nL cells slots : Nat} {QF : Option ρ → State → Prop} {σ : Mem} {lo lw : List (Option Value)} {pc n : Nat} {rest : List Value} {o : Option ρ} {cc : ByteArray} {own : String} {rm : Room} {rt : Option FieldType}
theorem gBW.mk (hX : Gx κ Γ nL cc own rm rt) {H : Heap} {locs : List Loc} {U : State} (hP : va_P Γ.1 gCl (gwd Γ σ) H) (hD : va_D (gA Γ) (gwd Γ σ)) (hS : va_S (gA Γ) κ.2.2.2.2.1.heap H locs) (hU : U.heap = H) (hA : κ.2.2.2.2.1.vm.Alike U.vm) : gBW Γ σ U := by
  subst hU
  exact ⟨hP, hD, va_K.moved hA hX.2.2.2.2.1, Nat.le_trans hX.2.2.2.2.2.1 hS.1, vx_Zq.moved hA (hX.2.2.2.2.2.2.2.2.2.2.1.kept (fun a h1 h2 => hS.2.1 a h1 h2)), vx_Zq.moved hA (hX.2.2.2.2.2.2.2.2.2.2.2.1.kept (fun a h1 h2 => hS.2.1 a h1 h2)), gBad.moved hA hX.2.2.2.2.2.2.2.2.2.2.2.2⟩
abbrev gws (y : MethodName) (bc : ByteArray) (mL : Nat) (yrt : Option FieldType) : List Cond := Cond.code y bc mL yrt :: TW
def gqi (Γ : GA) (o : Option (Int32 × Mem)) : Array Value → State → Outcome → State → Prop := va_Qi (fun r u => o = some (r, u)) (gBW Γ) (gA Γ)
def gqv (Γ : GA) (o : Option Mem) : Array Value → State → Outcome → State → Prop := va_Qv (fun u => o = some u) (gBW Γ) (gA Γ)
def gxi (Γ : GA) (o : Option ((Int32 ⊕ String) × Mem)) : Array Value → State → Outcome → State → Prop := va_Qi (fun r u => o = some (.inl r, u)) (gBW Γ) (gA Γ)
def gxv (Γ : GA) (o : Option ((Unit ⊕ String) × Mem)) : Array Value → State → Outcome → State → Prop := va_Qv (fun u => o = some (.inl (), u)) (gBW Γ) (gA Γ)
def gxr (Γ : GA) (o : Option ((Nat ⊕ String) × Mem)) : Array Value → State → Outcome → State → Prop := va_Qr (fun u : Nat × Mem => o = some (.inl u.1, u.2)) (fun u a t => a = Γ.2.1 u.1 ∧ gBW Γ u.2 t) (gA Γ)
def gxc {α : Type} (Γ : GA) (o : Option ((α ⊕ String) × Mem)) : String → State → State → Prop := vx_X (fun _ : Mem => True) (fun E u t => o = some (.inr E, u) ∧ gBW Γ u t) (gA Γ)
def gM {α : Type} (qc : GA → Option α → Array Value → State → Outcome → State → Prop) (l : Launch) (y : MethodName) (bc : ByteArray) (mL : Nat) (yrt : Option FieldType) (rm : Room) (av : List Value) (Γ : GA) (σ : Mem) (o : Option α) : Prop :=
  o ≠ none → Met l y (gws y bc mL yrt) rm (va_Pc av (gBW Γ σ)) (qc Γ o) rm.cells rm.slots (gA Γ)
def gX {α : Type} (qc : GA → Option ((α ⊕ String) × Mem) → Array Value → State → Outcome → State → Prop) (l : Launch) (y : MethodName) (bc : ByteArray) (mL : Nat) (yrt : Option FieldType) (rm : Room) (av : List Value) (Γ : GA) (σ : Mem) (o : Option ((α ⊕ String) × Mem)) : Prop :=
  o ≠ none → vx_Met l y (gws y bc mL yrt) rm (va_Pc av (gBW Γ σ)) (qc Γ o) (gxc Γ o) rm.cells rm.slots (gA Γ)
def gQ {α : Type} (qc : GA → Option α → Array Value → State → Outcome → State → Prop) (κ : GC) (Γ : GA) (rm : Room) : Option α → State → Prop := fun o => MQ κ.2.2.2.2.2.2.2.1 (qc Γ o) κ.2.2.2.2.2.2.1 κ.2.2.2.2.1 rm.cells rm.slots (gA Γ)
def gQX {α : Type} (qc : GA → Option ((α ⊕ String) × Mem) → Array Value → State → Outcome → State → Prop) (κ : GC) (Γ : GA) (rm : Room) : Option ((α ⊕ String) × Mem) → State → Prop := fun o => vx_MQ κ.2.2.2.2.2.2.2.1 (qc Γ o) (gxc Γ o) κ.2.2.2.2.2.2.1 κ.2.2.2.2.1 rm.cells rm.slots (gA Γ)
theorem gL.entry {av : List Value} {mL : Nat} {lo0 : List (Option Value)} {ls : Array Slot} (h : lv_has ls mL (lv_args 0 av)) (hla : gla 0 lo0 = lv_args 0 av) (hca : (gla 0 lo0).all (fun x => x.2.category == 1) = true) : gL ls mL lo0 :=
  ⟨by rw [hla]; exact h, fun x hx => by simpa using List.all_eq_true.1 hca x hx⟩
theorem gM.of {α : Type} {qc : GA → Option α → Array Value → State → Outcome → State → Prop} {l : Launch} {y : MethodName} {bc : ByteArray} {mL : Nat} {yrt : Option FieldType} {rm : Room} {av : List Value} {Γ : GA} {σ : Mem} {o : Option α} (lo0 : List (Option Value)) (hy : plainName y.cls = true) (hlen : (lg_sl av).length ≤ mL) (hla : gla 0 lo0 = lv_args 0 av) (hca : (gla 0 lo0).all (fun x => x.2.category == 1) = true)
    (body : ∀ κ : GC, Gx κ Γ mL bc y.cls rm yrt → κ.2.1 = l → GG κ Γ mL (gQ qc κ Γ rm) 0 0 σ lo0 0 [] o) : gM qc l y bc mL yrt rm av Γ σ o := by
  intro ho
  refine Met.ofW (cc := bc) (maxL := mL) (ret := yrt) hy rfl ?_
  intro p e s m args below meth c s₁ B hml hv
  obtain ⟨rfl, hP, hD, hK, hsz, hz1, hz2, hbd⟩ := hv
  have hts := atoms_spec (ws := gws y bc mL yrt) B.pre
  have hl := lv_entry av (n := mL) hlen
  rw [lg_entry_eq]
  exact body (p, l, e, rm, s, m, av.toArray, below, meth, c) ⟨B.exec, B.bytes, fun w hw => hts w (List.mem_cons_of_mem _ hw), findClass_of_methodNamed B.named, hK, hsz, hml, B.notSynchronized, rfl, B.returns, hz1, hz2, hbd⟩ rfl ho s.heap [] _ hP hD va_S.rf (gL.entry hl hla hca)
theorem gX.of {α : Type} {qc : GA → Option ((α ⊕ String) × Mem) → Array Value → State → Outcome → State → Prop} {l : Launch} {y : MethodName} {bc : ByteArray} {mL : Nat} {yrt : Option FieldType} {rm : Room} {av : List Value} {Γ : GA} {σ : Mem} {o : Option ((α ⊕ String) × Mem)} (lo0 : List (Option Value)) (hy : plainName y.cls = true) (hlen : (lg_sl av).length ≤ mL) (hla : gla 0 lo0 = lv_args 0 av) (hca : (gla 0 lo0).all (fun x => x.2.category == 1) = true)
    (body : ∀ κ : GC, Gx κ Γ mL bc y.cls rm yrt → κ.2.1 = l → (∀ x ∈ κ.2.2.2.2.2.2.2.2.2.exceptionTable.toList, False) → GG κ Γ mL (gQX qc κ Γ rm) 0 0 σ lo0 0 [] o) : gX qc l y bc mL yrt rm av Γ σ o := by
  intro ho
  refine vx_ofW (cc := bc) (maxL := mL) (ret := yrt) hy rfl ?_
  intro p e s m args below meth c s₁ B hml hE hv
  obtain ⟨rfl, hP, hD, hK, hsz, hz1, hz2, hbd⟩ := hv
  have hts := atoms_spec (ws := gws y bc mL yrt) B.pre
  have hl := lv_entry av (n := mL) hlen
  rw [lg_entry_eq]
  exact body (p, l, e, rm, s, m, av.toArray, below, meth, c) ⟨B.exec, B.bytes, fun w hw => hts w (List.mem_cons_of_mem _ hw), findClass_of_methodNamed B.named, hK, hsz, hml, B.notSynchronized, rfl, B.returns, hz1, hz2, hbd⟩ rfl hE ho s.heap [] _ hP hD va_S.rf (gL.entry hl hla hca)
/-! returns -/
theorem g_iret (hX : Gx κ Γ nL cc own rm (some .int)) {v : Int32} (hd : decode cc pc = .ok (.ireturn, 1)) (hc : cells ≤ rm.cells) (hs : slots ≤ rm.slots) : GG κ Γ nL (gQ gqi κ Γ rm) cells slots σ lo pc [.int v] (some (v, σ)) := by
  intro h0 H locs ls hP hD hS hl
  exact W.widen hc hs (W.iret hX.1 hX.2.1 hX.2.2.2.2.2.2.2.2.2.1 (fun t ht hW => ⟨⟨v, σ, rfl, rfl, gBW.mk hX hP hD hS ht hW.alike⟩, hS.F ht⟩) hS.2.2 hd hX.2.2.2.2.2.2.2.1)
theorem g_iretz (hX : Gx κ Γ nL cc own rm (some .boolean)) {v : Int32} (hv : narrow .boolean (.int v) = .int v) (hd : decode cc pc = .ok (.ireturn, 1)) (hc : cells ≤ rm.cells) (hs : slots ≤ rm.slots) : GG κ Γ nL (gQ gqi κ Γ rm) cells slots σ lo pc [.int v] (some (v, σ)) := by
  intro h0 H locs ls hP hD hS hl
  exact W.widen hc hs (W.zret hX.1 hX.2.1 hX.2.2.2.2.2.2.2.2.2.1 hv (fun t ht hW => ⟨⟨v, σ, rfl, rfl, gBW.mk hX hP hD hS ht hW.alike⟩, hS.F ht⟩) hS.2.2 hd hX.2.2.2.2.2.2.2.1)
theorem g_iretZ (hX : Gx κ Γ nL cc own rm (some .boolean)) {v : Int32} {dc : Decidable (v &&& 1 = v)} (hd : decode cc pc = .ok (.ireturn, 1)) (hc : cells ≤ rm.cells) (hs : slots ≤ rm.slots) : GG κ Γ nL (gQ gqi κ Γ rm) cells slots σ lo pc [.int v] (@ite _ (v &&& 1 = v) dc (some (v, σ)) none) := by
  by_cases h : v &&& 1 = v
  · rw [if_pos h]; exact g_iretz hX (by simp only [narrow, h]) hd hc hs
  · rw [if_neg h]; exact g_none
theorem g_ixret (hX : Gx κ Γ nL cc own rm (some .int)) {v : Int32} (hd : decode cc pc = .ok (.ireturn, 1)) (hc : cells ≤ rm.cells) (hs : slots ≤ rm.slots) : GG κ Γ nL (gQX gxi κ Γ rm) cells slots σ lo pc [.int v] (some (.inl v, σ)) := by
  intro h0 H locs ls hP hD hS hl
  exact W.widen hc hs (vx_ret (W.iret hX.1 hX.2.1 hX.2.2.2.2.2.2.2.2.2.1 (fun t ht hW => ⟨⟨v, σ, rfl, rfl, gBW.mk hX hP hD hS ht hW.alike⟩, hS.F ht⟩) hS.2.2 hd hX.2.2.2.2.2.2.2.1))
theorem g_ixretz (hX : Gx κ Γ nL cc own rm (some .boolean)) {v : Int32} (hv : narrow .boolean (.int v) = .int v) (hd : decode cc pc = .ok (.ireturn, 1)) (hc : cells ≤ rm.cells) (hs : slots ≤ rm.slots) : GG κ Γ nL (gQX gxi κ Γ rm) cells slots σ lo pc [.int v] (some (.inl v, σ)) := by
  intro h0 H locs ls hP hD hS hl
  exact W.widen hc hs (vx_ret (W.zret hX.1 hX.2.1 hX.2.2.2.2.2.2.2.2.2.1 hv (fun t ht hW => ⟨⟨v, σ, rfl, rfl, gBW.mk hX hP hD hS ht hW.alike⟩, hS.F ht⟩) hS.2.2 hd hX.2.2.2.2.2.2.2.1))
theorem g_ixretZ (hX : Gx κ Γ nL cc own rm (some .boolean)) {v : Int32} {dc : Decidable (v &&& 1 = v)} (hd : decode cc pc = .ok (.ireturn, 1)) (hc : cells ≤ rm.cells) (hs : slots ≤ rm.slots) : GG κ Γ nL (gQX gxi κ Γ rm) cells slots σ lo pc [.int v] (@ite _ (v &&& 1 = v) dc (some (.inl v, σ)) none) := by
  by_cases h : v &&& 1 = v
  · rw [if_pos h]; exact g_ixretz hX (by simp only [narrow, h]) hd hc hs
  · rw [if_neg h]; exact g_none
theorem g_vret (hX : Gx κ Γ nL cc own rm none) (hd : decode cc pc = .ok (.return_, 1)) (hc : cells ≤ rm.cells) (hs : slots ≤ rm.slots) : GG κ Γ nL (gQ gqv κ Γ rm) cells slots σ lo pc [] (some σ) := by
  intro h0 H locs ls hP hD hS hl
  exact W.widen hc hs (W.vret hX.1 hX.2.1 hX.2.2.2.2.2.2.2.2.2.1 (fun t ht hW => ⟨⟨σ, rfl, rfl, gBW.mk hX hP hD hS ht hW.alike⟩, hS.F ht⟩) hS.2.2 hd hX.2.2.2.2.2.2.2.1)
theorem g_vxret (hX : Gx κ Γ nL cc own rm none) (hd : decode cc pc = .ok (.return_, 1)) (hc : cells ≤ rm.cells) (hs : slots ≤ rm.slots) : GG κ Γ nL (gQX gxv κ Γ rm) cells slots σ lo pc [] (some (.inl (), σ)) := by
  intro h0 H locs ls hP hD hS hl
  exact W.widen hc hs (vx_ret (W.vret hX.1 hX.2.1 hX.2.2.2.2.2.2.2.2.2.1 (fun t ht hW => ⟨⟨σ, rfl, rfl, gBW.mk hX hP hD hS ht hW.alike⟩, hS.F ht⟩) hS.2.2 hd hX.2.2.2.2.2.2.2.1))
theorem g_axret {ct : String} (hX : Gx κ Γ nL cc own rm (some (.object ct))) {q : Nat} (hd : decode cc pc = .ok (.areturn, 1)) (hc : cells ≤ rm.cells) (hs : slots ≤ rm.slots) : GG κ Γ nL (gQX gxr κ Γ rm) cells slots σ lo pc [.ref (Γ.2.1 q)] (some (.inl q, σ)) := by
  intro h0 H locs ls hP hD hS hl
  exact W.widen hc hs (vx_ret (W.aret hX.1 hX.2.1 hX.2.2.2.2.2.2.2.2.2.1 (Or.inl ⟨_, rfl⟩) (Or.inr ⟨_, rfl⟩) (fun t ht hW => ⟨⟨(q, σ), _, rfl, rfl, rfl, gBW.mk hX hP hD hS ht hW.alike⟩, hS.F ht⟩) hS.2.2 hd hX.2.2.2.2.2.2.2.1))
/-! throws -/
/-- a throw's words -/
def gB (cls : String) : List Cond := .castable cls cls :: gDec.map (fun x => .declares x)
def gNames : List String := ["java/lang/RuntimeException", "java/lang/Exception"]
def gTh (own : String) (ik ic : Nat) (cls : String) : Prop := cls ∈ gExc ∧ Bundle.fit cls = true ∧ (∀ n ∈ gNames, Bundle.fit n = true) ∧ Cond.classLink own ik cls ∈ TW ∧ Cond.initialized cls ∈ TW ∧ (∀ w ∈ (vx_at0 own ic cls gNames).filter goodWord, w ∈ TW) ∧ (∀ w ∈ (vx_at0 own ic cls gNames).filter (fun w => !goodWord w), w ∈ gB cls) ∧ ∀ w ∈ Cond.classLink own ik cls :: Cond.initialized cls :: vx_at0 own ic cls gNames, vx_ot w = true
theorem g_throw {α : Type} {qC : GA → Option ((α ⊕ String) × Mem) → Array Value → State → Outcome → State → Prop} (hX : Gx κ Γ nL cc own rm rt) (hE : ∀ x ∈ κ.2.2.2.2.2.2.2.2.2.exceptionTable.toList, False) (hT : κ.2.1.stackTraces = false) {ik ic : Nat} {cls : String} (hw : gTh own ik ic cls) (d0 : decode cc pc = .ok (.new ik, 3)) (d3 : decode cc (pc + 3) = .ok (.dup, 1)) (d4 : decode cc (pc + 4) = .ok (.invokespecial ic, 3)) (d7 : decode cc (pc + 7) = .ok (.athrow, 1))
    (hR : 5 < rm.frames) (hR2 : (rest.map fun v => v.category).sum + 81 ≤ rm.locals) (hc : cells + 1 ≤ rm.cells) (hs : slots + 6 ≤ rm.slots) : GG κ Γ nL (gQX qC κ Γ rm) cells slots σ lo pc rest (some (.inr cls, σ)) := by
  obtain ⟨hx, h1, h2, h3, h4, h5, h6, h7⟩ := hw
  have hRm := hX.2.2.2.2.2.2.2.2.1
  have hbd := hX.2.2.2.2.2.2.2.2.2.2.2.2
  intro h0 H locs ls hP hD hS hl
  have hB : ∀ w ∈ gB cls, w.before κ.2.2.2.2.2.2.1 κ.2.2.2.2.1 = true := by
    intro w hw
    rcases List.mem_cons.1 hw with q | q
    · rw [q]; exact va_Nw.use rfl (hbd.2.1 cls hx)
    · obtain ⟨x, hx1, rfl⟩ := List.mem_map.1 q
      exact va_Nw.use rfl (hbd.1 x hx1)
  refine vx_throw0 hX.1 hX.2.1 hT hX.2.2.2.1 h1 h2 (hX.2.2.1 _ h3) (hX.2.2.1 _ h4) (vx_hat (B := gB cls) (fun w hw => hX.2.2.1 w (h5 w hw)) h6 hB) h7 hX.2.2.2.2.2.2.2.2.2.2.1 hX.2.2.2.2.2.2.2.2.2.2.2.1 hS (by rw [hX.2.2.2.2.2.2.1]; exact hl.1.1) d0 d3 d4 d7 (fun x hx => (hE x hx).elim) (by rw [hRm]; exact hR) (by rw [hRm]; exact hR2) (by rw [hRm]; exact Nat.le_trans hc (Nat.le_refl _)) (by rw [hRm]; exact hs) hX.2.2.2.2.2.2.2.1 (fun t hA hz hk => ?_) hS.2.2 hc hs
  refine ⟨σ, trivial, ⟨rfl, ?_⟩, Nat.le_trans hS.1 hz, fun q hq hnA => by rw [hk q (Nat.lt_of_lt_of_le hq hS.1)]; exact hS.2.1 q hq hnA⟩
  have hS1 : va_S (gA Γ) κ.2.2.2.2.1.heap t.heap locs := ⟨Nat.le_trans hS.1 hz, fun q hq hnA => by rw [hk q (Nat.lt_of_lt_of_le hq hS.1)]; exact hS.2.1 q hq hnA, hS.2.2⟩
  exact gBW.mk hX (hP.kept (fun k q hq => hk q.1 (vx_lt hP hq))) hD hS1 rfl hA
/-! calls -/
/-- a call's words: a virtual method of the class C, a static one -/
def gWV (own : String) (index : Nat) (y : MethodName) (bc : ByteArray) (mL : Nat) (yrt : Option FieldType) (nA : Nat) : Prop := GoodIn TW (wsV own index y.cls y (gws y bc mL yrt)) ∧ y.cls ≠ "java/lang/invoke/MethodHandle" ∧ y.cls ≠ "java/lang/invoke/VarHandle" ∧ (parseMethodDescriptor y.desc).map (fun d => d.parameters.length) = some nA
def gWS (own : String) (index : Nat) (y : MethodName) (bc : ByteArray) (mL : Nat) (yrt : Option FieldType) (nA : Nat) : Prop := GoodIn TW (va_wsS own index y (gws y bc mL yrt)) ∧ y.cls ≠ "java/lang/invoke/MethodHandle" ∧ y.cls ≠ "java/lang/invoke/VarHandle" ∧ (parseMethodDescriptor y.desc).map (fun d => d.parameters.length) = some nA
theorem gGood {ws : List Cond} {y : MethodName} {bc : ByteArray} {mL : Nat} {yrt : Option FieldType} (hT : ∀ w ∈ TW, goodWord w = true) (h : ∀ w ∈ ws, w ∈ TW) (hc : Cond.code y bc mL yrt ∈ TW) : GoodIn TW (ws ++ gws y bc mL yrt) := by
  intro w hw
  have h1 : w ∈ TW := by
    rcases List.mem_append.1 hw with q | q
    · exact h w q
    · rcases List.mem_cons.1 q with q | q
      · rw [q]; exact hc
      · exact q
  exact ⟨h1, good_of_word (hT w h1)⟩
theorem gRecv (hX : Gx κ Γ nL cc own rm rt) {H : Heap} {q ci : Nat} {fl : List Nat} {C : String} (hP : va_P Γ.1 gCl (gwd Γ σ) H) (hs : gSh[q]? = some (0, ci, fl)) (hc : (gCl[ci]?).map (fun z => z.1) = some C) : ∃ cell : Cell, H[Γ.2.1 q]? = some cell ∧ cell.vm.isStatics = false ∧ κ.2.2.2.2.1.vm.findClass C = some cell.cls := by
  rcases h : gCl[ci]? with _ | z
  · rw [h] at hc; cases hc
  · rw [h] at hc
    have e : z.1 = C := by simpa using hc
    rw [← e]
    exact va_recv hX.2.2.2.2.1 hP h (gwd_obj Γ σ hs)
theorem g_cVi (hX : Gx κ Γ nL cc own rm rt) {y : MethodName} {bc : ByteArray} {mL : Nat} {yrt : Option FieldType} {yrm : Room} {index nA : Nat} {st : List Value} {q ci : Nat} {fl : List Nat} (As : List Value) (hst : As.reverse ++ .ref (Γ.2.1 q) :: rest = st) {of : Option (Int32 × Mem)} {ok : Int32 → Mem → Option ρ} (c1 s1 : Nat) (hM : gM gqi κ.2.1 y bc mL yrt yrm (.ref (Γ.2.1 q) :: As) Γ σ of) (hW : gWV own index y bc mL yrt nA) (hA : As.length = nA) (hs : gSh[q]? = some (0, ci, fl)) (hcl : (gCl[ci]?).map (fun z => z.1) = some y.cls) (hd : decode cc pc = .ok (.invokevirtual index, 3)) (hn : pc + 3 = n) (hR : yrm.frames + 1 ≤ rm.frames ∧ 8 + (mL + 11) + yrm.locals ≤ rm.locals) (hC : cells + yrm.cells ≤ rm.cells ∧ slots + yrm.slots ≤ rm.slots) (hw : (rest.map fun v => v.category).sum ≤ 8) (hc1 : cells + yrm.cells = c1) (hs1 : slots + yrm.slots = s1) (k : ∀ r u, GG κ Γ nL QF c1 s1 u lo n (.int r :: rest) (ok r u)) : GG κ Γ nL QF cells slots σ lo pc st (gb of ok) := by
  subst hn; subst hst; subst hc1; subst hs1
  have hRm := hX.2.2.2.2.2.2.2.2.1
  intro h0 H locs ls hP hD hS hl
  have ho : of ≠ none := by rintro rfl; exact h0 rfl
  refine va_calli (va_runV (As := As) (rest := rest) ⟨hX.1, hX.2.1, hX.2.2.2.2.2.2.1, hX.2.2.2.1, hX.2.2.1⟩ (hM ho) (cwV nA hX.2.2.1 hW.1 rfl rfl rfl ⟨rfl, hW.2.1, hW.2.2.1, hW.2.2.2⟩ (by rw [hRm]; exact hR)) ⟨gBW.blind, gRecv hX hP hs hcl, fun U hU hW => ⟨rfl, gBW.mk hX hP hD hS hU hW.alike⟩⟩ rfl hA hl.1.1 rfl (lv_room hw) hd (by rw [hRm]; exact hC)) hS (fun q _ h => h) (fun q h => h) (fun r u t H1 locs1 ht hvm hp hB hz hk hS1 => ?_)
  have e1 : gb of ok = (ok r u) := by rw [hp]; rfl
  rw [e1] at h0 ⊢
  exact k r u h0 H1 locs1 ls (ht ▸ hB.1) hB.2.1 hS1 hl
theorem g_cVv (hX : Gx κ Γ nL cc own rm rt) {y : MethodName} {bc : ByteArray} {mL : Nat} {yrt : Option FieldType} {yrm : Room} {index nA : Nat} {st : List Value} {q ci : Nat} {fl : List Nat} (As : List Value) (hst : As.reverse ++ .ref (Γ.2.1 q) :: rest = st) {of : Option Mem} {ok : Mem → Option ρ} (c1 s1 : Nat) (hM : gM gqv κ.2.1 y bc mL yrt yrm (.ref (Γ.2.1 q) :: As) Γ σ of) (hW : gWV own index y bc mL yrt nA) (hA : As.length = nA) (hs : gSh[q]? = some (0, ci, fl)) (hcl : (gCl[ci]?).map (fun z => z.1) = some y.cls) (hd : decode cc pc = .ok (.invokevirtual index, 3)) (hn : pc + 3 = n) (hR : yrm.frames + 1 ≤ rm.frames ∧ 8 + (mL + 11) + yrm.locals ≤ rm.locals) (hC : cells + yrm.cells ≤ rm.cells ∧ slots + yrm.slots ≤ rm.slots) (hw : (rest.map fun v => v.category).sum ≤ 8) (hc1 : cells + yrm.cells = c1) (hs1 : slots + yrm.slots = s1) (k : ∀ u, GG κ Γ nL QF c1 s1 u lo n rest (ok u)) : GG κ Γ nL QF cells slots σ lo pc st (gbv of ok) := by
  subst hn; subst hst; subst hc1; subst hs1
  have hRm := hX.2.2.2.2.2.2.2.2.1
  intro h0 H locs ls hP hD hS hl
  have ho : of ≠ none := by rintro rfl; exact h0 rfl
  refine va_callv (va_runV (As := As) (rest := rest) ⟨hX.1, hX.2.1, hX.2.2.2.2.2.2.1, hX.2.2.2.1, hX.2.2.1⟩ (hM ho) (cwV nA hX.2.2.1 hW.1 rfl rfl rfl ⟨rfl, hW.2.1, hW.2.2.1, hW.2.2.2⟩ (by rw [hRm]; exact hR)) ⟨gBW.blind, gRecv hX hP hs hcl, fun U hU hW => ⟨rfl, gBW.mk hX hP hD hS hU hW.alike⟩⟩ rfl hA hl.1.1 rfl (lv_room hw) hd (by rw [hRm]; exact hC)) hS (fun q _ h => h) (fun q h => h) (fun u t H1 locs1 ht hvm hp hB hz hk hS1 => ?_)
  have e1 : gbv of ok = (ok u) := by rw [hp]; rfl
  rw [e1] at h0 ⊢
  exact k u h0 H1 locs1 ls (ht ▸ hB.1) hB.2.1 hS1 hl
theorem g_cSi (hX : Gx κ Γ nL cc own rm rt) {y : MethodName} {bc : ByteArray} {mL : Nat} {yrt : Option FieldType} {yrm : Room} {index nA : Nat} {st : List Value}  (As : List Value) (hst : As.reverse ++ rest = st) {of : Option (Int32 × Mem)} {ok : Int32 → Mem → Option ρ} (c1 s1 : Nat) (hM : gM gqi κ.2.1 y bc mL yrt yrm As Γ σ of) (hW : gWS own index y bc mL yrt nA) (hA : As.length = nA)  (hd : decode cc pc = .ok (.invokestatic index, 3)) (hn : pc + 3 = n) (hR : yrm.frames + 1 ≤ rm.frames ∧ 8 + (mL + 11) + yrm.locals ≤ rm.locals) (hC : cells + yrm.cells ≤ rm.cells ∧ slots + yrm.slots ≤ rm.slots) (hw : (rest.map fun v => v.category).sum ≤ 8) (hc1 : cells + yrm.cells = c1) (hs1 : slots + yrm.slots = s1) (k : ∀ r u, GG κ Γ nL QF c1 s1 u lo n (.int r :: rest) (ok r u)) : GG κ Γ nL QF cells slots σ lo pc st (gb of ok) := by
  subst hn; subst hst; subst hc1; subst hs1
  have hRm := hX.2.2.2.2.2.2.2.2.1
  intro h0 H locs ls hP hD hS hl
  have ho : of ≠ none := by rintro rfl; exact h0 rfl
  refine va_calli (va_runS (As := As) (rest := rest) ⟨hX.1, hX.2.1, hX.2.2.2.2.2.2.1, hX.2.2.2.1, hX.2.2.1⟩ (hM ho) (va_cwS nA hX.2.2.1 hW.1 rfl rfl rfl hW.2 (by rw [hRm]; exact hR)) ⟨gBW.blind, fun U hU hW => ⟨rfl, gBW.mk hX hP hD hS hU hW.alike⟩⟩ rfl hA hl.1.1 rfl (lv_room hw) hd (by rw [hRm]; exact hC)) hS (fun q _ h => h) (fun q h => h) (fun r u t H1 locs1 ht hvm hp hB hz hk hS1 => ?_)
  have e1 : gb of ok = (ok r u) := by rw [hp]; rfl
  rw [e1] at h0 ⊢
  exact k r u h0 H1 locs1 ls (ht ▸ hB.1) hB.2.1 hS1 hl
theorem g_cSv (hX : Gx κ Γ nL cc own rm rt) {y : MethodName} {bc : ByteArray} {mL : Nat} {yrt : Option FieldType} {yrm : Room} {index nA : Nat} {st : List Value}  (As : List Value) (hst : As.reverse ++ rest = st) {of : Option Mem} {ok : Mem → Option ρ} (c1 s1 : Nat) (hM : gM gqv κ.2.1 y bc mL yrt yrm As Γ σ of) (hW : gWS own index y bc mL yrt nA) (hA : As.length = nA)  (hd : decode cc pc = .ok (.invokestatic index, 3)) (hn : pc + 3 = n) (hR : yrm.frames + 1 ≤ rm.frames ∧ 8 + (mL + 11) + yrm.locals ≤ rm.locals) (hC : cells + yrm.cells ≤ rm.cells ∧ slots + yrm.slots ≤ rm.slots) (hw : (rest.map fun v => v.category).sum ≤ 8) (hc1 : cells + yrm.cells = c1) (hs1 : slots + yrm.slots = s1) (k : ∀ u, GG κ Γ nL QF c1 s1 u lo n rest (ok u)) : GG κ Γ nL QF cells slots σ lo pc st (gbv of ok) := by
  subst hn; subst hst; subst hc1; subst hs1
  have hRm := hX.2.2.2.2.2.2.2.2.1
  intro h0 H locs ls hP hD hS hl
  have ho : of ≠ none := by rintro rfl; exact h0 rfl
  refine va_callv (va_runS (As := As) (rest := rest) ⟨hX.1, hX.2.1, hX.2.2.2.2.2.2.1, hX.2.2.2.1, hX.2.2.1⟩ (hM ho) (va_cwS nA hX.2.2.1 hW.1 rfl rfl rfl hW.2 (by rw [hRm]; exact hR)) ⟨gBW.blind, fun U hU hW => ⟨rfl, gBW.mk hX hP hD hS hU hW.alike⟩⟩ rfl hA hl.1.1 rfl (lv_room hw) hd (by rw [hRm]; exact hC)) hS (fun q _ h => h) (fun q h => h) (fun u t H1 locs1 ht hvm hp hB hz hk hS1 => ?_)
  have e1 : gbv of ok = (ok u) := by rw [hp]; rfl
  rw [e1] at h0 ⊢
  exact k u h0 H1 locs1 ls (ht ▸ hB.1) hB.2.1 hS1 hl
/-! calls of methods that may throw, in a method that lets it through -/
theorem vx_callr {p : Program} {l : Launch} {e : Env} {R : Room} {s : State} {m : MethodId} {args : Array Value} {below : List Frame} {meth : Method} {c : Code} {H : Heap} {locs : List Loc} {cells slots : Nat} {Q : State → Prop} {mc ms : Nat} {free : Addr → Prop} {A0 A1 : Nat → Prop} {H0 : Heap} {a : Array Value} {pc : Nat} {ls : Array Slot} {st0 rest : List Value} {S SX : Type} {post : S → Prop} {px : SX → Prop} {B : S → Nat → State → Prop} {BX : String → SX → State → Prop} {AX : Nat → Prop} (hr : vx_Run p l e R s m args below meth c H locs cells slots mc ms (F0 m pc ls st0) rest (va_Qr post B A1 a) (vx_X px BX AX) free) (hS : va_S A0 H0 H locs) (hA : ∀ q, q < H.size → A1 q → A0 q) (hf : ∀ q, free q → A0 q) (hAX : ∀ q, q < H.size → AX q → A0 q)
    (kx : ∀ (E : String) (ce : Cell) (q9 : Addr) (u : SX) (t : State) (H1 : Heap) (locs1 : List Loc), t.heap = H1 → s.vm.Alike t.vm → px u → BX E u t → H.size ≤ H1.size → (∀ q : Nat, q < H.size → ¬ AX q → H1[q]? = H[q]?) → va_S A0 H0 H1 locs1 → H1[q9]? = some ce → ce.vm = .none → s.vm.findClass E = some ce.cls → vx_W p l e R s m args below meth c H1 locs1 (cells + mc) (slots + ms) Q (F0 m pc ls rest) q9)
    (kk : ∀ (u : S) (ra : Nat) (t : State) (H1 : Heap) (locs1 : List Loc), t.heap = H1 → s.vm.Alike t.vm → post u → B u ra t → H.size ≤ H1.size → (∀ q : Nat, q < H.size → ¬ A1 q → H1[q]? = H[q]?) → va_S A0 H0 H1 locs1 → W p l e R s m args below meth c H1 locs1 (cells + mc) (slots + ms) Q (F0 m (pc + 3) ls (.ref ra :: rest))) : W p l e R s m args below meth c H locs cells slots Q (F0 m pc ls st0) := by
  intro T hT X
  rcases hr T hT X with ⟨v, st₀, t, T', L, h0, X', hL, e1, e2, ⟨⟨u, ra, hv, hp, hb⟩, hF⟩, st⟩ | ⟨q, st₀, t, T', L, E, ce, h0, X', hL, e1, e2, ⟨u, hp, hb, hF⟩, hce, hcv, hcl, st⟩
  · cases hv
    obtain ⟨k1, k2, k3⟩ := vx_keep h0 e1 hS hA hf hL hF
    obtain ⟨t2, a1, b1⟩ := kk u ra t T'.heap (locs ++ L) e1.symm (by rw [← e2]; exact X'.warmed.alike) hp hb k1 k2 k3 T' rfl X'
    exact ⟨t2, st t2 a1, b1⟩
  · obtain ⟨k1, k2, k3⟩ := vx_keep h0 e1 hS hAX hf hL hF
    obtain ⟨t2, a1, b1⟩ := kx E ce q u t T'.heap (locs ++ L) e1.symm (by rw [← e2]; exact X'.warmed.alike) hp hb k1 k2 k3 (by rw [e1]; exact hce) hcv hcl T' rfl X'
    exact ⟨t2, st.trans a1, b1⟩
theorem g_xVv {α : Type} {qC : GA → Option ((α ⊕ String) × Mem) → Array Value → State → Outcome → State → Prop} (hX : Gx κ Γ nL cc own rm rt) (hE : ∀ x ∈ κ.2.2.2.2.2.2.2.2.2.exceptionTable.toList, False) {y : MethodName} {bc : ByteArray} {mL : Nat} {yrt : Option FieldType} {yrm : Room} {index nA : Nat} {st : List Value} {q ci : Nat} {fl : List Nat} (As : List Value) (hst : As.reverse ++ .ref (Γ.2.1 q) :: rest = st) {of : Option ((Unit ⊕ String) × Mem)} {ok : Unit → Mem → Option ((α ⊕ String) × Mem)} (c1 s1 : Nat) (hM : gX gxv κ.2.1 y bc mL yrt yrm (.ref (Γ.2.1 q) :: As) Γ σ of) (hW : gWV own index y bc mL yrt nA) (hA : As.length = nA) (hs : gSh[q]? = some (0, ci, fl)) (hcl : (gCl[ci]?).map (fun z => z.1) = some y.cls) (hd : decode cc pc = .ok (.invokevirtual index, 3)) (hn : pc + 3 = n) (hR : yrm.frames + 1 ≤ rm.frames ∧ 8 + (mL + 11) + yrm.locals ≤ rm.locals) (hC : cells + yrm.cells ≤ rm.cells ∧ slots + yrm.slots ≤ rm.slots) (hw : (rest.map fun v => v.category).sum ≤ 8) (hc1 : cells + yrm.cells = c1) (hs1 : slots + yrm.slots = s1) (k : ∀ _r u, GG κ Γ nL (gQX qC κ Γ rm) c1 s1 u lo n rest (ok _r u)) : GG κ Γ nL (gQX qC κ Γ rm) cells slots σ lo pc st (gbx of ok (fun E u => some (.inr E, u))) := by
  subst hn; subst hst; subst hc1; subst hs1
  have hRm := hX.2.2.2.2.2.2.2.2.1
  intro h0 H locs ls hP hD hS hl
  have ho : of ≠ none := by rintro rfl; exact h0 rfl
  refine vx_callv (vx_runV (As := As) (rest := rest) ⟨hX.1, hX.2.1, hX.2.2.2.2.2.2.1, hX.2.2.2.1, hX.2.2.1⟩ (hM ho) (cwV nA hX.2.2.1 hW.1 rfl rfl rfl ⟨rfl, hW.2.1, hW.2.2.1, hW.2.2.2⟩ (by rw [hRm]; exact hR)) ⟨gBW.blind, gRecv hX hP hs hcl, fun U hU hW => ⟨rfl, gBW.mk hX hP hD hS hU hW.alike⟩⟩ rfl hA hl.1.1 rfl (lv_room hw) hd (by rw [hRm]; exact hC)) hS (fun q _ h => h) (fun q h => h) (fun q _ h => h) (fun E ce q9 u t H1 locs1 ht hvm _ hB hz hk hS1 hce hcv hcl9 => ?_) (fun u t H1 locs1 ht hvm hp hB hz hk hS1 => ?_)
  · obtain ⟨hp, hB⟩ := hB
    have e1 : gbx of ok (fun E u => some (.inr E, u)) = some (.inr E, u) := by rw [hp]; rfl
    rw [e1]
    exact vx_out (fun x hx => (hE x hx).elim) hX.2.2.2.2.2.2.2.1 hce hcv hcl9 (fun t2 ht2 hv2 => ⟨u, trivial, ⟨rfl, gBW.mk hX (ht ▸ hB.1) hB.2.1 hS1 ht2 hv2⟩, hS1.F ht2⟩) hS1.2.2 hC.1 hC.2
  · have e1 : gbx of ok (fun E u => some (.inr E, u)) = ok () u := by rw [hp]; rfl
    rw [e1] at h0 ⊢
    exact k () u h0 H1 locs1 ls (ht ▸ hB.1) hB.2.1 hS1 hl
theorem g_xSv {α : Type} {qC : GA → Option ((α ⊕ String) × Mem) → Array Value → State → Outcome → State → Prop} (hX : Gx κ Γ nL cc own rm rt) (hE : ∀ x ∈ κ.2.2.2.2.2.2.2.2.2.exceptionTable.toList, False) {y : MethodName} {bc : ByteArray} {mL : Nat} {yrt : Option FieldType} {yrm : Room} {index nA : Nat} {st : List Value}  (As : List Value) (hst : As.reverse ++ rest = st) {of : Option ((Unit ⊕ String) × Mem)} {ok : Unit → Mem → Option ((α ⊕ String) × Mem)} (c1 s1 : Nat) (hM : gX gxv κ.2.1 y bc mL yrt yrm As Γ σ of) (hW : gWS own index y bc mL yrt nA) (hA : As.length = nA)  (hd : decode cc pc = .ok (.invokestatic index, 3)) (hn : pc + 3 = n) (hR : yrm.frames + 1 ≤ rm.frames ∧ 8 + (mL + 11) + yrm.locals ≤ rm.locals) (hC : cells + yrm.cells ≤ rm.cells ∧ slots + yrm.slots ≤ rm.slots) (hw : (rest.map fun v => v.category).sum ≤ 8) (hc1 : cells + yrm.cells = c1) (hs1 : slots + yrm.slots = s1) (k : ∀ _r u, GG κ Γ nL (gQX qC κ Γ rm) c1 s1 u lo n rest (ok _r u)) : GG κ Γ nL (gQX qC κ Γ rm) cells slots σ lo pc st (gbx of ok (fun E u => some (.inr E, u))) := by
  subst hn; subst hst; subst hc1; subst hs1
  have hRm := hX.2.2.2.2.2.2.2.2.1
  intro h0 H locs ls hP hD hS hl
  have ho : of ≠ none := by rintro rfl; exact h0 rfl
  refine vx_callv (vx_runS (As := As) (rest := rest) ⟨hX.1, hX.2.1, hX.2.2.2.2.2.2.1, hX.2.2.2.1, hX.2.2.1⟩ (hM ho) (va_cwS nA hX.2.2.1 hW.1 rfl rfl rfl hW.2 (by rw [hRm]; exact hR)) ⟨gBW.blind, fun U hU hW => ⟨rfl, gBW.mk hX hP hD hS hU hW.alike⟩⟩ rfl hA hl.1.1 rfl (lv_room hw) hd (by rw [hRm]; exact hC)) hS (fun q _ h => h) (fun q h => h) (fun q _ h => h) (fun E ce q9 u t H1 locs1 ht hvm _ hB hz hk hS1 hce hcv hcl9 => ?_) (fun u t H1 locs1 ht hvm hp hB hz hk hS1 => ?_)
  · obtain ⟨hp, hB⟩ := hB
    have e1 : gbx of ok (fun E u => some (.inr E, u)) = some (.inr E, u) := by rw [hp]; rfl
    rw [e1]
    exact vx_out (fun x hx => (hE x hx).elim) hX.2.2.2.2.2.2.2.1 hce hcv hcl9 (fun t2 ht2 hv2 => ⟨u, trivial, ⟨rfl, gBW.mk hX (ht ▸ hB.1) hB.2.1 hS1 ht2 hv2⟩, hS1.F ht2⟩) hS1.2.2 hC.1 hC.2
  · have e1 : gbx of ok (fun E u => some (.inr E, u)) = ok () u := by rw [hp]; rfl
    rw [e1] at h0 ⊢
    exact k () u h0 H1 locs1 ls (ht ▸ hB.1) hB.2.1 hS1 hl
theorem g_xVr {α : Type} {qC : GA → Option ((α ⊕ String) × Mem) → Array Value → State → Outcome → State → Prop} (hX : Gx κ Γ nL cc own rm rt) (hE : ∀ x ∈ κ.2.2.2.2.2.2.2.2.2.exceptionTable.toList, False) {y : MethodName} {bc : ByteArray} {mL : Nat} {yrt : Option FieldType} {yrm : Room} {index nA : Nat} {st : List Value} {q ci : Nat} {fl : List Nat} (As : List Value) (hst : As.reverse ++ .ref (Γ.2.1 q) :: rest = st) {of : Option ((Nat ⊕ String) × Mem)} {ok : Nat → Mem → Option ((α ⊕ String) × Mem)} (c1 s1 : Nat) (hM : gX gxr κ.2.1 y bc mL yrt yrm (.ref (Γ.2.1 q) :: As) Γ σ of) (hW : gWV own index y bc mL yrt nA) (hA : As.length = nA) (hs : gSh[q]? = some (0, ci, fl)) (hcl : (gCl[ci]?).map (fun z => z.1) = some y.cls) (hd : decode cc pc = .ok (.invokevirtual index, 3)) (hn : pc + 3 = n) (hR : yrm.frames + 1 ≤ rm.frames ∧ 8 + (mL + 11) + yrm.locals ≤ rm.locals) (hC : cells + yrm.cells ≤ rm.cells ∧ slots + yrm.slots ≤ rm.slots) (hw : (rest.map fun v => v.category).sum ≤ 8) (hc1 : cells + yrm.cells = c1) (hs1 : slots + yrm.slots = s1) (k : ∀ r u, GG κ Γ nL (gQX qC κ Γ rm) c1 s1 u lo n (.ref (Γ.2.1 r) :: rest) (ok r u)) : GG κ Γ nL (gQX qC κ Γ rm) cells slots σ lo pc st (gbx of ok (fun E u => some (.inr E, u))) := by
  subst hn; subst hst; subst hc1; subst hs1
  have hRm := hX.2.2.2.2.2.2.2.2.1
  intro h0 H locs ls hP hD hS hl
  have ho : of ≠ none := by rintro rfl; exact h0 rfl
  refine vx_callr (vx_runV (As := As) (rest := rest) ⟨hX.1, hX.2.1, hX.2.2.2.2.2.2.1, hX.2.2.2.1, hX.2.2.1⟩ (hM ho) (cwV nA hX.2.2.1 hW.1 rfl rfl rfl ⟨rfl, hW.2.1, hW.2.2.1, hW.2.2.2⟩ (by rw [hRm]; exact hR)) ⟨gBW.blind, gRecv hX hP hs hcl, fun U hU hW => ⟨rfl, gBW.mk hX hP hD hS hU hW.alike⟩⟩ rfl hA hl.1.1 rfl (lv_room hw) hd (by rw [hRm]; exact hC)) hS (fun q _ h => h) (fun q h => h) (fun q _ h => h) (fun E ce q9 u t H1 locs1 ht hvm _ hB hz hk hS1 hce hcv hcl9 => ?_) (fun ⟨r, u⟩ ra t H1 locs1 ht hvm hp hB hz hk hS1 => ?_)
  · obtain ⟨hp, hB⟩ := hB
    have e1 : gbx of ok (fun E u => some (.inr E, u)) = some (.inr E, u) := by rw [hp]; rfl
    rw [e1]
    exact vx_out (fun x hx => (hE x hx).elim) hX.2.2.2.2.2.2.2.1 hce hcv hcl9 (fun t2 ht2 hv2 => ⟨u, trivial, ⟨rfl, gBW.mk hX (ht ▸ hB.1) hB.2.1 hS1 ht2 hv2⟩, hS1.F ht2⟩) hS1.2.2 hC.1 hC.2
  · obtain ⟨hra, hB⟩ := hB
    subst hra
    have e1 : gbx of ok (fun E u => some (.inr E, u)) = ok r u := by rw [hp]; rfl
    rw [e1] at h0 ⊢
    exact k r u h0 H1 locs1 ls (ht ▸ hB.1) hB.2.1 hS1 hl
end GJ3
