section
-- ===== PART A: goes FIRST, ahead of the names: the tables' words, and 'selects' of the private methods out of them =====
/-- a private method of a class that the tables say can be made, by its rows of tables_1 -/
def lw_okq (q : MethodName × Nat) : Prop := (q.1.cls ≠ "java/lang/invoke/MethodHandle" ∧ q.1.cls ≠ "java/lang/invoke/VarHandle") ∧ Cond.instantiable q.1.cls q.2 ∈ tables_1 ∧ Cond.privateMethod q.1 ∈ tables_1 ∧ Cond.instanceMethod q.1 ∈ tables_1
theorem lw_p0 : lw_okq (⟨"PaneScreen", "colourBelow", "(II)I"⟩, 8) := ⟨⟨by decide +kernel, by decide +kernel⟩, List.mem_of_getElem? (i := 18) (by decide +kernel), List.mem_of_getElem? (i := 200) (by decide +kernel), List.mem_of_getElem? (i := 201) (by decide +kernel)⟩
theorem lw_p1 : lw_okq (⟨"PaneScreen", "ownerOf", "(II)I"⟩, 8) := ⟨⟨by decide +kernel, by decide +kernel⟩, List.mem_of_getElem? (i := 18) (by decide +kernel), List.mem_of_getElem? (i := 204) (by decide +kernel), List.mem_of_getElem? (i := 205) (by decide +kernel)⟩
theorem lw_p2 : lw_okq (⟨"java/lang/Throwable", "fillInStackTrace", "(I)Ljava/lang/Throwable;"⟩, 6) := ⟨⟨by decide +kernel, by decide +kernel⟩, List.mem_of_getElem? (i := 283) (by decide +kernel), List.mem_of_getElem? (i := 281) (by decide +kernel), List.mem_of_getElem? (i := 282) (by decide +kernel)⟩
theorem lw_p3 : lw_okq (⟨"PaneScreen", "leastClosed", "()I"⟩, 8) := ⟨⟨by decide +kernel, by decide +kernel⟩, List.mem_of_getElem? (i := 18) (by decide +kernel), List.mem_of_getElem? (i := 311) (by decide +kernel), List.mem_of_getElem? (i := 312) (by decide +kernel)⟩
theorem lw_p4 : lw_okq (⟨"PaneScreen", "damageFrame", "(LPaneScreen$Pane;)V"⟩, 8) := ⟨⟨by decide +kernel, by decide +kernel⟩, List.mem_of_getElem? (i := 18) (by decide +kernel), List.mem_of_getElem? (i := 354) (by decide +kernel), List.mem_of_getElem? (i := 355) (by decide +kernel)⟩
theorem lw_p5 : lw_okq (⟨"PaneScreen", "damagePart", "(LPaneScreen$Pane;IIII)V"⟩, 8) := ⟨⟨by decide +kernel, by decide +kernel⟩, List.mem_of_getElem? (i := 18) (by decide +kernel), List.mem_of_getElem? (i := 358) (by decide +kernel), List.mem_of_getElem? (i := 359) (by decide +kernel)⟩
theorem lw_p6 : lw_okq (⟨"PaneScreen$Damage", "put", "(IIIII)V"⟩, 5) := ⟨⟨by decide +kernel, by decide +kernel⟩, List.mem_of_getElem? (i := 101) (by decide +kernel), List.mem_of_getElem? (i := 372) (by decide +kernel), List.mem_of_getElem? (i := 373) (by decide +kernel)⟩
theorem lw_p7 : lw_okq (⟨"PaneScreen$Damage", "joinAllWith", "(IIII)V"⟩, 5) := ⟨⟨by decide +kernel, by decide +kernel⟩, List.mem_of_getElem? (i := 101) (by decide +kernel), List.mem_of_getElem? (i := 376) (by decide +kernel), List.mem_of_getElem? (i := 377) (by decide +kernel)⟩
theorem lw_p8 : lw_okq (⟨"PaneScreen", "openPane", "(I)LPaneScreen$Pane;"⟩, 8) := ⟨⟨by decide +kernel, by decide +kernel⟩, List.mem_of_getElem? (i := 18) (by decide +kernel), List.mem_of_getElem? (i := 388) (by decide +kernel), List.mem_of_getElem? (i := 389) (by decide +kernel)⟩
theorem lw_p9 : lw_okq (⟨"PaneScreen$EventLine", "copy", "(II)V"⟩, 10) := ⟨⟨by decide +kernel, by decide +kernel⟩, List.mem_of_getElem? (i := 124) (by decide +kernel), List.mem_of_getElem? (i := 423) (by decide +kernel), List.mem_of_getElem? (i := 424) (by decide +kernel)⟩
theorem lw_p10 : lw_okq (⟨"PaneScreen", "reorder", "(ILPaneScreen$Pane;Z)Z"⟩, 8) := ⟨⟨by decide +kernel, by decide +kernel⟩, List.mem_of_getElem? (i := 18) (by decide +kernel), List.mem_of_getElem? (i := 445) (by decide +kernel), List.mem_of_getElem? (i := 446) (by decide +kernel)⟩
theorem lw_p11 : lw_okq (⟨"PaneScreen", "drawFromPen", "(LPaneScreen$Pane;III)I"⟩, 8) := ⟨⟨by decide +kernel, by decide +kernel⟩, List.mem_of_getElem? (i := 18) (by decide +kernel), List.mem_of_getElem? (i := 495) (by decide +kernel), List.mem_of_getElem? (i := 496) (by decide +kernel)⟩
theorem lw_p12 : lw_okq (⟨"PaneScreen", "giveFocus", "(I)V"⟩, 8) := ⟨⟨by decide +kernel, by decide +kernel⟩, List.mem_of_getElem? (i := 18) (by decide +kernel), List.mem_of_getElem? (i := 576) (by decide +kernel), List.mem_of_getElem? (i := 577) (by decide +kernel)⟩
theorem lw_p13 : lw_okq (⟨"PaneScreenModel", "stretch", "(I)I"⟩, 37) := ⟨⟨by decide +kernel, by decide +kernel⟩, List.mem_of_getElem? (i := 614) (by decide +kernel), List.mem_of_getElem? (i := 743) (by decide +kernel), List.mem_of_getElem? (i := 744) (by decide +kernel)⟩
theorem lw_p14 : lw_okq (⟨"PaneScreenModel", "isFree", "(I)Z"⟩, 37) := ⟨⟨by decide +kernel, by decide +kernel⟩, List.mem_of_getElem? (i := 614) (by decide +kernel), List.mem_of_getElem? (i := 747) (by decide +kernel), List.mem_of_getElem? (i := 748) (by decide +kernel)⟩
theorem lw_p15 : lw_okq (⟨"PaneScreenModel", "firstClosed", "()I"⟩, 37) := ⟨⟨by decide +kernel, by decide +kernel⟩, List.mem_of_getElem? (i := 614) (by decide +kernel), List.mem_of_getElem? (i := 751) (by decide +kernel), List.mem_of_getElem? (i := 752) (by decide +kernel)⟩
def lw_privs_1 : List (MethodName × Nat) := [(⟨"PaneScreen", "colourBelow", "(II)I"⟩, 8), (⟨"PaneScreen", "ownerOf", "(II)I"⟩, 8), (⟨"java/lang/Throwable", "fillInStackTrace", "(I)Ljava/lang/Throwable;"⟩, 6), (⟨"PaneScreen", "leastClosed", "()I"⟩, 8), (⟨"PaneScreen", "damageFrame", "(LPaneScreen$Pane;)V"⟩, 8), (⟨"PaneScreen", "damagePart", "(LPaneScreen$Pane;IIII)V"⟩, 8), (⟨"PaneScreen$Damage", "put", "(IIIII)V"⟩, 5), (⟨"PaneScreen$Damage", "joinAllWith", "(IIII)V"⟩, 5), (⟨"PaneScreen", "openPane", "(I)LPaneScreen$Pane;"⟩, 8), (⟨"PaneScreen$EventLine", "copy", "(II)V"⟩, 10), (⟨"PaneScreen", "reorder", "(ILPaneScreen$Pane;Z)Z"⟩, 8), (⟨"PaneScreen", "drawFromPen", "(LPaneScreen$Pane;III)I"⟩, 8), (⟨"PaneScreen", "giveFocus", "(I)V"⟩, 8), (⟨"PaneScreenModel", "stretch", "(I)I"⟩, 37), (⟨"PaneScreenModel", "isFree", "(I)Z"⟩, 37), (⟨"PaneScreenModel", "firstClosed", "()I"⟩, 37)]
theorem lw_r1 : ∀ q ∈ lw_privs_1, lw_okq q := List.forall_mem_cons.mpr ⟨lw_p0, List.forall_mem_cons.mpr ⟨lw_p1, List.forall_mem_cons.mpr ⟨lw_p2, List.forall_mem_cons.mpr ⟨lw_p3, List.forall_mem_cons.mpr ⟨lw_p4, List.forall_mem_cons.mpr ⟨lw_p5, List.forall_mem_cons.mpr ⟨lw_p6, List.forall_mem_cons.mpr ⟨lw_p7, List.forall_mem_cons.mpr ⟨lw_p8, List.forall_mem_cons.mpr ⟨lw_p9, List.forall_mem_cons.mpr ⟨lw_p10, List.forall_mem_cons.mpr ⟨lw_p11, List.forall_mem_cons.mpr ⟨lw_p12, List.forall_mem_cons.mpr ⟨lw_p13, List.forall_mem_cons.mpr ⟨lw_p14, List.forall_mem_cons.mpr ⟨lw_p15, fun _ h => absurd h List.not_mem_nil⟩⟩⟩⟩⟩⟩⟩⟩⟩⟩⟩⟩⟩⟩⟩⟩
theorem lw_p16 : lw_okq (⟨"PaneScreenModel", "damageFrame", "(I)V"⟩, 37) := ⟨⟨by decide +kernel, by decide +kernel⟩, List.mem_of_getElem? (i := 614) (by decide +kernel), List.mem_of_getElem? (i := 755) (by decide +kernel), List.mem_of_getElem? (i := 756) (by decide +kernel)⟩
theorem lw_p17 : lw_okq (⟨"PaneScreenModel", "damage", "(IIII)V"⟩, 37) := ⟨⟨by decide +kernel, by decide +kernel⟩, List.mem_of_getElem? (i := 614) (by decide +kernel), List.mem_of_getElem? (i := 759) (by decide +kernel), List.mem_of_getElem? (i := 760) (by decide +kernel)⟩
theorem lw_p18 : lw_okq (⟨"PaneScreenModel", "isOpen", "(I)Z"⟩, 37) := ⟨⟨by decide +kernel, by decide +kernel⟩, List.mem_of_getElem? (i := 614) (by decide +kernel), List.mem_of_getElem? (i := 767) (by decide +kernel), List.mem_of_getElem? (i := 768) (by decide +kernel)⟩
theorem lw_p19 : lw_okq (⟨"PaneScreenModel", "moveEvent", "(II)V"⟩, 37) := ⟨⟨by decide +kernel, by decide +kernel⟩, List.mem_of_getElem? (i := 614) (by decide +kernel), List.mem_of_getElem? (i := 771) (by decide +kernel), List.mem_of_getElem? (i := 772) (by decide +kernel)⟩
theorem lw_p20 : lw_okq (⟨"PaneScreenModel", "foremost", "()I"⟩, 37) := ⟨⟨by decide +kernel, by decide +kernel⟩, List.mem_of_getElem? (i := 614) (by decide +kernel), List.mem_of_getElem? (i := 775) (by decide +kernel), List.mem_of_getElem? (i := 776) (by decide +kernel)⟩
theorem lw_p21 : lw_okq (⟨"PaneScreenModel", "lift", "(IZ)Z"⟩, 37) := ⟨⟨by decide +kernel, by decide +kernel⟩, List.mem_of_getElem? (i := 614) (by decide +kernel), List.mem_of_getElem? (i := 787) (by decide +kernel), List.mem_of_getElem? (i := 788) (by decide +kernel)⟩
theorem lw_p22 : lw_okq (⟨"PaneScreenModel", "paint", "(IIII)Z"⟩, 37) := ⟨⟨by decide +kernel, by decide +kernel⟩, List.mem_of_getElem? (i := 614) (by decide +kernel), List.mem_of_getElem? (i := 798) (by decide +kernel), List.mem_of_getElem? (i := 799) (by decide +kernel)⟩
theorem lw_p23 : lw_okq (⟨"PaneScreenModel", "inPicture", "(III)Z"⟩, 37) := ⟨⟨by decide +kernel, by decide +kernel⟩, List.mem_of_getElem? (i := 614) (by decide +kernel), List.mem_of_getElem? (i := 802) (by decide +kernel), List.mem_of_getElem? (i := 803) (by decide +kernel)⟩
theorem lw_p24 : lw_okq (⟨"PaneScreenModel", "damageChanged", "(I)V"⟩, 37) := ⟨⟨by decide +kernel, by decide +kernel⟩, List.mem_of_getElem? (i := 614) (by decide +kernel), List.mem_of_getElem? (i := 806) (by decide +kernel), List.mem_of_getElem? (i := 807) (by decide +kernel)⟩
theorem lw_p25 : lw_okq (⟨"PaneScreenModel", "isDamaged", "(II)Z"⟩, 37) := ⟨⟨by decide +kernel, by decide +kernel⟩, List.mem_of_getElem? (i := 614) (by decide +kernel), List.mem_of_getElem? (i := 833) (by decide +kernel), List.mem_of_getElem? (i := 834) (by decide +kernel)⟩
theorem lw_p26 : lw_okq (⟨"PaneScreenModel", "owner", "(II)I"⟩, 37) := ⟨⟨by decide +kernel, by decide +kernel⟩, List.mem_of_getElem? (i := 614) (by decide +kernel), List.mem_of_getElem? (i := 837) (by decide +kernel), List.mem_of_getElem? (i := 838) (by decide +kernel)⟩
theorem lw_p27 : lw_okq (⟨"PaneScreenModel", "tell", "(IIII)V"⟩, 37) := ⟨⟨by decide +kernel, by decide +kernel⟩, List.mem_of_getElem? (i := 614) (by decide +kernel), List.mem_of_getElem? (i := 864) (by decide +kernel), List.mem_of_getElem? (i := 865) (by decide +kernel)⟩
theorem lw_p28 : lw_okq (⟨"PaneScreenModel", "openOnes", "()I"⟩, 37) := ⟨⟨by decide +kernel, by decide +kernel⟩, List.mem_of_getElem? (i := 614) (by decide +kernel), List.mem_of_getElem? (i := 884) (by decide +kernel), List.mem_of_getElem? (i := 885) (by decide +kernel)⟩
theorem lw_p29 : lw_okq (⟨"PaneScreenModel", "freeCells", "(Z)I"⟩, 37) := ⟨⟨by decide +kernel, by decide +kernel⟩, List.mem_of_getElem? (i := 614) (by decide +kernel), List.mem_of_getElem? (i := 888) (by decide +kernel), List.mem_of_getElem? (i := 889) (by decide +kernel)⟩
def lw_privs_2 : List (MethodName × Nat) := [(⟨"PaneScreenModel", "damageFrame", "(I)V"⟩, 37), (⟨"PaneScreenModel", "damage", "(IIII)V"⟩, 37), (⟨"PaneScreenModel", "isOpen", "(I)Z"⟩, 37), (⟨"PaneScreenModel", "moveEvent", "(II)V"⟩, 37), (⟨"PaneScreenModel", "foremost", "()I"⟩, 37), (⟨"PaneScreenModel", "lift", "(IZ)Z"⟩, 37), (⟨"PaneScreenModel", "paint", "(IIII)Z"⟩, 37), (⟨"PaneScreenModel", "inPicture", "(III)Z"⟩, 37), (⟨"PaneScreenModel", "damageChanged", "(I)V"⟩, 37), (⟨"PaneScreenModel", "isDamaged", "(II)Z"⟩, 37), (⟨"PaneScreenModel", "owner", "(II)I"⟩, 37), (⟨"PaneScreenModel", "tell", "(IIII)V"⟩, 37), (⟨"PaneScreenModel", "openOnes", "()I"⟩, 37), (⟨"PaneScreenModel", "freeCells", "(Z)I"⟩, 37)]
theorem lw_r2 : ∀ q ∈ lw_privs_2, lw_okq q := List.forall_mem_cons.mpr ⟨lw_p16, List.forall_mem_cons.mpr ⟨lw_p17, List.forall_mem_cons.mpr ⟨lw_p18, List.forall_mem_cons.mpr ⟨lw_p19, List.forall_mem_cons.mpr ⟨lw_p20, List.forall_mem_cons.mpr ⟨lw_p21, List.forall_mem_cons.mpr ⟨lw_p22, List.forall_mem_cons.mpr ⟨lw_p23, List.forall_mem_cons.mpr ⟨lw_p24, List.forall_mem_cons.mpr ⟨lw_p25, List.forall_mem_cons.mpr ⟨lw_p26, List.forall_mem_cons.mpr ⟨lw_p27, List.forall_mem_cons.mpr ⟨lw_p28, List.forall_mem_cons.mpr ⟨lw_p29, fun _ h => absurd h List.not_mem_nil⟩⟩⟩⟩⟩⟩⟩⟩⟩⟩⟩⟩⟩⟩
def lw_privs : List (MethodName × Nat) := lw_privs_1 ++ (lw_privs_2)
def lw_tbl : List Cond := k2_sels lw_privs ++ tables_1
theorem lw_privs_ok : ∀ q ∈ lw_privs, lw_okq q := by
  show ∀ q ∈ lw_privs_1 ++ (lw_privs_2), lw_okq q
  exact List.forall_mem_append.mpr ⟨lw_r1, lw_r2⟩
end
section
/-! ===== BEGIN words of one list among another's, by their places ===== -/
theorem goodIn_r {big : List Cond} (ws : List Cond) (ps : List Nat) (hp : ws = ps.filterMap (fun i => big[i]?)) (h : ws.all goodWord = true) : GoodIn big ws := by
  intro w hw
  have h1 := List.all_eq_true.mp h w hw
  rw [hp] at hw
  obtain ⟨i, -, hi⟩ := List.mem_filterMap.mp hw
  have hm : w ∈ big := by first | exact List.mem_of_getElem? hi | exact List.getElem?_mem hi
  exact ⟨hm, good_of_word h1⟩
theorem goodIn_app {big a b : List Cond} (ha : GoodIn big a) (hb : GoodIn big b) : GoodIn big (a ++ b) := fun w h => (List.mem_append.mp h).elim (ha w) (hb w)
theorem goodIn_ca {big a b : List Cond} {c : Cond} (ha : GoodIn big (c :: a)) (hb : GoodIn big b) : GoodIn big (c :: (a ++ b)) := fun w h => (List.mem_cons.mp h).elim (fun e => ha w (List.mem_cons.mpr (Or.inl e))) (fun h => (List.mem_append.mp h).elim (fun h => ha w (List.mem_cons.mpr (Or.inr h))) (hb w))
theorem goodIn_sub {big ws : List Cond} (hm : ∀ w ∈ ws, w ∈ big) (h : ws.all goodWord = true) : GoodIn big ws := fun w hw => ⟨hm w hw, good_of_word (List.all_eq_true.mp h w hw)⟩
/-! ===== END ===== -/

/-! ===== BEGIN exceptions that leave a method, and their catching by the caller (launches without stack traces) ===== -/
section VXA
/-! The laws vx_back, vx_callV, vx_callS, vx_callSW, vx_throw0, vx_throwS follow proofs of the library, with one case more: JvmDerived/Free/Laws.lean (Back.of_free), Shelf42/LK1.lean (callV, callS), Shelf/KitTraced.lean (throwNew0V, throwNewS). -/
/-- where a method has thrown q: the class by its name, the cell, what was written, the world -/
def vx_T (XC : String → State → State → Prop) (st : State) (q : Addr) (t : State) (mc ms : Nat) (free : Addr → Prop) : Prop :=
  ∃ (E : String) (ce : Cell) (L : List Loc), XC E st t ∧ t.heap[q]? = some ce ∧ ce.vm = .none ∧ st.vm.findClass E = some ce.cls ∧ st.WarmedH t.vm ∧ st.sameButNew ({ t with vm := st.vm } : State) L mc ms ∧ ∀ z ∈ L, free z.base
def vx_Q (Qc : Array Value → State → Outcome → State → Prop) (XC : String → State → State → Prop) (mc ms : Nat) (free : Addr → Prop) : Array Value → State → Outcome → State → Prop := fun a st o t =>
  (Qc a st o t ∧ ∃ L, FrameEnd st o t L mc ms ∧ ∀ q ∈ L, free q.base) ∨ ∃ q, o = .threw q ∧ vx_T XC st q t mc ms free
/-- a callee that returns or throws -/
def vx_Met (l : Launch) (y : MethodName) (ws : List Cond) (rm : Room) (Pc : Array Value → State → Prop) (Qc : Array Value → State → Outcome → State → Prop) (XC : String → State → State → Prop) (mc ms : Nat) (free : Addr → Prop) : Prop :=
  MetFree l y (headSpec ws rm) Pc (fun _ _ _ _ _ => True) (vx_Q Qc XC mc ms free)
def vx_Post (XC : String → State → State → Prop) (mc ms : Nat) (free : Addr → Prop) : Pt → Array Value → Addr → Pt → Prop := fun A a q B =>
  ∃ (g : JFrame) (mk : MethodId) (t : State) (L : List Loc) (E : String) (ce : Cell), B.U.heap = t.heap ∧ B.U.vm = t.vm ∧ XC E (A.U.calling g mk a) t ∧ t.heap[q]? = some ce ∧ ce.vm = .none ∧ A.U.vm.findClass E = some ce.cls ∧ B.locs = A.locs ++ L ∧ (∀ z ∈ L, free z.base) ∧ B.cells = A.cells + mc ∧ B.slots = A.slots + ms
def vx_Back (l : Launch) (R : Room) (p : Program) (e : Env) (below : List Frame) (s : State) (sargs : Array Value) (y : MethodName) (len W9 : Nat)
    (Pre : Pt → Array Value → Prop) (Post : Pt → Array Value → Option Value → Pt → Prop) (PostX : Pt → Array Value → Addr → Pt → Prop) : Prop :=
  ∀ (m : MethodId) (meth : Method) (c : Code) (A : Pt) (g : JFrame) (ig : Instr) (mk : MethodId) (a : Array Value),
    Stand p l e R s m sargs below meth c A.U A.locs A.cells A.slots → g.method = m → g.locals.size = c.maxLocals → decode c.code g.pc = .ok (ig, len) →
    2 * g.monitorRoom + (g.stack.map fun v => v.category).sum ≤ W9 → A.U.methodNamed? y = some mk → Pre A a →
    (∃ (v : Option Value) (B : Pt), Stand p l e R s m sargs below meth c B.U B.locs B.cells B.slots ∧ Post A a v B ∧
      Steps p.tables e below (doInvoke e (A.U.setTop g) [] mk a).1 (B.U.setTop { g with pc := g.pc + len, stack := v.toList ++ g.stack })) ∨
    (∃ (q : Addr) (B : Pt), Stand p l e R s m sargs below meth c B.U B.locs B.cells B.slots ∧ PostX A a q B ∧
      Steps p.tables e below (doInvoke e (A.U.setTop g) [] mk a).1 ((B.U.setTop g).pushFrame (.throwing q)))
section Payer
variable {l : Launch} {R : Room} {p : Program} {e : Env} {below : List Frame} {s : State} {sargs : Array Value} {y : MethodName} {len W9 : Nat}
theorem vx_back {ws : List Cond} {rm : Room} {Pc : Array Value → State → Prop} {Qc : Array Value → State → Outcome → State → Prop} {XC : String → State → State → Prop} {mc ms : Nat} {free : Addr → Prop} {bytes : ByteArray} {maxL : Nat} {ret : Option FieldType}
    (hM : vx_Met l y ws rm Pc Qc XC mc ms free) (hblind : FrameBlind Pc) (hrc : rm.cells = mc) (hrs : rm.slots = ms)
    (hframes : rm.frames + 1 ≤ R.frames) (hlocals : W9 + (maxL + 11) + rm.locals ≤ R.locals)
    (hws : ∀ w ∈ ws, ∀ a' U, s.WarmedH U.vm → w.before a' U = true) (hcode : Cond.code y bytes maxL ret ∈ ws) (hinit : ∀ a' U, s.WarmedH U.vm → (Cond.initialized y.cls).before a' U = true) :
    vx_Back l R p e below s sargs y len W9 (PreOf R mc ms Pc) (PostOf Qc mc ms free) (vx_Post XC mc ms free) := by
  intro m meth c A g ig mk a X hg hsize hdg hW hn hp
  have h1 : (headSpec ws rm).pre.before a A.U = true := atoms_intro fun w hw => hws w hw _ _ X.warmed
  have h2 : (Cond.code y bytes maxL ret).before a A.U = true := hws _ hcode _ _ X.warmed
  have h3 : (Cond.initialized y.cls).before a A.U = true := hinit _ _ X.warmed
  have h4 : A.cells + (headSpec ws rm).room.cells ≤ R.cells := by rw [show (headSpec ws rm).room.cells = mc from hrc]; exact hp.1
  have h5 : A.slots + (headSpec ws rm).room.slots ≤ R.slots := by rw [show (headSpec ws rm).room.slots = ms from hrs]; exact hp.2.1
  have hPc : Pc a (A.U.calling g mk a) := hblind _ _ _ _ hp.2.2
  obtain ⟨U, Ls, c0, s0⟩ := A
  dsimp only [Pt.U, Pt.locs, Pt.cells, Pt.slots] at h1 h2 h3 h4 h5 X hn hPc ⊢
  obtain ⟨methY, cY, hmY, hcY, -, hlY, -, -, -, -⟩ := Cond.code_spec hn h2
  obtain ⟨kY, hkY, -⟩ := className_of_methodNamed hn
  have hinitY : kY.init = .initialized := Cond.initialized_spec (findClass_of_methodNamed hn) hkY h3
  have h : At U g.method c below := by rw [hg]; exact X.here
  have hlocals9 : W9 + (maxL + 11) + (headSpec ws rm).room.locals ≤ R.locals := hlocals
  have happ : (headSpec ws rm).appliesLoose y e.platform (U.calling g mk a) = true :=
    Spec.appliesLoose_calling (g := g) h hdg hn hkY hinitY
      (X.room_calling (g := g) (R' := (headSpec ws rm).room) hsize hmY hcY hframes (by rw [hlY]; omega) h4 h5) h1
  obtain ⟨mid, hmid⟩ := h.above
  have hfr : (U.setTop g).frames = (.java g :: mid) ++ below := by rw [State.frames_setTop' g h.top, hmid]; rfl
  obtain ⟨o, s₂, hsteps, -, hend, hq⟩ := Steps.callFree hM p X.admits X.cas X.clock (acts := []) hfr happ hPc trivial
  have hq' : vx_Q Qc XC mc ms free a (U.calling g mk a) o s₂ := hq
  rw [State.frames_setTop' g h.top] at hend
  obtain ⟨g₀, hg0⟩ := Option.isSome_iff_exists.mp h.top
  obtain ⟨r, hr⟩ := State.topJava?_eq_some.mp hg0
  have hr' : (({ U with heap := s₂.heap, slotsUsed := s₂.slotsUsed } : State).setVm s₂.vm).frames = .java g₀ :: r := hr
  rcases hq' with ⟨hqc, L, hfe, hL⟩ | ⟨q, rfl, E, ce, L, hx, hce, hcv, hcl, hW₂, hsm, hL⟩
  · obtain ⟨⟨v, rfl⟩, hW₂, e2, q2, q3, q4, q5, q6⟩ := id hfe
    have e3 : s₂ = ({ (U.calling g mk a).setFrames s₂.frames with heap := s₂.heap, slotsUsed := s₂.slotsUsed } : State).setVm s₂.vm := by
      have : s₂ = ({ s₂ with vm := (U.calling g mk a).vm } : State).setVm s₂.vm := rfl
      rw [e2] at this
      exact this
    obtain ⟨c₂, i₂, len₂, hc₂, hd₂, hf₂⟩ := hend
    have hW' : U.WarmedH s₂.vm := hW₂
    have hcc : c₂ = c := by
      have h1 : s₂.code? g.method = U.code? g.method := by
        rw [State.code?_eq, State.code?_eq, hW'.alike.method?]
      exact Option.some.inj (hc₂.symm.trans (h1.trans h.code))
    subst hcc
    have hlen : len₂ = len := by rw [hdg] at hd₂; cases hd₂; rfl
    subst hlen
    have hs₂ : s₂ = (({ U with heap := s₂.heap, slotsUsed := s₂.slotsUsed } : State).setVm s₂.vm).setTop { g with pc := g.pc + len₂, stack := v.toList ++ g.stack } := by
      refine e3.trans ?_
      rw [hf₂, State.calling_eq h.top, State.setFrames_setFrames, State.setTop_of_frames _ hr', hr]
      rfl
    have hsame : U.sameButNew ({ U with heap := s₂.heap, slotsUsed := s₂.slotsUsed } : State) L mc ms := by
      refine ⟨?_, q2, q3, q4, q5, q6⟩
      obtain ⟨t, ht, -⟩ := State.frames_cons hr
      show ({ U with heap := s₂.heap, slotsUsed := s₂.slotsUsed } : State) = { U.setFrames U.frames with heap := s₂.heap, slotsUsed := s₂.slotsUsed }
      rw [State.setFrames_self ht]
    subst hg
    refine Or.inl ⟨v, ⟨(({ U with heap := s₂.heap, slotsUsed := s₂.slotsUsed } : State).setVm s₂.vm), Ls ++ L, c0 + mc, s0 + ms⟩,
      ⟨X.admits, X.cas, X.clock, X.frames, X.room, X.hears, X.method, X.code, (X.here.setHeapUsed s₂.heap s₂.slotsUsed).setVm hW'.alike, X.tail, State.WarmedH.trans X.warmed hW', X.limits, X.bytes, X.same.trans (hsame.setVm s.vm)⟩,
      ⟨g, mk, s₂, L, rfl, rfl, hqc, rfl, hL, rfl, rfl⟩, ?_⟩
    show Steps p.tables e below _ ((({ U with heap := s₂.heap, slotsUsed := s₂.slotsUsed } : State).setVm s₂.vm).setTop { g with pc := g.pc + len₂, stack := v.toList ++ g.stack })
    rw [← hs₂]
    exact hsteps
  · obtain ⟨e2, q2, q3, q4, q5, q6⟩ := id hsm
    have e3 : s₂ = ({ (U.calling g mk a).setFrames s₂.frames with heap := s₂.heap, slotsUsed := s₂.slotsUsed } : State).setVm s₂.vm := by
      have : s₂ = ({ s₂ with vm := (U.calling g mk a).vm } : State).setVm s₂.vm := rfl
      rw [e2] at this
      exact this
    have hf₂ : s₂.frames = .throwing q :: .java g :: U.frames.tail := hend
    have hW' : U.WarmedH s₂.vm := hW₂
    have hs₂ : s₂ = ((({ U with heap := s₂.heap, slotsUsed := s₂.slotsUsed } : State).setVm s₂.vm).setTop g).pushFrame (.throwing q) := by
      refine e3.trans ?_
      rw [hf₂, State.calling_eq h.top, State.setFrames_setFrames, State.pushFrame, State.frames_setTop _ hr', State.setTop_of_frames _ hr', State.setFrames_setFrames, hr]
      rfl
    have hsame : U.sameButNew ({ U with heap := s₂.heap, slotsUsed := s₂.slotsUsed } : State) L mc ms := by
      refine ⟨?_, q2, q3, q4, q5, q6⟩
      obtain ⟨t, ht, -⟩ := State.frames_cons hr
      show ({ U with heap := s₂.heap, slotsUsed := s₂.slotsUsed } : State) = { U.setFrames U.frames with heap := s₂.heap, slotsUsed := s₂.slotsUsed }
      rw [State.setFrames_self ht]
    subst hg
    refine Or.inr ⟨q, ⟨(({ U with heap := s₂.heap, slotsUsed := s₂.slotsUsed } : State).setVm s₂.vm), Ls ++ L, c0 + mc, s0 + ms⟩,
      ⟨X.admits, X.cas, X.clock, X.frames, X.room, X.hears, X.method, X.code, (X.here.setHeapUsed s₂.heap s₂.slotsUsed).setVm hW'.alike, X.tail, State.WarmedH.trans X.warmed hW', X.limits, X.bytes, X.same.trans (hsame.setVm s.vm)⟩,
      ⟨g, mk, s₂, L, E, ce, rfl, rfl, hx, hce, hcv, hcl, rfl, hL, rfl, rfl⟩, ?_⟩
    show Steps p.tables e below _ (((({ U with heap := s₂.heap, slotsUsed := s₂.slotsUsed } : State).setVm s₂.vm).setTop g).pushFrame (.throwing q))
    rw [← hs₂]
    exact hsteps
end Payer
section Calls
variable {p : Program} {l : Launch} {e : Env} {R : Room} {s : State} {m : MethodId} {args : Array Value} {below : List Frame} {meth : Method} {c : Code} {T : State} {locs : List Loc} {cells slots : Nat}
theorem vx_callV (X : Stand p l e R s m args below meth c T locs cells slots) (hexec : p.tables.exec = Jvm.exec) {own C : String} {index : Nat} {y : MethodName} {bytes : ByteArray} {maxL : Nat} {ret : Option FieldType}
    (hown : s.vm.findClass own = some m.cls) (hlink : (Cond.methodLink own index y).before args s = true) (hinst : (Cond.instanceMethod y).before args s = true) (hsel : (Cond.selects C y y).before args s = true)
    (hcode : (Cond.code y bytes maxL ret).before args s = true) (hy : y.cls ≠ "java/lang/invoke/MethodHandle" ∧ y.cls ≠ "java/lang/invoke/VarHandle")
    {W9 : Nat} {Pre : Pt → Array Value → Prop} {Post : Pt → Array Value → Option Value → Pt → Prop} {PostX : Pt → Array Value → Addr → Pt → Prop} (hK : vx_Back l R p e below s args y 3 W9 Pre Post PostX)
    {b : Addr} {cellB : Cell} (hcell : T.heap[b]? = some cellB) (hobj : cellB.vm.isStatics = false) (hcls : s.vm.findClass C = some cellB.cls)
    {g : JFrame} (hg : g.method = m) (hsize : g.locals.size = c.maxLocals) {argsL rest : List Value} (hlen : ∀ sig, parseMethodDescriptor y.desc = some sig → argsL.length = sig.parameters.length)
    (hstack : g.stack = argsL.reverse ++ .ref b :: rest) (hW : 2 * g.monitorRoom + (rest.map fun v => v.category).sum ≤ W9) (hdg : decode c.code g.pc = .ok (.invokevirtual index, 3))
    (hpre : ∀ vm₁, s.WarmedH vm₁ → Pre ⟨T.setVm vm₁, locs, cells, slots⟩ (Value.ref b :: argsL).toArray) :
    (∃ (v : Option Value) (vm₁ : Vm) (B : Pt), s.WarmedH vm₁ ∧ Stand p l e R s m args below meth c B.U B.locs B.cells B.slots ∧ Post ⟨T.setVm vm₁, locs, cells, slots⟩ (Value.ref b :: argsL).toArray v B ∧
      ∀ target, Steps p.tables e below (B.U.setTop { g with pc := g.pc + 3, stack := v.toList ++ rest }) target → Steps p.tables e below (T.setTop g) target) ∨
    (∃ (q : Addr) (vm₁ : Vm) (B : Pt), s.WarmedH vm₁ ∧ Stand p l e R s m args below meth c B.U B.locs B.cells B.slots ∧ PostX ⟨T.setVm vm₁, locs, cells, slots⟩ (Value.ref b :: argsL).toArray q B ∧
      Steps p.tables e below (T.setTop g) ((B.U.setTop { g with stack := rest }).pushFrame (.throwing q))) := by
  obtain ⟨mk, methM, hnamed, hmethM, hstM, habM⟩ := Cond.instanceMethod_spec hinst
  obtain ⟨methM', cM, hmethM', -, -, -, -, -, -, hsigM⟩ := Cond.code_spec hnamed hcode
  cases hmethM.symm.trans hmethM'
  obtain ⟨c2, r2, m2, q1, q2, q3, q4, kP, hkP, hkPi⟩ := Cond.selects_spec hsel
  cases hcls.symm.trans q1
  cases (State.methodFound?_of_named hnamed hy).symm.trans q2
  cases hnamed.symm.trans q3
  have hselP : selectMethod e.platform s.vm cellB.cls mk = .method mk := by rw [Launch.admits_selectMethod X.admits]; exact q4
  obtain ⟨vm₁, X₁, hstep₁⟩ := X.invokevirtual hexec hown hlink hnamed hmethM hstM hkP hkPi hy (a := b) (cell := cellB) hcell
    (fun z h => by rw [h] at hobj; cases hobj) hselP hmethM habM hkP hkPi (g := g) hg (argsL := argsL) (rest := rest) (hlen _ hsigM) hstack hdg
  rcases hK m meth c ⟨T.setVm vm₁, locs, cells, slots⟩ { g with stack := rest } (.invokevirtual index) mk (Value.ref b :: argsL).toArray X₁ hg hsize hdg hW (X₁.named hnamed) (hpre vm₁ X₁.warmed) with ⟨v, B, X', hpost, hsteps⟩ | ⟨q, B, X', hpost, hsteps⟩
  · exact Or.inl ⟨v, vm₁, B, X₁.warmed, X', hpost, fun target h => hstep₁ _ fun acts => by rw [doInvoke_state]; exact hsteps.trans h⟩
  · exact Or.inr ⟨q, vm₁, B, X₁.warmed, X', hpost, hstep₁ _ fun acts => by rw [doInvoke_state]; exact hsteps⟩
theorem vx_callS (X : Stand p l e R s m args below meth c T locs cells slots) (hexec : p.tables.exec = Jvm.exec) {own : String} {index : Nat} {y : MethodName} {bytes : ByteArray} {maxL : Nat} {ret : Option FieldType}
    (hown : s.vm.findClass own = some m.cls) (hlink : (Cond.methodLink own index y).before args s = true) (hstat : (Cond.static y).before args s = true) (hinit : (Cond.initialized y.cls).before args s = true)
    (hcode : (Cond.code y bytes maxL ret).before args s = true) (hy : y.cls ≠ "java/lang/invoke/MethodHandle" ∧ y.cls ≠ "java/lang/invoke/VarHandle")
    {W9 : Nat} {Pre : Pt → Array Value → Prop} {Post : Pt → Array Value → Option Value → Pt → Prop} {PostX : Pt → Array Value → Addr → Pt → Prop} (hK : vx_Back l R p e below s args y 3 W9 Pre Post PostX)
    {g : JFrame} (hg : g.method = m) (hsize : g.locals.size = c.maxLocals) {argsL rest : List Value} (hlen : ∀ sig, parseMethodDescriptor y.desc = some sig → argsL.length = sig.parameters.length)
    (hstack : g.stack = argsL.reverse ++ rest) (hW : 2 * g.monitorRoom + (rest.map fun v => v.category).sum ≤ W9) (hdg : decode c.code g.pc = .ok (.invokestatic index, 3))
    (hpre : ∀ vm₁, s.WarmedH vm₁ → Pre ⟨T.setVm vm₁, locs, cells, slots⟩ argsL.toArray) :
    (∃ (v : Option Value) (vm₁ : Vm) (B : Pt), s.WarmedH vm₁ ∧ Stand p l e R s m args below meth c B.U B.locs B.cells B.slots ∧ Post ⟨T.setVm vm₁, locs, cells, slots⟩ argsL.toArray v B ∧
      ∀ target, Steps p.tables e below (B.U.setTop { g with pc := g.pc + 3, stack := v.toList ++ rest }) target → Steps p.tables e below (T.setTop g) target) ∨
    (∃ (q : Addr) (vm₁ : Vm) (B : Pt), s.WarmedH vm₁ ∧ Stand p l e R s m args below meth c B.U B.locs B.cells B.slots ∧ PostX ⟨T.setVm vm₁, locs, cells, slots⟩ argsL.toArray q B ∧
      Steps p.tables e below (T.setTop g) ((B.U.setTop { g with stack := rest }).pushFrame (.throwing q))) := by
  obtain ⟨mk, hnamed⟩ := Cond.code_named hcode
  obtain ⟨methM, cM, hmethM, -, -, -, -, -, -, hsigM⟩ := Cond.code_spec hnamed hcode
  have hstatic : methM.isStatic = true := Cond.static_spec hnamed hmethM hstat
  obtain ⟨kP, hkP, -⟩ := className_of_methodNamed hnamed
  have hinitP : kP.init = .initialized := Cond.initialized_spec (findClass_of_methodNamed hnamed) hkP hinit
  obtain ⟨vm₁, X₁, hstep₁⟩ := X.invokestatic hexec hown hlink hnamed hmethM hstatic hkP hinitP hy (g := g) hg (argsL := argsL) (rest := rest) (hlen _ hsigM) hstack hdg
  rcases hK m meth c ⟨T.setVm vm₁, locs, cells, slots⟩ { g with stack := rest } (.invokestatic index) mk argsL.toArray X₁ hg hsize hdg hW (X₁.named hnamed) (hpre vm₁ X₁.warmed) with ⟨v, B, X', hpost, hsteps⟩ | ⟨q, B, X', hpost, hsteps⟩
  · exact Or.inl ⟨v, vm₁, B, X₁.warmed, X', hpost, fun target h => hstep₁ _ fun acts => by rw [doInvoke_state]; exact hsteps.trans h⟩
  · exact Or.inr ⟨q, vm₁, B, X₁.warmed, X', hpost, hstep₁ _ fun acts => by rw [doInvoke_state]; exact hsteps⟩
end Calls
theorem vx_cls {s : State} {T : State} {vm₁ : Vm} {E : String} {k : ClassId} (hW : s.WarmedH vm₁) (h : (T.setVm vm₁).vm.findClass E = some k) : s.vm.findClass E = some k := by
  have h1 : vm₁.findClass E = some k := h
  rw [hW.alike.findClass] at h1
  exact h1
/-- the method's frame g, with q thrown over it -/
def vx_W (p : Program) (l : Launch) (e : Env) (R : Room) (s : State) (m : MethodId) (args : Array Value) (below : List Frame) (meth : Method) (c : Code) (H : Heap) (locs : List Loc) (cells slots : Nat) (Q : State → Prop) (g : JFrame) (q : Addr) : Prop :=
  ∀ T : State, T.heap = H → Stand p l e R s m args below meth c T locs cells slots → ∃ t, Steps p.tables e below ((T.setTop g).pushFrame (.throwing q)) t ∧ Q t
def vx_Run (p : Program) (l : Launch) (e : Env) (R : Room) (s : State) (m : MethodId) (args : Array Value) (below : List Frame) (meth : Method) (c : Code) (H : Heap) (locs : List Loc) (cells slots mc ms : Nat) (g : JFrame) (rest : List Value) (Qa : State → Outcome → State → Prop) (XC : String → State → State → Prop) (free : Addr → Prop) : Prop :=
  ∀ T : State, T.heap = H → Stand p l e R s m args below meth c T locs cells slots →
    (∃ (v : Option Value) (st₀ t T' : State) (L : List Loc), st₀.heap = H ∧ Stand p l e R s m args below meth c T' (locs ++ L) (cells + mc) (slots + ms) ∧ (∀ q ∈ L, free q.base) ∧ T'.heap = t.heap ∧ T'.vm = t.vm ∧ Qa st₀ (.returned v) t ∧
      Goes p e below T g T' { g with pc := g.pc + 3, stack := v.toList ++ rest }) ∨
    (∃ (q : Addr) (st₀ t T' : State) (L : List Loc) (E : String) (ce : Cell), st₀.heap = H ∧ Stand p l e R s m args below meth c T' (locs ++ L) (cells + mc) (slots + ms) ∧ (∀ z ∈ L, free z.base) ∧ T'.heap = t.heap ∧ T'.vm = t.vm ∧ XC E st₀ t ∧ t.heap[q]? = some ce ∧ ce.vm = .none ∧ s.vm.findClass E = some ce.cls ∧
      Steps p.tables e below (T.setTop g) ((T'.setTop { g with stack := rest }).pushFrame (.throwing q)))
def vx_X {S : Type} (px : S → Prop) (B : String → S → State → Prop) (A : Nat → Prop) : String → State → State → Prop := fun E st t => ∃ u : S, px u ∧ B E u t ∧ va_F A st t
section Runs
variable {p : Program} {l : Launch} {e : Env} {R : Room} {s : State} {m : MethodId} {args : Array Value} {below : List Frame} {meth : Method} {c : Code} {H : Heap} {locs : List Loc} {cells slots : Nat}
variable {y : MethodName} {bytes cc : ByteArray} {maxL nL mc ms n index : Nat} {ret : Option FieldType} {ws : List Cond} {rm : Room} {Pc : Array Value → State → Prop} {Qc : Array Value → State → Outcome → State → Prop} {XC : String → State → State → Prop} {free : Addr → Prop} {Ts : List Cond} {own C : String} {b : Addr} {As rest : List Value} {g : JFrame}
theorem vx_callBack (cb : CallB R s args own index y bytes maxL ret ws rm mc ms n) (hM : vx_Met l y ws rm Pc Qc XC mc ms free) (hbl : FrameBlind Pc) : vx_Back l R p e below s args y 3 8 (PreOf R mc ms Pc) (PostOf Qc mc ms free) (vx_Post XC mc ms free) := by
  obtain ⟨hrc, hrs, hfr, hlo, hws, hcw, -, hini, -⟩ := cb
  exact vx_back (bytes := bytes) (maxL := maxL) (ret := ret) hM hbl hrc hrs hfr hlo hws hcw (fun a' U hW => word_at hW (Or.inl (by first | rfl | simp [Cond.onTables, Cond.keeps, Cond.steady])) hini)
theorem vx_runV (S : CallFix p m c cc nL s args Ts own) (hM : vx_Met l y ws rm Pc Qc XC mc ms free) (cw : CallW R s args own C index y bytes maxL ret ws rm mc ms n) (hp : PreV s H C b Pc As)
    (hg : g.method = m) (hn : As.length = n) (hsize : g.locals.size = nL) (hstack : g.stack = As.reverse ++ .ref b :: rest) (hW : 2 * g.monitorRoom + (rest.map fun v => v.category).sum ≤ 8) (hdg : decode cc g.pc = .ok (.invokevirtual index, 3)) (hf : cells + mc ≤ R.cells ∧ slots + ms ≤ R.slots) :
    vx_Run p l e R s m args below meth c H locs cells slots mc ms g rest (Qc (Value.ref b :: As).toArray) XC free := by
  have hK : vx_Back l R p e below s args y 3 8 (PreOf R mc ms Pc) (PostOf Qc mc ms free) (vx_Post XC mc ms free) := vx_callBack cw.1 hM hp.1
  obtain ⟨⟨-, -, -, -, -, -, hcode, -, hy, hlen, hl⟩, hin, hse⟩ := cw
  obtain ⟨hx, hb, hml, ho, -⟩ := S
  obtain ⟨-, ⟨cellB, hcB, hoB, hclB⟩, hPc⟩ := hp
  intro T hT X
  rcases vx_callV X hx (C := C) (bytes := bytes) (maxL := maxL) (ret := ret) ho hl hin hse hcode hy hK (by rw [hT]; exact hcB) hoB hclB hg (hsize.trans hml.symm) (argsL := As) (rest := rest) (fun sig h => hn.trans (hlen sig h)) hstack hW (by rw [hb]; exact hdg)
    (fun vm₁ hW₁ => ⟨hf.1, hf.2, hPc (T.setVm vm₁) hT hW₁⟩) with ⟨v, vm₁, ⟨U', l2, c2, s2⟩, hW₁, X', ⟨g', mk, t, L, e1, e2, hq, h1, hL, h2, h3⟩, st⟩ | ⟨q, vm₁, ⟨U', l2, c2, s2⟩, hW₁, X', ⟨g', mk, t, L, E, ce, e1, e2, hq, hce, hcv, hcl, h1, hL, h2, h3⟩, st⟩
  · dsimp only [Pt.U, Pt.locs, Pt.cells, Pt.slots] at X' e1 e2 h1 h2 h3 st
    subst h1; subst h2; subst h3
    exact Or.inl ⟨v, (T.setVm vm₁).calling g' mk (Value.ref b :: As).toArray, t, U', L, hT, X', hL, e1, e2, hq, st⟩
  · dsimp only [Pt.U, Pt.locs, Pt.cells, Pt.slots] at X' e1 e2 h1 h2 h3 st hcl
    subst h1; subst h2; subst h3
    exact Or.inr ⟨q, (T.setVm vm₁).calling g' mk (Value.ref b :: As).toArray, t, U', L, E, ce, hT, X', hL, e1, e2, hq, hce, hcv, vx_cls hW₁ hcl, st⟩
theorem vx_runS (S : CallFix p m c cc nL s args Ts own) (hM : vx_Met l y ws rm Pc Qc XC mc ms free) (cw : CallB R s args own index y bytes maxL ret ws rm mc ms n ∧ (Cond.static y).before args s = true) (hp : PreS s H Pc As)
    (hg : g.method = m) (hn : As.length = n) (hsize : g.locals.size = nL) (hstack : g.stack = As.reverse ++ rest) (hW : 2 * g.monitorRoom + (rest.map fun v => v.category).sum ≤ 8) (hdg : decode cc g.pc = .ok (.invokestatic index, 3)) (hf : cells + mc ≤ R.cells ∧ slots + ms ≤ R.slots) :
    vx_Run p l e R s m args below meth c H locs cells slots mc ms g rest (Qc As.toArray) XC free := by
  have hK : vx_Back l R p e below s args y 3 8 (PreOf R mc ms Pc) (PostOf Qc mc ms free) (vx_Post XC mc ms free) := vx_callBack cw.1 hM hp.1
  obtain ⟨⟨-, -, -, -, -, -, hcode, hini, hy, hlen, hl⟩, hstt⟩ := cw
  obtain ⟨hx, hb, hml, ho, -⟩ := S
  intro T hT X
  rcases vx_callS X hx (bytes := bytes) (maxL := maxL) (ret := ret) ho hl hstt hini hcode hy hK hg (hsize.trans hml.symm) (argsL := As) (rest := rest) (fun sig h => hn.trans (hlen sig h)) hstack hW (by rw [hb]; exact hdg)
    (fun vm₁ hW₁ => ⟨hf.1, hf.2, hp.2 (T.setVm vm₁) hT hW₁⟩) with ⟨v, vm₁, ⟨U', l2, c2, s2⟩, hW₁, X', ⟨g', mk, t, L, e1, e2, hq, h1, hL, h2, h3⟩, st⟩ | ⟨q, vm₁, ⟨U', l2, c2, s2⟩, hW₁, X', ⟨g', mk, t, L, E, ce, e1, e2, hq, hce, hcv, hcl, h1, hL, h2, h3⟩, st⟩
  · dsimp only [Pt.U, Pt.locs, Pt.cells, Pt.slots] at X' e1 e2 h1 h2 h3 st
    subst h1; subst h2; subst h3
    exact Or.inl ⟨v, (T.setVm vm₁).calling g' mk As.toArray, t, U', L, hT, X', hL, e1, e2, hq, st⟩
  · dsimp only [Pt.U, Pt.locs, Pt.cells, Pt.slots] at X' e1 e2 h1 h2 h3 st hcl
    subst h1; subst h2; subst h3
    exact Or.inr ⟨q, (T.setVm vm₁).calling g' mk As.toArray, t, U', L, E, ce, hT, X', hL, e1, e2, hq, hce, hcv, vx_cls hW₁ hcl, st⟩
end Runs
section Rows
variable {p : Program} {l : Launch} {e : Env} {R : Room} {s : State} {m : MethodId} {args : Array Value} {below : List Frame} {meth : Method} {c : Code} {H : Heap} {locs : List Loc} {cells slots : Nat} {Q : State → Prop}
variable {mc ms : Nat} {free : Addr → Prop} {A0 A1 : Nat → Prop} {H0 : Heap} {a : Array Value} {pc : Nat} {ls : Array Slot} {st0 rest : List Value}
theorem vx_keep {st₀ t T' : State} {L : List Loc} (h0 : st₀.heap = H) (e1 : T'.heap = t.heap) (hS : va_S A0 H0 H locs) (hA : ∀ q, q < H.size → A1 q → A0 q) (hf : ∀ q, free q → A0 q) (hL : ∀ q ∈ L, free q.base) (hF : va_F A1 st₀ t) :
    H.size ≤ T'.heap.size ∧ (∀ q : Nat, q < H.size → ¬ A1 q → T'.heap[q]? = H[q]?) ∧ va_S A0 H0 T'.heap (locs ++ L) := by
  obtain ⟨hz, hk⟩ := hF
  rw [h0] at hz hk
  exact ⟨by rw [e1]; exact hz, fun q h1 h2 => by rw [e1]; exact hk q h1 h2,
    ⟨Nat.le_trans hS.1 (by rw [e1]; exact hz), fun q h1 h2 => by rw [e1, hk q (Nat.lt_of_lt_of_le h1 hS.1) (fun z => h2 (hA q (Nat.lt_of_lt_of_le h1 hS.1) z))]; exact hS.2.1 q h1 h2, fun q hq => by
      rcases List.mem_append.mp hq with h | h
      · exact hS.2.2 q h
      · exact hf _ (hL q h)⟩⟩
theorem vx_calli {S SX : Type} {post : Int32 → S → Prop} {px : SX → Prop} {B : S → State → Prop} {BX : String → SX → State → Prop} {AX : Nat → Prop} (hr : vx_Run p l e R s m args below meth c H locs cells slots mc ms (F0 m pc ls st0) rest (va_Qi post B A1 a) (vx_X px BX AX) free) (hS : va_S A0 H0 H locs) (hA : ∀ q, q < H.size → A1 q → A0 q) (hf : ∀ q, free q → A0 q) (hAX : ∀ q, q < H.size → AX q → A0 q)
    (kx : ∀ (E : String) (ce : Cell) (q9 : Addr) (u : SX) (t : State) (H1 : Heap) (locs1 : List Loc), t.heap = H1 → s.vm.Alike t.vm → px u → BX E u t → H.size ≤ H1.size → (∀ q : Nat, q < H.size → ¬ AX q → H1[q]? = H[q]?) → va_S A0 H0 H1 locs1 → H1[q9]? = some ce → ce.vm = .none → s.vm.findClass E = some ce.cls → vx_W p l e R s m args below meth c H1 locs1 (cells + mc) (slots + ms) Q (F0 m pc ls rest) q9)
    (kk : ∀ (r : Int32) (u : S) (t : State) (H1 : Heap) (locs1 : List Loc), t.heap = H1 → s.vm.Alike t.vm → post r u → B u t → H.size ≤ H1.size → (∀ q : Nat, q < H.size → ¬ A1 q → H1[q]? = H[q]?) → va_S A0 H0 H1 locs1 → W p l e R s m args below meth c H1 locs1 (cells + mc) (slots + ms) Q (F0 m (pc + 3) ls (.int r :: rest))) : W p l e R s m args below meth c H locs cells slots Q (F0 m pc ls st0) := by
  intro T hT X
  rcases hr T hT X with ⟨v, st₀, t, T', L, h0, X', hL, e1, e2, ⟨⟨r, u, hv, hp, hb⟩, hF⟩, st⟩ | ⟨q, st₀, t, T', L, E, ce, h0, X', hL, e1, e2, ⟨u, hp, hb, hF⟩, hce, hcv, hcl, st⟩
  · cases hv
    obtain ⟨k1, k2, k3⟩ := vx_keep h0 e1 hS hA hf hL hF
    obtain ⟨t2, a1, b1⟩ := kk r u t T'.heap (locs ++ L) e1.symm (by rw [← e2]; exact X'.warmed.alike) hp hb k1 k2 k3 T' rfl X'
    exact ⟨t2, st t2 a1, b1⟩
  · obtain ⟨k1, k2, k3⟩ := vx_keep h0 e1 hS hAX hf hL hF
    obtain ⟨t2, a1, b1⟩ := kx E ce q u t T'.heap (locs ++ L) e1.symm (by rw [← e2]; exact X'.warmed.alike) hp hb k1 k2 k3 (by rw [e1]; exact hce) hcv hcl T' rfl X'
    exact ⟨t2, st.trans a1, b1⟩
theorem vx_calll {S SX : Type} {post : Int64 → S → Prop} {px : SX → Prop} {B : S → State → Prop} {BX : String → SX → State → Prop} {AX : Nat → Prop} (hr : vx_Run p l e R s m args below meth c H locs cells slots mc ms (F0 m pc ls st0) rest (va_Ql post B A1 a) (vx_X px BX AX) free) (hS : va_S A0 H0 H locs) (hA : ∀ q, q < H.size → A1 q → A0 q) (hf : ∀ q, free q → A0 q) (hAX : ∀ q, q < H.size → AX q → A0 q)
    (kx : ∀ (E : String) (ce : Cell) (q9 : Addr) (u : SX) (t : State) (H1 : Heap) (locs1 : List Loc), t.heap = H1 → s.vm.Alike t.vm → px u → BX E u t → H.size ≤ H1.size → (∀ q : Nat, q < H.size → ¬ AX q → H1[q]? = H[q]?) → va_S A0 H0 H1 locs1 → H1[q9]? = some ce → ce.vm = .none → s.vm.findClass E = some ce.cls → vx_W p l e R s m args below meth c H1 locs1 (cells + mc) (slots + ms) Q (F0 m pc ls rest) q9)
    (kk : ∀ (r : Int64) (u : S) (t : State) (H1 : Heap) (locs1 : List Loc), t.heap = H1 → s.vm.Alike t.vm → post r u → B u t → H.size ≤ H1.size → (∀ q : Nat, q < H.size → ¬ A1 q → H1[q]? = H[q]?) → va_S A0 H0 H1 locs1 → W p l e R s m args below meth c H1 locs1 (cells + mc) (slots + ms) Q (F0 m (pc + 3) ls (.long r :: rest))) : W p l e R s m args below meth c H locs cells slots Q (F0 m pc ls st0) := by
  intro T hT X
  rcases hr T hT X with ⟨v, st₀, t, T', L, h0, X', hL, e1, e2, ⟨⟨r, u, hv, hp, hb⟩, hF⟩, st⟩ | ⟨q, st₀, t, T', L, E, ce, h0, X', hL, e1, e2, ⟨u, hp, hb, hF⟩, hce, hcv, hcl, st⟩
  · cases hv
    obtain ⟨k1, k2, k3⟩ := vx_keep h0 e1 hS hA hf hL hF
    obtain ⟨t2, a1, b1⟩ := kk r u t T'.heap (locs ++ L) e1.symm (by rw [← e2]; exact X'.warmed.alike) hp hb k1 k2 k3 T' rfl X'
    exact ⟨t2, st t2 a1, b1⟩
  · obtain ⟨k1, k2, k3⟩ := vx_keep h0 e1 hS hAX hf hL hF
    obtain ⟨t2, a1, b1⟩ := kx E ce q u t T'.heap (locs ++ L) e1.symm (by rw [← e2]; exact X'.warmed.alike) hp hb k1 k2 k3 (by rw [e1]; exact hce) hcv hcl T' rfl X'
    exact ⟨t2, st.trans a1, b1⟩
theorem vx_callf {S SX : Type} {post : UInt32 → S → Prop} {px : SX → Prop} {B : S → State → Prop} {BX : String → SX → State → Prop} {AX : Nat → Prop} (hr : vx_Run p l e R s m args below meth c H locs cells slots mc ms (F0 m pc ls st0) rest (va_Qf post B A1 a) (vx_X px BX AX) free) (hS : va_S A0 H0 H locs) (hA : ∀ q, q < H.size → A1 q → A0 q) (hf : ∀ q, free q → A0 q) (hAX : ∀ q, q < H.size → AX q → A0 q)
    (kx : ∀ (E : String) (ce : Cell) (q9 : Addr) (u : SX) (t : State) (H1 : Heap) (locs1 : List Loc), t.heap = H1 → s.vm.Alike t.vm → px u → BX E u t → H.size ≤ H1.size → (∀ q : Nat, q < H.size → ¬ AX q → H1[q]? = H[q]?) → va_S A0 H0 H1 locs1 → H1[q9]? = some ce → ce.vm = .none → s.vm.findClass E = some ce.cls → vx_W p l e R s m args below meth c H1 locs1 (cells + mc) (slots + ms) Q (F0 m pc ls rest) q9)
    (kk : ∀ (r : UInt32) (u : S) (t : State) (H1 : Heap) (locs1 : List Loc), t.heap = H1 → s.vm.Alike t.vm → post r u → B u t → H.size ≤ H1.size → (∀ q : Nat, q < H.size → ¬ A1 q → H1[q]? = H[q]?) → va_S A0 H0 H1 locs1 → W p l e R s m args below meth c H1 locs1 (cells + mc) (slots + ms) Q (F0 m (pc + 3) ls (.float r :: rest))) : W p l e R s m args below meth c H locs cells slots Q (F0 m pc ls st0) := by
  intro T hT X
  rcases hr T hT X with ⟨v, st₀, t, T', L, h0, X', hL, e1, e2, ⟨⟨r, u, hv, hp, hb⟩, hF⟩, st⟩ | ⟨q, st₀, t, T', L, E, ce, h0, X', hL, e1, e2, ⟨u, hp, hb, hF⟩, hce, hcv, hcl, st⟩
  · cases hv
    obtain ⟨k1, k2, k3⟩ := vx_keep h0 e1 hS hA hf hL hF
    obtain ⟨t2, a1, b1⟩ := kk r u t T'.heap (locs ++ L) e1.symm (by rw [← e2]; exact X'.warmed.alike) hp hb k1 k2 k3 T' rfl X'
    exact ⟨t2, st t2 a1, b1⟩
  · obtain ⟨k1, k2, k3⟩ := vx_keep h0 e1 hS hAX hf hL hF
    obtain ⟨t2, a1, b1⟩ := kx E ce q u t T'.heap (locs ++ L) e1.symm (by rw [← e2]; exact X'.warmed.alike) hp hb k1 k2 k3 (by rw [e1]; exact hce) hcv hcl T' rfl X'
    exact ⟨t2, st.trans a1, b1⟩
theorem vx_calld {S SX : Type} {post : UInt64 → S → Prop} {px : SX → Prop} {B : S → State → Prop} {BX : String → SX → State → Prop} {AX : Nat → Prop} (hr : vx_Run p l e R s m args below meth c H locs cells slots mc ms (F0 m pc ls st0) rest (va_Qd post B A1 a) (vx_X px BX AX) free) (hS : va_S A0 H0 H locs) (hA : ∀ q, q < H.size → A1 q → A0 q) (hf : ∀ q, free q → A0 q) (hAX : ∀ q, q < H.size → AX q → A0 q)
    (kx : ∀ (E : String) (ce : Cell) (q9 : Addr) (u : SX) (t : State) (H1 : Heap) (locs1 : List Loc), t.heap = H1 → s.vm.Alike t.vm → px u → BX E u t → H.size ≤ H1.size → (∀ q : Nat, q < H.size → ¬ AX q → H1[q]? = H[q]?) → va_S A0 H0 H1 locs1 → H1[q9]? = some ce → ce.vm = .none → s.vm.findClass E = some ce.cls → vx_W p l e R s m args below meth c H1 locs1 (cells + mc) (slots + ms) Q (F0 m pc ls rest) q9)
    (kk : ∀ (r : UInt64) (u : S) (t : State) (H1 : Heap) (locs1 : List Loc), t.heap = H1 → s.vm.Alike t.vm → post r u → B u t → H.size ≤ H1.size → (∀ q : Nat, q < H.size → ¬ A1 q → H1[q]? = H[q]?) → va_S A0 H0 H1 locs1 → W p l e R s m args below meth c H1 locs1 (cells + mc) (slots + ms) Q (F0 m (pc + 3) ls (.double r :: rest))) : W p l e R s m args below meth c H locs cells slots Q (F0 m pc ls st0) := by
  intro T hT X
  rcases hr T hT X with ⟨v, st₀, t, T', L, h0, X', hL, e1, e2, ⟨⟨r, u, hv, hp, hb⟩, hF⟩, st⟩ | ⟨q, st₀, t, T', L, E, ce, h0, X', hL, e1, e2, ⟨u, hp, hb, hF⟩, hce, hcv, hcl, st⟩
  · cases hv
    obtain ⟨k1, k2, k3⟩ := vx_keep h0 e1 hS hA hf hL hF
    obtain ⟨t2, a1, b1⟩ := kk r u t T'.heap (locs ++ L) e1.symm (by rw [← e2]; exact X'.warmed.alike) hp hb k1 k2 k3 T' rfl X'
    exact ⟨t2, st t2 a1, b1⟩
  · obtain ⟨k1, k2, k3⟩ := vx_keep h0 e1 hS hAX hf hL hF
    obtain ⟨t2, a1, b1⟩ := kx E ce q u t T'.heap (locs ++ L) e1.symm (by rw [← e2]; exact X'.warmed.alike) hp hb k1 k2 k3 (by rw [e1]; exact hce) hcv hcl T' rfl X'
    exact ⟨t2, st.trans a1, b1⟩
theorem vx_callv {S SX : Type} {post : S → Prop} {px : SX → Prop} {B : S → State → Prop} {BX : String → SX → State → Prop} {AX : Nat → Prop} (hr : vx_Run p l e R s m args below meth c H locs cells slots mc ms (F0 m pc ls st0) rest (va_Qv post B A1 a) (vx_X px BX AX) free) (hS : va_S A0 H0 H locs) (hA : ∀ q, q < H.size → A1 q → A0 q) (hf : ∀ q, free q → A0 q) (hAX : ∀ q, q < H.size → AX q → A0 q)
    (kx : ∀ (E : String) (ce : Cell) (q9 : Addr) (u : SX) (t : State) (H1 : Heap) (locs1 : List Loc), t.heap = H1 → s.vm.Alike t.vm → px u → BX E u t → H.size ≤ H1.size → (∀ q : Nat, q < H.size → ¬ AX q → H1[q]? = H[q]?) → va_S A0 H0 H1 locs1 → H1[q9]? = some ce → ce.vm = .none → s.vm.findClass E = some ce.cls → vx_W p l e R s m args below meth c H1 locs1 (cells + mc) (slots + ms) Q (F0 m pc ls rest) q9)
    (kk : ∀ (u : S) (t : State) (H1 : Heap) (locs1 : List Loc), t.heap = H1 → s.vm.Alike t.vm → post u → B u t → H.size ≤ H1.size → (∀ q : Nat, q < H.size → ¬ A1 q → H1[q]? = H[q]?) → va_S A0 H0 H1 locs1 → W p l e R s m args below meth c H1 locs1 (cells + mc) (slots + ms) Q (F0 m (pc + 3) ls (rest))) : W p l e R s m args below meth c H locs cells slots Q (F0 m pc ls st0) := by
  intro T hT X
  rcases hr T hT X with ⟨v, st₀, t, T', L, h0, X', hL, e1, e2, ⟨⟨u, hv, hp, hb⟩, hF⟩, st⟩ | ⟨q, st₀, t, T', L, E, ce, h0, X', hL, e1, e2, ⟨u, hp, hb, hF⟩, hce, hcv, hcl, st⟩
  · cases hv
    obtain ⟨k1, k2, k3⟩ := vx_keep h0 e1 hS hA hf hL hF
    obtain ⟨t2, a1, b1⟩ := kk u t T'.heap (locs ++ L) e1.symm (by rw [← e2]; exact X'.warmed.alike) hp hb k1 k2 k3 T' rfl X'
    exact ⟨t2, st t2 a1, b1⟩
  · obtain ⟨k1, k2, k3⟩ := vx_keep h0 e1 hS hAX hf hL hF
    obtain ⟨t2, a1, b1⟩ := kx E ce q u t T'.heap (locs ++ L) e1.symm (by rw [← e2]; exact X'.warmed.alike) hp hb k1 k2 k3 (by rw [e1]; exact hce) hcv hcl T' rfl X'
    exact ⟨t2, st.trans a1, b1⟩
/-- caught by the row x of this method's table; the rows ahead don't take it -/
theorem vx_catch {own name : String} {E : String} {ce : Cell} {q : Addr} (hown : s.vm.findClass own = some m.cls) (pre : List ExceptionTableEntry) (x : ExceptionTableEntry) (suf : List ExceptionTableEntry) (hsplit : c.exceptionTable.toList = pre ++ x :: suf)
    (hpass : ∀ z ∈ pre, covers z pc = false ∨ (z.catchType ≠ 0 ∧ ∃ nm : String, (Cond.classLink own z.catchType nm).before args s = true ∧ va_Nc E nm s)) (hx : covers x pc = true) (h0 : x.catchType ≠ 0)
    (hlink : (Cond.classLink own x.catchType name).before args s = true) (hcast : (Cond.castable E name).before args s = true) (hcell : H[q]? = some ce) (hv : ce.vm = .none) (hcl : s.vm.findClass E = some ce.cls)
    (kk : W p l e R s m args below meth c H locs cells slots Q (F0 m x.handlerPc ls [.ref q])) : vx_W p l e R s m args below meth c H locs cells slots Q (F0 m pc ls rest) q := by
  intro T hT X
  have hpl : e.platform.magicAccessors = ({} : Platform).magicAccessors := by rw [X.admits.platform]
  obtain ⟨c3, c4, hc3, hc4, hasg⟩ := Cond.castable_spec hcast
  cases Option.some.inj (hc3.symm.trans hcl)
  obtain ⟨c5, hc5, hcl5⟩ := Cond.classLink_spec hown hlink e.platform hpl
  cases Option.some.inj (hc4.symm.trans hc5)
  obtain ⟨vm', X', st⟩ := X.thenCaughtThrough q (g := F0 m pc ls rest) rfl (Steps.refl _) (by rw [hT]; exact hcell) (by rw [hv]; rfl) (by obtain ⟨k9, h9, -⟩ := Vm.findClass_spec hcl; exact ⟨k9, h9⟩) pre x suf hsplit
    (fun z hz => by
      rcases hpass z hz with h | ⟨hz0, nm, hl1, hn1⟩
      · exact Or.inl h
      · obtain ⟨c6, hc6, hcl6⟩ := Cond.classLink_spec hown hl1 e.platform hpl
        obtain ⟨a8, b8, h1, h2, h3⟩ := hn1
        cases Option.some.inj (h1.symm.trans hcl)
        cases Option.some.inj (h2.symm.trans hc6)
        exact Or.inr ⟨hz0, _, hcl6, h3⟩) hx (Or.inr ⟨h0, c4, hcl5, hasg⟩)
  obtain ⟨t, a1, b1⟩ := kk (T.setVm vm') hT X'
  exact ⟨t, st.trans a1, b1⟩
end Rows
section Ends
variable {p : Program} {l : Launch} {e : Env} {R : Room} {s : State} {m : MethodId} {args : Array Value} {below : List Frame} {meth : Method} {c : Code} {H : Heap} {locs : List Loc} {cells slots : Nat} {Q : State → Prop}
variable {mc ms : Nat} {free : Addr → Prop} {A0 A1 : Nat → Prop} {H0 : Heap} {a : Array Value} {ls : Array Slot} {st0 rest : List Value}
variable {Qc : Array Value → State → Outcome → State → Prop} {XC : String → State → State → Prop}
/-- what a body that may throw owes at its end -/
def vx_MQ (below : List Frame) (Qc : Array Value → State → Outcome → State → Prop) (XC : String → State → State → Prop) (a : Array Value) (s : State) (mc ms : Nat) (free : Addr → Prop) : State → Prop := fun t =>
  ∃ o, t.status = .running ∧ Ended t below o ∧ vx_Q Qc XC mc ms free a s o t
theorem vx_ret {g : JFrame} {mc ms : Nat} (k : W p l e R s m args below meth c H locs cells slots (MQ below Qc args s mc ms free) g) : W p l e R s m args below meth c H locs cells slots (vx_MQ below Qc XC args s mc ms free) g := by
  intro T hT X
  obtain ⟨t, a1, o, b1, b2, b3, b4⟩ := k T hT X
  exact ⟨t, a1, o, b1, b2, Or.inl ⟨b3, b4⟩⟩
/-- not caught here: it goes on to the caller -/
theorem vx_widen {g : JFrame} {q : Addr} {k n : Nat} (h1 : cells ≤ k) (h2 : slots ≤ n) (kk : vx_W p l e R s m args below meth c H locs k n Q g q) : vx_W p l e R s m args below meth c H locs cells slots Q g q := fun T hT X => kk T hT (stand_widen X h1 h2)
theorem vx_out {pc : Nat} {E : String} {ce : Cell} {q : Addr} {mc ms : Nat} (hout : ∀ x ∈ c.exceptionTable.toList, covers x pc = false) (hlocks : meth.locks = false) (hcell : H[q]? = some ce) (hv : ce.vm = .none) (hcl : s.vm.findClass E = some ce.cls)
    (hx : ∀ t : State, t.heap = H → s.vm.Alike t.vm → XC E s t) (hf : ∀ z ∈ locs, free z.base) (hc : cells ≤ mc) (hs : slots ≤ ms) :
    vx_W p l e R s m args below meth c H locs cells slots (vx_MQ below Qc XC args s mc ms free) (F0 m pc ls rest) q := by
  intro T hT X
  obtain ⟨st1, hrun, hend, hW, hsm⟩ := X.leaveThrown q (g := F0 m pc ls rest) rfl rfl rfl hout hlocks
  have hcell9 : (T.setFrames (.throwing q :: below)).heap[q]? = some ce := by
    show T.heap[q]? = some ce
    rw [hT]; exact hcell
  exact ⟨_, st1, .threw q, hrun, hend, Or.inr ⟨q, rfl, E, ce, locs, hx _ hT hW.alike, hcell9, hv, hcl, hW, hsm.mono hc hs, hf⟩⟩
theorem vx_frame {U : State} {k n : Nat} (h : s.sameButNew ({ U with vm := s.vm } : State) locs k n) : s.heap.size ≤ U.heap.size ∧ ∀ q : Nat, q < s.heap.size → (∀ z ∈ locs, z.base ≠ q) → U.heap[q]? = s.heap[q]? := by
  obtain ⟨-, h2, -, -, -, h6⟩ := h
  refine ⟨h2, fun q hq hz => ?_⟩
  obtain ⟨c9, e1, e2, e3, e4⟩ := h6 q _ (Array.getElem?_eq_getElem hq)
  have hs : c9.slots = (s.heap[q]).slots := Array.ext_getElem? fun i => e4 i fun hm => hz _ hm rfl
  have h9 : c9 = s.heap[q] := by
    rw [hs] at e2
    exact e2
  have e5 : U.heap[q]? = some c9 := e1
  rw [e5, h9, Array.getElem?_eq_getElem hq]
/-- the words of a throw but the four that speak of the heap -/
def vx_no (w : Cond) : Bool := decide (w ≠ .isRef (.static Bundle.tN "UNASSIGNED_STACK" Bundle.steD)) && decide (w ≠ .isRef (.static Bundle.tN "SUPPRESSED_SENTINEL" Bundle.listD)) && decide (w ≠ .laysStatic Bundle.tN "UNASSIGNED_STACK" Bundle.steD) && decide (w ≠ .laysStatic Bundle.tN "SUPPRESSED_SENTINEL" Bundle.listD)
def vx_at0 (own : String) (ic : Nat) (X : String) (names : List String) : List Cond := (Bundle.ownAtoms0 own ic X names).filter vx_no
def vx_atS (own : String) (ic : Nat) (X : String) (names : List String) : List Cond := (Bundle.ownAtoms own ic X names).filter vx_no
/-- a word that the tables alone decide, or a good one -/
def vx_ot (w : Cond) : Bool := w.onTables || goodWord w
theorem vx_ot_at {args a' : Array Value} {s U : State} {w : Cond} (hW : s.WarmedH U.vm) (hvm : s.vm = U.vm) (hg : vx_ot w = true) (h : w.before args s = true) : w.before a' U = true := by
  simp only [vx_ot, Bool.or_eq_true] at hg
  rcases hg with hg | hg
  · exact va_tabs hg hvm h
  · exact word_at hW (good_of_word hg) h
/-- a list's words: the good ones out of the method's own list, the others by premises of their own -/
theorem vx_hat {args : Array Value} {s : State} {L B : List Cond} (h1 : ∀ w ∈ L.filter goodWord, w.before args s = true) (h2 : ∀ w ∈ L.filter (fun w => !goodWord w), w ∈ B) (h3 : ∀ w ∈ B, w.before args s = true) : ∀ w ∈ L, w.before args s = true := by
  intro w hw
  by_cases g : goodWord w = true
  · exact h1 w (List.mem_filter.mpr ⟨hw, g⟩)
  · refine h3 w (h2 w (List.mem_filter.mpr ⟨hw, ?_⟩))
    show (!goodWord w) = true
    cases hgw : goodWord w
    · rfl
    · exact absurd hgw g
theorem vx_c {args : Array Value} {s : State} {w : Cond} {B : List Cond} (h : w.before args s = true) (t : ∀ w ∈ B, w.before args s = true) : ∀ w' ∈ w :: B, w'.before args s = true := fun w' h' => (List.mem_cons.mp h').elim (fun e => by rw [e]; exact h) (t w')
theorem vx_n {args : Array Value} {s : State} : ∀ w ∈ ([] : List Cond), w.before args s = true := fun _ h => nomatch h
theorem vx_own {args : Array Value} {s : State} {L : List Cond} (h1 : ∀ w ∈ L.filter vx_no, w.before args s = true)
    (hU : (Cond.isRef (.static Bundle.tN "UNASSIGNED_STACK" Bundle.steD)).before args s = true) (hN : (Cond.isRef (.static Bundle.tN "SUPPRESSED_SENTINEL" Bundle.listD)).before args s = true)
    (lU : (Cond.laysStatic Bundle.tN "UNASSIGNED_STACK" Bundle.steD).before args s = true) (lN : (Cond.laysStatic Bundle.tN "SUPPRESSED_SENTINEL" Bundle.listD).before args s = true) : ∀ w ∈ L, w.before args s = true := by
  intro w hw
  by_cases e1 : w = .isRef (.static Bundle.tN "UNASSIGNED_STACK" Bundle.steD)
  · rw [e1]; exact hU
  · by_cases e2 : w = .isRef (.static Bundle.tN "SUPPRESSED_SENTINEL" Bundle.listD)
    · rw [e2]; exact hN
    · by_cases e3 : w = .laysStatic Bundle.tN "UNASSIGNED_STACK" Bundle.steD
      · rw [e3]; exact lU
      · by_cases e4 : w = .laysStatic Bundle.tN "SUPPRESSED_SENTINEL" Bundle.listD
        · rw [e4]; exact lN
        · exact h1 w (List.mem_filter.mpr ⟨hw, by unfold vx_no; rw [decide_eq_true e1, decide_eq_true e2, decide_eq_true e3, decide_eq_true e4]; rfl⟩)
/-- where a static field lies, its class's statics cell in H -/
def vx_L (C n d : String) (A : Nat → Prop) (U : State) (H : Heap) : Prop := ∃ (c : ClassId) (k : Class) (i : Nat) (f : Field) (a : Nat) (cell : Cell), U.vm.findClass C = some c ∧ U.fieldFound? C n d = some (c, k, i, f) ∧ f.isStatic = true ∧ k.statics = some a ∧ H[a]? = some cell ∧ cell.vm.isStatics = true ∧ cell.cls = c ∧ f.slot < cell.slots.size ∧ k.staticTypes[f.slot]? = some f.type ∧ ¬ A a
theorem vx_L.moved {C n d : String} {A : Nat → Prop} {u U : State} {H : Heap} (hvm : u.vm.Alike U.vm) (h : vx_L C n d A u H) : vx_L C n d A U H := by
  obtain ⟨c, k, i, f, a, cell, h1, h2, h3, h4, h5, h6, h7, h8, h9, h10⟩ := h
  obtain ⟨k', hi', he⟩ := State.fieldFound?_setVm hvm h2
  exact ⟨c, k', i, f, a, cell, by rw [hvm.findClass]; exact h1, hi', h3, by rw [he]; exact h4, h5, h6, h7, h8, by rw [he]; exact h9, h10⟩
theorem vx_L.kept {C n d : String} {A : Nat → Prop} {U : State} {H H1 : Heap} (h : vx_L C n d A U H) (hq : ∀ a : Nat, a < H.size → ¬ A a → H1[a]? = H[a]?) : vx_L C n d A U H1 := by
  obtain ⟨c, k, i, f, a, cell, h1, h2, h3, h4, h5, h6, h7, h8, h9, h10⟩ := h
  exact ⟨c, k, i, f, a, cell, h1, h2, h3, h4, by rw [hq a (Array.getElem?_eq_some_iff.mp h5).1 h10]; exact h5, h6, h7, h8, h9, h10⟩
theorem vx_L.narrow {C n d : String} {A B : Nat → Prop} {U : State} {H : Heap} (h : vx_L C n d A U H) (hAB : ∀ q, B q → A q) : vx_L C n d B U H := by
  obtain ⟨c, k, i, f, a, cell, h1, h2, h3, h4, h5, h6, h7, h8, h9, h10⟩ := h
  exact ⟨c, k, i, f, a, cell, h1, h2, h3, h4, h5, h6, h7, h8, h9, fun z => h10 (hAB _ z)⟩
theorem vx_L.word {C n d : String} {A : Nat → Prop} {s : State} {args : Array Value} (h : vx_L C n d A s s.heap) : (Cond.laysStatic C n d).before args s = true := by
  obtain ⟨c, k, i, f, a, cell, h1, h2, h3, h4, h5, h6, h7, h8, h9, -⟩ := h
  show (Cond.laysStatic C n d).holds args s none s [] = true
  exact Cond.laysStatic_of h1 h2 h3 h4 h5 h6 h7 h8 h9
/-- .. and what it holds: null or some reference -/
def vx_Zq (C n d : String) (A : Nat → Prop) (U : State) (H : Heap) : Prop := va_Zq C n d A U H ∧ vx_L C n d A U H
theorem vx_Zq.moved {C n d : String} {A : Nat → Prop} {u U : State} {H : Heap} (hvm : u.vm.Alike U.vm) (h : vx_Zq C n d A u H) : vx_Zq C n d A U H := ⟨va_Zq.moved hvm h.1, vx_L.moved hvm h.2⟩
theorem vx_Zq.kept {C n d : String} {A : Nat → Prop} {U : State} {H H1 : Heap} (h : vx_Zq C n d A U H) (hq : ∀ a : Nat, a < H.size → ¬ A a → H1[a]? = H[a]?) : vx_Zq C n d A U H1 := ⟨va_Zq.kept h.1 hq, vx_L.kept h.2 hq⟩
theorem vx_Zq.narrow {C n d : String} {A B : Nat → Prop} {U : State} {H : Heap} (h : vx_Zq C n d A U H) (hAB : ∀ q, B q → A q) : vx_Zq C n d B U H := ⟨va_Zq.narrow h.1 hAB, vx_L.narrow h.2 hAB⟩
theorem vx_Zqof {args : Array Value} {s : State} {C n d : String} {A : Nat → Prop} (hl : (Cond.laysStatic C n d).before args s = true) (hini : (Cond.initialized C).before args s = true) (h : (Cond.isRef (.static C n d)).before args s = true) (hA : ∀ a : Nat, a < s.heap.size → ¬ A a) : vx_Zq C n d A s s.heap := by
  refine ⟨va_Zqof hl hini h hA, ?_⟩
  obtain ⟨c, k, i, f, a, cell, h1, h2, h3, h4, h5, h6, h7, h8, h9⟩ := Cond.laysStatic_spec hl
  exact ⟨c, k, i, f, a, cell, h1, h2, h3, h4, h5, h6, h7, h8, h9, hA a (Array.getElem?_eq_some_iff.mp h5).1⟩
theorem vx_isRef {C n d : String} {v : Value} {A : Nat → Prop} {s : State} {args : Array Value} (h : va_Z C n d v A s s.heap) (hv : v.isRef = true) : (Cond.isRef (.static C n d)).before args s = true := by
  obtain ⟨cf, kf, fi, f, a, cell, h1, h2, h3, h4, h5, h6, h7, -⟩ := h
  have he : (Term.static C n d).eval args s none [] s = some v := by
    simp [Term.eval, State.fieldNamed?, h1, h2, h4, h5, h6, h7]
  simp only [Cond.before, Cond.holds, Cond.value, he]
  cases v <;> simp_all [Value.isRef]
theorem vx_isRefq {C n d : String} {A : Nat → Prop} {s : State} {args : Array Value} (h : va_Zq C n d A s s.heap) : (Cond.isRef (.static C n d)).before args s = true := by
  rcases h with h | ⟨t, h⟩
  · exact vx_isRef h rfl
  · exact vx_isRef h rfl
/-- the same frame, seen from here: as if the method were called anew in this heap -/
theorem vx_rebase {T : State} (X : Stand p l e R s m args below meth c T locs cells slots) {R' : Room} (hf : R'.frames ≤ R.frames) (hl : R'.locals ≤ R.locals) (hc : cells + R'.cells ≤ R.cells) (hs : slots + R'.slots ≤ R.slots) :
    Stand p l e R' ((T.setVm s.vm).setFrames (.invoking m args :: below)) m args below meth c T [] 0 0 := by
  have htop : (T.setVm s.vm).topJava?.isSome := X.here.top
  have hF : ((T.setVm s.vm).setFrames (.invoking m args :: below)).frames = .invoking m args :: below := State.frames_setFrames _ (State.cur_lt_of_top htop)
  obtain ⟨g₀, hg0⟩ := Option.isSome_iff_exists.mp htop
  obtain ⟨r, hr⟩ := State.topJava?_eq_some.mp hg0
  have hl9 : e.platform.stackLimits (T.setVm s.vm).me = e.platform.stackLimits s.me := X.limits
  have hb9 : (T.setVm s.vm).me.stackBytes = s.me.stackBytes := X.bytes
  refine ⟨X.admits, X.cas, X.clock, hF, ?_, X.hears, X.method, X.code, X.here, X.tail, X.warmed, ?_, ?_, ?_⟩
  · have h := X.room
    have hU : ((T.setVm s.vm).setFrames (.invoking m args :: below)).localsInUse = s.localsInUse := by
      rw [State.localsInUse_invoking hF (meth := meth) (c := c) X.method X.code, State.localsInUse_invoking X.frames X.method X.code]
    simp only [State.hasRoom, Bool.and_eq_true, decide_eq_true_eq] at h ⊢
    obtain ⟨⟨⟨⟨h1, h2, h3, h4, h5, h6⟩, h7⟩, h8⟩, h9⟩ := h
    rw [X.frames, List.length_cons] at h2 h3
    have q1 := X.heapSize
    have q2 := X.used
    simp only [hF, hU, List.length_cons, State.stackLimits_setFrames, State.stackBytes_setFrames, hl9, hb9]
    refine ⟨⟨⟨⟨by omega, by omega, by omega, by omega, by omega, h6⟩, ?_⟩, ?_⟩, X.book⟩
    · show T.heap.size + R'.cells ≤ e.platform.maxCells
      omega
    · show T.slotsUsed + R'.slots ≤ e.platform.maxSlots
      omega
  · rw [State.stackLimits_setFrames]; rfl
  · rw [State.stackBytes_setFrames]; rfl
  · refine ⟨?_, Nat.le_refl _, Nat.le_refl _, ?_, ?_, fun a c9 h9 => ⟨c9, h9, rfl, rfl, fun _ _ => rfl⟩⟩
    · obtain ⟨t, ht, -⟩ := State.frames_cons hr
      show T.setVm s.vm = { ((T.setVm s.vm).setFrames (.invoking m args :: below)).setFrames (T.setVm s.vm).frames with heap := T.heap, slotsUsed := T.slotsUsed }
      rw [State.setFrames_setFrames, State.setFrames_self ht]
      rfl
    · show T.slotsUsed = T.slotsUsed + ((T.heap.toList.drop T.heap.size).map (·.slots.size)).sum
      rw [List.drop_eq_nil_of_le (Nat.le_of_eq Array.length_toList)]
      rfl
    · show ((T.heap.toList.drop T.heap.size).map (·.slots.size)).sum ≤ 0
      rw [List.drop_eq_nil_of_le (Nat.le_of_eq Array.length_toList)]
      exact Nat.le_refl _
/-- 'throw new E()': new; dup; invokespecial; athrow -/
theorem vx_throw0 {cc : ByteArray} {pc : Nat} (hexec : p.tables.exec = Jvm.exec) (hb : c.code = cc) (hl : l.stackTraces = false) {own cls : String} {names : List String} {ik ic mc ms : Nat} {A : Nat → Prop}
    (hown : s.vm.findClass own = some m.cls) (hcls : Bundle.fit cls = true) (hnames : ∀ n ∈ names, Bundle.fit n = true)
    (hk : (Cond.classLink own ik cls).before args s = true) (hini : (Cond.initialized cls).before args s = true) (hat : ∀ w ∈ vx_at0 own ic cls names, w.before args s = true)
    (hgood : ∀ w ∈ Cond.classLink own ik cls :: Cond.initialized cls :: vx_at0 own ic cls names, vx_ot w = true)
    (hU : vx_Zq Bundle.tN "UNASSIGNED_STACK" Bundle.steD A s s.heap) (hN : vx_Zq Bundle.tN "SUPPRESSED_SENTINEL" Bundle.listD A s s.heap) (hS : va_S A s.heap H locs) (hsize : ls.size = c.maxLocals)
    (d0 : decode cc pc = .ok (.new ik, 3)) (d3 : decode cc (pc + 3) = .ok (.dup, 1)) (d4 : decode cc (pc + 4) = .ok (.invokespecial ic, 3)) (d7 : decode cc (pc + 7) = .ok (.athrow, 1))
    (hout : ∀ x ∈ c.exceptionTable.toList, covers x (pc + 7) = false)
    (hRframes : names.length + 3 < R.frames) (hRlocals : (rest.map fun v => v.category).sum + (13 * (names.length + 1) + 42) ≤ R.locals) (hRcells : cells + 1 ≤ R.cells) (hRslots : slots + 6 ≤ R.slots) (hlocks : meth.locks = false)
    (hx : ∀ t : State, s.vm.Alike t.vm → H.size ≤ t.heap.size → (∀ q : Nat, q < H.size → t.heap[q]? = H[q]?) → XC cls s t)
    (hf : ∀ z ∈ locs, free z.base) (hc : cells + 1 ≤ mc) (hs : slots + 6 ≤ ms) :
    W p l e R s m args below meth c H locs cells slots (vx_MQ below Qc XC args s mc ms free) (F0 m pc ls rest) := by
  intro T hT X
  have htr : e.platform.stackTraces = false := (show e.platform.stackTraces = l.stackTraces by rw [X.admits.platform]).trans hl
  have Y := vx_rebase X (R' := { frames := R.frames, locals := R.locals, cells := 1, slots := 6 }) (Nat.le_refl _) (Nat.le_refl _) hRcells hRslots
  obtain ⟨s', hA⟩ : ∃ z, z = (T.setVm s.vm).setFrames (.invoking m args :: below) := ⟨_, rfl⟩
  rw [← hA] at Y
  have hvm : s'.vm = s.vm := by rw [hA]; rfl
  have hhp : s'.heap = H := by rw [hA]; exact hT
  have hW0 : s.WarmedH s'.vm := by rw [hvm]; exact State.WarmedH.refl s
  have hat' : ∀ w ∈ vx_at0 own ic cls names, w.before args s' = true := fun w hw => vx_ot_at hW0 hvm.symm (hgood w (List.mem_cons_of_mem _ (List.mem_cons_of_mem _ hw))) (hat w hw)
  have hk' : (Cond.classLink own ik cls).before args s' = true := vx_ot_at hW0 hvm.symm (hgood _ List.mem_cons_self) hk
  have hini' : (Cond.initialized cls).before args s' = true := vx_ot_at hW0 hvm.symm (hgood _ (List.mem_cons_of_mem _ List.mem_cons_self)) hini
  have hU' : vx_Zq Bundle.tN "UNASSIGNED_STACK" Bundle.steD A s' s'.heap := by rw [hhp]; exact vx_Zq.moved hW0.alike (hU.kept hS.2.1)
  have hN' : vx_Zq Bundle.tN "SUPPRESSED_SENTINEL" Bundle.listD A s' s'.heap := by rw [hhp]; exact vx_Zq.moved hW0.alike (hN.kept hS.2.1)
  have h : ∀ w ∈ Bundle.ownAtoms0 own ic cls names, w.before args s' = true := vx_own hat' (vx_isRefq hU'.1) (vx_isRefq hN'.1) hU'.2.word hN'.2.word
  have hown' : s'.vm.findClass own = some m.cls := by rw [hvm]; exact hown
  have hins : (Cond.instantiable cls 6).before args s' = true := h _ (by simp [Bundle.ownAtoms0])
  obtain ⟨vm₁, cX, kX, hfX, hkX, -, -, X₁, st1⟩ := Y.newCold hexec (own := own) (C := cls) (index := ik) (n := 6) hown' hk' hins hini'
    (g := F0 m pc ls rest) rfl (by rw [hb]; exact d0) (Nat.le_refl _) (Nat.le_refl _)
  generalize hT1 : (T.setVm vm₁).pushCell { cls := cX, slots := kX.instanceTypes.map defaultValue, vm := .none } = T1 at X₁ st1
  have hcat : (Value.ref T.heap.size).category = 1 := rfl
  have hcellA : T1.heap[T.heap.size]? = some (freshCell cX kX) := by rw [← hT1]; exact State.heap_pushCell_size _ _
  have d3' : decode c.code (pc + 3) = .ok (.dup, 1) := by rw [hb]; exact d3
  obtain ⟨U, hsteps, hrun, hend, hW, hsame, ce, hce, hO⟩ := X₁.ctorThrow0 hexec htr (own := own) (cls := cls) (names := names) (ic := ic) hown' hcls hnames h (fun x hx => nomatch hx) hfX hkX hcellA (by rw [hhp, hT]; exact Nat.le_refl _)
    (g := { method := m, pc := pc + 4, locals := ls, stack := .ref T.heap.size :: .ref T.heap.size :: rest, locked := none }) rfl hsize rfl rfl (rest := rest) rfl
    (by rw [hb]; exact d4) (by rw [hb]; exact d7) hout hRframes (by simp only [List.map_cons, List.sum_cons, hcat]; omega) hlocks
  obtain ⟨f1, f2⟩ := vx_frame hsame
  rw [hhp] at f1 f2
  have hWs : s.WarmedH U.vm := State.WarmedH.trans hW0 hW
  have hcl : s.vm.findClass cls = some ce.cls := by
    have h9 := hO.cls
    rw [hvm] at h9
    exact h9
  have hall : s.sameButNew ({ U with vm := s.vm } : State) locs mc ms := by
    subst hA
    obtain ⟨e1, e2⟩ := hsame
    rw [State.setFrames_setFrames] at e1
    have h2 : (T.setVm s.vm).sameButNew ({ U with vm := s.vm } : State) [] (0 + 1) (0 + 6) := ⟨e1, e2⟩
    have h3 := X.same.trans h2
    rw [List.append_nil] at h3
    exact h3.mono hc hs
  refine ⟨U, ?_, .threw T.heap.size, hrun, hend, Or.inr ⟨T.heap.size, rfl, cls, ce, locs, hx U hWs.alike f1 (fun q hq => f2 q hq (fun z hz => nomatch hz)), hce, hO.vm, hcl, hWs, hall, hf⟩⟩
  refine st1 _ ?_
  show Steps p.tables e below (T1.setTop { method := m, pc := pc + 3, locals := ls, stack := .ref T.heap.size :: rest, locked := none }) _
  jvm_step X₁.here [X₁.here.top, hexec, d3', Value.category]
  exact hsteps
/-- 'throw new E("text")': new; dup; ldc; invokespecial; athrow -/
theorem vx_throwS {cc : ByteArray} {pc : Nat} (hexec : p.tables.exec = Jvm.exec) (hb : c.code = cc) (hl : l.stackTraces = false) {own cls text : String} {names : List String} {ik is ic mc ms sa : Nat} {A : Nat → Prop}
    (hown : s.vm.findClass own = some m.cls) (hcls : Bundle.fit cls = true) (hnames : ∀ n ∈ names, Bundle.fit n = true)
    (hk : (Cond.classLink own ik cls).before args s = true) (hini : (Cond.initialized cls).before args s = true) (hstr : vk_R own is text sa s) (hat : ∀ w ∈ vx_atS own ic cls names, w.before args s = true)
    (hgood : ∀ w ∈ Cond.classLink own ik cls :: Cond.initialized cls :: vx_atS own ic cls names, vx_ot w = true)
    (hU : vx_Zq Bundle.tN "UNASSIGNED_STACK" Bundle.steD A s s.heap) (hN : vx_Zq Bundle.tN "SUPPRESSED_SENTINEL" Bundle.listD A s s.heap) (hS : va_S A s.heap H locs) (hsize : ls.size = c.maxLocals)
    (d0 : decode cc pc = .ok (.new ik, 3)) (d3 : decode cc (pc + 3) = .ok (.dup, 1)) (d4 : decode cc (pc + 4) = .ok (.ldc is, 2)) (d6 : decode cc (pc + 6) = .ok (.invokespecial ic, 3)) (d9 : decode cc (pc + 9) = .ok (.athrow, 1))
    (hout : ∀ x ∈ c.exceptionTable.toList, covers x (pc + 9) = false)
    (hRframes : names.length + 3 < R.frames) (hRlocals : (rest.map fun v => v.category).sum + (13 * (names.length + 1) + 43) ≤ R.locals) (hRcells : cells + 1 ≤ R.cells) (hRslots : slots + 6 ≤ R.slots) (hlocks : meth.locks = false)
    (hx : ∀ t : State, s.vm.Alike t.vm → H.size ≤ t.heap.size → (∀ q : Nat, q < H.size → t.heap[q]? = H[q]?) → XC cls s t)
    (hf : ∀ z ∈ locs, free z.base) (hc : cells + 1 ≤ mc) (hs : slots + 6 ≤ ms) :
    W p l e R s m args below meth c H locs cells slots (vx_MQ below Qc XC args s mc ms free) (F0 m pc ls rest) := by
  intro T hT X
  have htr : e.platform.stackTraces = false := (show e.platform.stackTraces = l.stackTraces by rw [X.admits.platform]).trans hl
  have Y := vx_rebase X (R' := { frames := R.frames, locals := R.locals, cells := 1, slots := 6 }) (Nat.le_refl _) (Nat.le_refl _) hRcells hRslots
  obtain ⟨s', hA⟩ : ∃ z, z = (T.setVm s.vm).setFrames (.invoking m args :: below) := ⟨_, rfl⟩
  rw [← hA] at Y
  have hvm : s'.vm = s.vm := by rw [hA]; rfl
  have hhp : s'.heap = H := by rw [hA]; exact hT
  have hW0 : s.WarmedH s'.vm := by rw [hvm]; exact State.WarmedH.refl s
  have hat' : ∀ w ∈ vx_atS own ic cls names, w.before args s' = true := fun w hw => vx_ot_at hW0 hvm.symm (hgood w (List.mem_cons_of_mem _ (List.mem_cons_of_mem _ hw))) (hat w hw)
  have hk' : (Cond.classLink own ik cls).before args s' = true := vx_ot_at hW0 hvm.symm (hgood _ List.mem_cons_self) hk
  have hini' : (Cond.initialized cls).before args s' = true := vx_ot_at hW0 hvm.symm (hgood _ (List.mem_cons_of_mem _ List.mem_cons_self)) hini
  have hU' : vx_Zq Bundle.tN "UNASSIGNED_STACK" Bundle.steD A s' s'.heap := by rw [hhp]; exact vx_Zq.moved hW0.alike (hU.kept hS.2.1)
  have hN' : vx_Zq Bundle.tN "SUPPRESSED_SENTINEL" Bundle.listD A s' s'.heap := by rw [hhp]; exact vx_Zq.moved hW0.alike (hN.kept hS.2.1)
  have h : ∀ w ∈ Bundle.ownAtoms own ic cls names, w.before args s' = true := vx_own hat' (vx_isRefq hU'.1) (vx_isRefq hN'.1) hU'.2.word hN'.2.word
  have hown' : s'.vm.findClass own = some m.cls := by rw [hvm]; exact hown
  have hins : (Cond.instantiable cls 6).before args s' = true := h _ (by simp [Bundle.ownAtoms])
  obtain ⟨vm₁, cX, kX, hfX, hkX, -, -, X₁, st1⟩ := Y.newCold hexec (own := own) (C := cls) (index := ik) (n := 6) hown' hk' hins hini'
    (g := F0 m pc ls rest) rfl (by rw [hb]; exact d0) (Nat.le_refl _) (Nat.le_refl _)
  generalize hT1 : (T.setVm vm₁).pushCell { cls := cX, slots := kX.instanceTypes.map defaultValue, vm := .none } = T1 at X₁ st1
  have hcat : (Value.ref T.heap.size).category = 1 := rfl
  have hcellA : T1.heap[T.heap.size]? = some (freshCell cX kX) := by rw [← hT1]; exact State.heap_pushCell_size _ _
  have d3' : decode c.code (pc + 3) = .ok (.dup, 1) := by rw [hb]; exact d3
  have d4' : decode c.code (pc + 4) = .ok (.ldc is, 2) := by rw [hb]; exact d4
  have hstr' : vk_R own is text sa s' := vk_R.warm hW0 hstr
  obtain ⟨U, hsteps, hrun, hend, hW, hsame, ce, hce, hO⟩ := X₁.ctorThrowS hexec htr (own := own) (cls := cls) (names := names) (ic := ic) hown' hcls hnames h (fun x hx => nomatch hx) hfX hkX hcellA (by rw [hhp, hT]; exact Nat.le_refl _) (msg := .ref sa) rfl
    (g := { method := m, pc := pc + 6, locals := ls, stack := .ref sa :: .ref T.heap.size :: .ref T.heap.size :: rest, locked := none }) rfl hsize rfl rfl (rest := rest) rfl
    (by rw [hb]; exact d6) (by rw [hb]; exact d9) hout hRframes (by simp only [List.map_cons, List.sum_cons, hcat]; omega) hlocks
  obtain ⟨f1, f2⟩ := vx_frame hsame
  rw [hhp] at f1 f2
  have hWs : s.WarmedH U.vm := State.WarmedH.trans hW0 hW
  have hcl : s.vm.findClass cls = some ce.cls := by
    have h9 := hO.cls
    rw [hvm] at h9
    exact h9
  have hall : s.sameButNew ({ U with vm := s.vm } : State) locs mc ms := by
    subst hA
    obtain ⟨e1, e2⟩ := hsame
    rw [State.setFrames_setFrames] at e1
    have h2 : (T.setVm s.vm).sameButNew ({ U with vm := s.vm } : State) [] (0 + 1) (0 + 6) := ⟨e1, e2⟩
    have h3 := X.same.trans h2
    rw [List.append_nil] at h3
    exact h3.mono hc hs
  refine ⟨U, ?_, .threw T.heap.size, hrun, hend, Or.inr ⟨T.heap.size, rfl, cls, ce, locs, hx U hWs.alike f1 (fun q hq => f2 q hq (fun z hz => nomatch hz)), hce, hO.vm, hcl, hWs, hall, hf⟩⟩
  refine st1 _ ?_
  show Steps p.tables e below (T1.setTop { method := m, pc := pc + 3, locals := ls, stack := .ref T.heap.size :: rest, locked := none }) _
  jvm_step X₁.here [X₁.here.top, hexec, d3', Value.category]
  exact X₁.ldcString hexec (own := own) (text := text) (index := is) (a := sa) hown' hstr'.1 hstr'.2
    (g := { method := m, pc := pc + 4, locals := ls, stack := .ref T.heap.size :: .ref T.heap.size :: rest, locked := none }) rfl d4' _ hsteps
/-- 'throw new E("text")', the text by a wide index -/
theorem vx_throwSW {cc : ByteArray} {pc : Nat} (hexec : p.tables.exec = Jvm.exec) (hb : c.code = cc) (hl : l.stackTraces = false) {own cls text : String} {names : List String} {ik is ic mc ms sa : Nat} {A : Nat → Prop}
    (hown : s.vm.findClass own = some m.cls) (hcls : Bundle.fit cls = true) (hnames : ∀ n ∈ names, Bundle.fit n = true)
    (hk : (Cond.classLink own ik cls).before args s = true) (hini : (Cond.initialized cls).before args s = true) (hstr : vk_R own is text sa s) (hat : ∀ w ∈ vx_atS own ic cls names, w.before args s = true)
    (hgood : ∀ w ∈ Cond.classLink own ik cls :: Cond.initialized cls :: vx_atS own ic cls names, vx_ot w = true)
    (hU : vx_Zq Bundle.tN "UNASSIGNED_STACK" Bundle.steD A s s.heap) (hN : vx_Zq Bundle.tN "SUPPRESSED_SENTINEL" Bundle.listD A s s.heap) (hS : va_S A s.heap H locs) (hsize : ls.size = c.maxLocals)
    (d0 : decode cc pc = .ok (.new ik, 3)) (d3 : decode cc (pc + 3) = .ok (.dup, 1)) (d4 : decode cc (pc + 4) = .ok (.ldc_w is, 3)) (d7 : decode cc (pc + 7) = .ok (.invokespecial ic, 3)) (d10 : decode cc (pc + 10) = .ok (.athrow, 1))
    (hout : ∀ x ∈ c.exceptionTable.toList, covers x (pc + 10) = false)
    (hRframes : names.length + 3 < R.frames) (hRlocals : (rest.map fun v => v.category).sum + (13 * (names.length + 1) + 43) ≤ R.locals) (hRcells : cells + 1 ≤ R.cells) (hRslots : slots + 6 ≤ R.slots) (hlocks : meth.locks = false)
    (hx : ∀ t : State, s.vm.Alike t.vm → H.size ≤ t.heap.size → (∀ q : Nat, q < H.size → t.heap[q]? = H[q]?) → XC cls s t)
    (hf : ∀ z ∈ locs, free z.base) (hc : cells + 1 ≤ mc) (hs : slots + 6 ≤ ms) :
    W p l e R s m args below meth c H locs cells slots (vx_MQ below Qc XC args s mc ms free) (F0 m pc ls rest) := by
  intro T hT X
  have htr : e.platform.stackTraces = false := (show e.platform.stackTraces = l.stackTraces by rw [X.admits.platform]).trans hl
  have Y := vx_rebase X (R' := { frames := R.frames, locals := R.locals, cells := 1, slots := 6 }) (Nat.le_refl _) (Nat.le_refl _) hRcells hRslots
  obtain ⟨s', hA⟩ : ∃ z, z = (T.setVm s.vm).setFrames (.invoking m args :: below) := ⟨_, rfl⟩
  rw [← hA] at Y
  have hvm : s'.vm = s.vm := by rw [hA]; rfl
  have hhp : s'.heap = H := by rw [hA]; exact hT
  have hW0 : s.WarmedH s'.vm := by rw [hvm]; exact State.WarmedH.refl s
  have hat' : ∀ w ∈ vx_atS own ic cls names, w.before args s' = true := fun w hw => vx_ot_at hW0 hvm.symm (hgood w (List.mem_cons_of_mem _ (List.mem_cons_of_mem _ hw))) (hat w hw)
  have hk' : (Cond.classLink own ik cls).before args s' = true := vx_ot_at hW0 hvm.symm (hgood _ List.mem_cons_self) hk
  have hini' : (Cond.initialized cls).before args s' = true := vx_ot_at hW0 hvm.symm (hgood _ (List.mem_cons_of_mem _ List.mem_cons_self)) hini
  have hU' : vx_Zq Bundle.tN "UNASSIGNED_STACK" Bundle.steD A s' s'.heap := by rw [hhp]; exact vx_Zq.moved hW0.alike (hU.kept hS.2.1)
  have hN' : vx_Zq Bundle.tN "SUPPRESSED_SENTINEL" Bundle.listD A s' s'.heap := by rw [hhp]; exact vx_Zq.moved hW0.alike (hN.kept hS.2.1)
  have h : ∀ w ∈ Bundle.ownAtoms own ic cls names, w.before args s' = true := vx_own hat' (vx_isRefq hU'.1) (vx_isRefq hN'.1) hU'.2.word hN'.2.word
  have hown' : s'.vm.findClass own = some m.cls := by rw [hvm]; exact hown
  have hins : (Cond.instantiable cls 6).before args s' = true := h _ (by simp [Bundle.ownAtoms])
  obtain ⟨vm₁, cX, kX, hfX, hkX, -, -, X₁, st1⟩ := Y.newCold hexec (own := own) (C := cls) (index := ik) (n := 6) hown' hk' hins hini'
    (g := F0 m pc ls rest) rfl (by rw [hb]; exact d0) (Nat.le_refl _) (Nat.le_refl _)
  generalize hT1 : (T.setVm vm₁).pushCell { cls := cX, slots := kX.instanceTypes.map defaultValue, vm := .none } = T1 at X₁ st1
  have hcat : (Value.ref T.heap.size).category = 1 := rfl
  have hcellA : T1.heap[T.heap.size]? = some (freshCell cX kX) := by rw [← hT1]; exact State.heap_pushCell_size _ _
  have d3' : decode c.code (pc + 3) = .ok (.dup, 1) := by rw [hb]; exact d3
  have d4' : decode c.code (pc + 4) = .ok (.ldc_w is, 3) := by rw [hb]; exact d4
  have hstr' : vk_R own is text sa s' := vk_R.warm hW0 hstr
  obtain ⟨U, hsteps, hrun, hend, hW, hsame, ce, hce, hO⟩ := X₁.ctorThrowS hexec htr (own := own) (cls := cls) (names := names) (ic := ic) hown' hcls hnames h (fun x hx => nomatch hx) hfX hkX hcellA (by rw [hhp, hT]; exact Nat.le_refl _) (msg := .ref sa) rfl
    (g := { method := m, pc := pc + 7, locals := ls, stack := .ref sa :: .ref T.heap.size :: .ref T.heap.size :: rest, locked := none }) rfl hsize rfl rfl (rest := rest) rfl
    (by rw [hb]; exact d7) (by rw [hb]; exact d10) hout hRframes (by simp only [List.map_cons, List.sum_cons, hcat]; omega) hlocks
  obtain ⟨f1, f2⟩ := vx_frame hsame
  rw [hhp] at f1 f2
  have hWs : s.WarmedH U.vm := State.WarmedH.trans hW0 hW
  have hcl : s.vm.findClass cls = some ce.cls := by
    have h9 := hO.cls
    rw [hvm] at h9
    exact h9
  have hall : s.sameButNew ({ U with vm := s.vm } : State) locs mc ms := by
    subst hA
    obtain ⟨e1, e2⟩ := hsame
    rw [State.setFrames_setFrames] at e1
    have h2 : (T.setVm s.vm).sameButNew ({ U with vm := s.vm } : State) [] (0 + 1) (0 + 6) := ⟨e1, e2⟩
    have h3 := X.same.trans h2
    rw [List.append_nil] at h3
    exact h3.mono hc hs
  refine ⟨U, ?_, .threw T.heap.size, hrun, hend, Or.inr ⟨T.heap.size, rfl, cls, ce, locs, hx U hWs.alike f1 (fun q hq => f2 q hq (fun z hz => nomatch hz)), hce, hO.vm, hcl, hWs, hall, hf⟩⟩
  refine st1 _ ?_
  show Steps p.tables e below (T1.setTop { method := m, pc := pc + 3, locals := ls, stack := .ref T.heap.size :: rest, locked := none }) _
  jvm_step X₁.here [X₁.here.top, hexec, d3', Value.category]
  exact X₁.ldcStringW hexec (own := own) (text := text) (index := is) (a := sa) hown' hstr'.1 hstr'.2
    (g := { method := m, pc := pc + 4, locals := ls, stack := .ref T.heap.size :: .ref T.heap.size :: rest, locked := none }) rfl d4' _ hsteps
end Ends
section Bodies
variable {l : Launch}
theorem vx_ofW {y : MethodName} {ws ws' : List Cond} {rm : Room} {Pc : Array Value → State → Prop} {Qc : Array Value → State → Outcome → State → Prop} {XC : String → State → State → Prop} {mc ms : Nat} {free : Addr → Prop} {cc : ByteArray} {maxL : Nat} {ret : Option FieldType}
    (hy : plainName y.cls = true) (hw : ws = Cond.code y cc maxL ret :: ws')
    (body : ∀ p e s m args below meth c s₁, BodyLoose p l y (headSpec ws rm) cc maxL ret e s m args below meth c s₁ → c.maxLocals = maxL → (∀ x ∈ c.exceptionTable.toList, False) → Pc args s →
      W p l e (headSpec ws rm).room s m args below meth c s.heap [] 0 0 (vx_MQ below Qc XC args s mc ms free) (entryFrame m args maxL)) : vx_Met l y ws rm Pc Qc XC mc ms free := by
  refine MetFree.of_bodyS (code := cc) (maxLocals := maxL) (ret := ret) hy ?_ ?_
  · intro args s m h hn
    obtain ⟨meth, c, h1, h2, h3, h4, h5, h6, -, -⟩ := Cond.code_spec hn (atoms_spec (ws := ws) h _ (by rw [hw]; exact List.mem_cons_self))
    exact ⟨meth, c, h1, h2, h3, h4, h5, h6⟩
  · intro p e s m args below meth c s₁ B hml hP _
    have hh0 : s₁.heap = s.heap := by rw [B.state]; rfl
    have ht : ∀ x ∈ c.exceptionTable.toList, False := by
      obtain ⟨meth9, c9, h1, h2, -, -, -, -, h7, -⟩ := Cond.code_spec B.named (atoms_spec (ws := ws) B.pre _ (by rw [hw]; exact List.mem_cons_self))
      cases Option.some.inj (h1.symm.trans B.method)
      cases Option.some.inj (h2.symm.trans (Stand.of_body B).code)
      intro x hx
      rw [Array.isEmpty_iff.mp h7] at hx
      cases hx
    obtain ⟨t, a1, o, b1, b2, b3⟩ := body p e s m args below meth c s₁ B hml ht hP s₁ hh0 (Stand.of_body B)
    exact ⟨t, o, a1, b1, b2, b3⟩
/-- the table of a body with handlers -/
theorem vx_table {p : Program} {x y : MethodName} {S : Spec} {cc bytes : ByteArray} {maxL maxL' : Nat} {ret ret' : Option FieldType} {e : Env} {s s₁ : State} {m : MethodId} {args : Array Value} {below : List Frame} {meth : Method} {c : Code} {hh : List (Nat × Nat × Nat × Nat)}
    (B : BodyLoose p l y S cc maxL ret e s m args below meth c s₁) (h : (Cond.codeWith y bytes maxL' ret' hh).before args s = true) : c.exceptionTable.toList = tableOf hh := by
  obtain ⟨m9, meth9, c9, hn9, h1, h2, -, -, h6, -⟩ := Cond.codeWith_spec h
  cases Option.some.inj (hn9.symm.trans B.named)
  cases Option.some.inj (h1.symm.trans B.method)
  cases Option.some.inj (h2.symm.trans (Stand.of_body B).code)
  rw [← h6, table_eq]
end Bodies
end VXA
/-! ===== END ===== -/
/-! ===== BEGIN a static call of a method with an exception table ===== -/
section VXS
variable {p : Program} {l : Launch} {e : Env} {R : Room} {s : State} {m : MethodId} {args : Array Value} {below : List Frame} {meth : Method} {c : Code} {T : State} {H : Heap} {locs : List Loc} {cells slots : Nat}
abbrev vx_CSW (R : Room) (s : State) (args : Array Value) (own : String) (index : Nat) (y : MethodName) (bytes : ByteArray) (maxL : Nat) (ret : Option FieldType) (hh : List (Nat × Nat × Nat × Nat)) (ws : List Cond) (rm : Room) (mc ms n : Nat) : Prop :=
  (rm.cells = mc ∧ rm.slots = ms ∧ rm.frames + 1 ≤ R.frames ∧ 8 + (maxL + 11) + rm.locals ≤ R.locals ∧ (∀ w ∈ ws, ∀ (a' : Array Value) (U : State), s.WarmedH U.vm → w.before a' U = true) ∧ Cond.codeWith y bytes maxL ret hh ∈ ws) ∧
  (Cond.codeWith y bytes maxL ret hh).before args s = true ∧ (Cond.initialized y.cls).before args s = true ∧ (y.cls ≠ "java/lang/invoke/MethodHandle" ∧ y.cls ≠ "java/lang/invoke/VarHandle") ∧
  (∀ sig, parseMethodDescriptor y.desc = some sig → n = sig.parameters.length) ∧ (Cond.methodLink own index y).before args s = true ∧ (Cond.static y).before args s = true
theorem vx_cwSW {own : String} {index maxL mc ms : Nat} {y : MethodName} {bytes : ByteArray} {ret : Option FieldType} {hh : List (Nat × Nat × Nat × Nat)} {Ts ws ws' : List Cond} {rm : Room} (n : Nat) (ht : ∀ w ∈ Ts, w.before args s = true) (hT : GoodIn Ts (va_wsS own index y ws)) (hw : ws = Cond.codeWith y bytes maxL ret hh :: ws') (hrc : rm.cells = mc) (hrs : rm.slots = ms)
    (hd : y.cls ≠ "java/lang/invoke/MethodHandle" ∧ y.cls ≠ "java/lang/invoke/VarHandle" ∧ (parseMethodDescriptor y.desc).map (fun d => d.parameters.length) = some n) (hR : rm.frames + 1 ≤ R.frames ∧ 8 + (maxL + 11) + rm.locals ≤ R.locals) :
    vx_CSW R s args own index y bytes maxL ret hh ws rm mc ms n := by
  have ok : ∀ w ∈ va_wsS own index y ws, w.before args s = true := fun w h => ht w (hT w h).1
  have hG : GoodIn Ts ws := fun w h => hT w (by unfold va_wsS; exact List.mem_append_right _ h)
  have hc : Cond.codeWith y bytes maxL ret hh ∈ ws := by rw [hw]; exact List.mem_cons_self
  refine ⟨⟨hrc, hrs, hR.1, hR.2, pay_in ht hG, hc⟩, ht _ (hG _ hc).1, ok _ (by simp [va_wsS]), ⟨hd.1, hd.2.1⟩, fun sig h => ?_, ok _ (by simp [va_wsS]), ok _ (by simp [va_wsS])⟩
  have h2 := hd.2.2
  rw [h] at h2
  exact (Option.some.inj h2).symm
theorem vx_callSW (X : Stand p l e R s m args below meth c T locs cells slots) (hexec : p.tables.exec = Jvm.exec) {own : String} {index : Nat} {y : MethodName} {bytes : ByteArray} {maxL : Nat} {ret : Option FieldType} {hh : List (Nat × Nat × Nat × Nat)}
    (hown : s.vm.findClass own = some m.cls) (hlink : (Cond.methodLink own index y).before args s = true) (hstat : (Cond.static y).before args s = true) (hinit : (Cond.initialized y.cls).before args s = true)
    (hcode : (Cond.codeWith y bytes maxL ret hh).before args s = true) (hy : y.cls ≠ "java/lang/invoke/MethodHandle" ∧ y.cls ≠ "java/lang/invoke/VarHandle")
    {W9 : Nat} {Pre : Pt → Array Value → Prop} {Post : Pt → Array Value → Option Value → Pt → Prop} (hK : Back l R p e below s args y 3 W9 Pre Post)
    {g : JFrame} (hg : g.method = m) (hsize : g.locals.size = c.maxLocals) {argsL rest : List Value} (hlen : ∀ sig, parseMethodDescriptor y.desc = some sig → argsL.length = sig.parameters.length)
    (hstack : g.stack = argsL.reverse ++ rest) (hW : 2 * g.monitorRoom + (rest.map fun v => v.category).sum ≤ W9) (hdg : decode c.code g.pc = .ok (.invokestatic index, 3))
    (hpre : ∀ vm₁, s.WarmedH vm₁ → Pre ⟨T.setVm vm₁, locs, cells, slots⟩ argsL.toArray) :
    ∃ (v : Option Value) (vm₁ : Vm) (B : Pt), s.WarmedH vm₁ ∧ Stand p l e R s m args below meth c B.U B.locs B.cells B.slots ∧ Post ⟨T.setVm vm₁, locs, cells, slots⟩ argsL.toArray v B ∧
      ∀ target, Steps p.tables e below (B.U.setTop { g with pc := g.pc + 3, stack := v.toList ++ rest }) target → Steps p.tables e below (T.setTop g) target := by
  obtain ⟨mk, methM, cM, hnamed, hmethM, -, -, -, -, -, -, hsigM⟩ := Cond.codeWith_spec hcode
  have hstatic : methM.isStatic = true := Cond.static_spec hnamed hmethM hstat
  obtain ⟨kP, hkP, -⟩ := className_of_methodNamed hnamed
  have hinitP : kP.init = .initialized := Cond.initialized_spec (findClass_of_methodNamed hnamed) hkP hinit
  obtain ⟨vm₁, X₁, hstep₁⟩ := X.invokestatic hexec hown hlink hnamed hmethM hstatic hkP hinitP hy (g := g) hg (argsL := argsL) (rest := rest) (hlen _ hsigM) hstack hdg
  obtain ⟨v, B, X', hpost, hsteps⟩ := hK m meth c ⟨T.setVm vm₁, locs, cells, slots⟩ { g with stack := rest } (.invokestatic index) mk argsL.toArray X₁ hg hsize hdg hW (X₁.named hnamed) (hpre vm₁ X₁.warmed)
  exact ⟨v, vm₁, B, X₁.warmed, X', hpost, fun target h => hstep₁ _ fun acts => by rw [doInvoke_state]; exact hsteps.trans h⟩
theorem vx_runSW {y : MethodName} {bytes cc : ByteArray} {maxL nL mc ms n index : Nat} {ret : Option FieldType} {hh : List (Nat × Nat × Nat × Nat)} {ws : List Cond} {rm : Room} {Pc : Array Value → State → Prop} {Qc : Array Value → State → Outcome → State → Prop} {free : Addr → Prop} {Ts : List Cond} {own : String} {As rest : List Value} {g : JFrame}
    (S : CallFix p m c cc nL s args Ts own) (hM : Met l y ws rm Pc Qc mc ms free) (cw : vx_CSW R s args own index y bytes maxL ret hh ws rm mc ms n) (hp : PreS s H Pc As)
    (hg : g.method = m) (hn : As.length = n) (hsize : g.locals.size = nL) (hstack : g.stack = As.reverse ++ rest) (hW : 2 * g.monitorRoom + (rest.map fun v => v.category).sum ≤ 8) (hdg : decode cc g.pc = .ok (.invokestatic index, 3)) (hf : cells + mc ≤ R.cells ∧ slots + ms ≤ R.slots) :
    va_Run p l e R s m args below meth c H locs cells slots mc ms g rest (Qc As.toArray) (free) := by
  obtain ⟨⟨hrc, hrs, hfr, hlo, hws, hcw⟩, hcode, hini, hy, hlen, hl, hstt⟩ := cw
  have hK : Back l R p e below s args y 3 8 (PreOf R mc ms Pc) (PostOf Qc mc ms free) := va_backW (hh := hh) (bytes := bytes) (maxL := maxL) (ret := ret) hM hp.1 hrc hrs hfr hlo hws hcw (fun a' U hW => word_at hW (Or.inl (by first | rfl | simp [Cond.onTables, Cond.keeps, Cond.steady])) hini)
  obtain ⟨hx, hb, hml, ho, -⟩ := S
  intro T hT X
  obtain ⟨v, vm₁, ⟨U', l2, c2, s2⟩, hW₁, X', ⟨g', mk, t, L, e1, e2, hq, h1, hL, h2, h3⟩, st⟩ := vx_callSW X hx (hh := hh) (bytes := bytes) (maxL := maxL) (ret := ret) ho hl hstt hini hcode hy hK hg (hsize.trans hml.symm) (argsL := As) (rest := rest) (fun sig h => hn.trans (hlen sig h)) hstack hW (by rw [hb]; exact hdg)
    (fun vm₁ hW₁ => ⟨hf.1, hf.2, hp.2 (T.setVm vm₁) hT hW₁⟩)
  dsimp only [Pt.U, Pt.locs, Pt.cells, Pt.slots] at X' e1 e2 h1 h2 h3 st
  subst h1; subst h2; subst h3
  exact ⟨v, (T.setVm vm₁).calling g' mk As.toArray, t, U', L, hT, X', hL, e1, e2, hq, st⟩
/-- not caught here, past rows that name other classes: it goes on to the caller -/
theorem vx_outP {p : Program} {l : Launch} {e : Env} {R : Room} {s : State} {m : MethodId} {args : Array Value} {below : List Frame} {meth : Method} {c : Code} {H : Heap} {locs : List Loc} {cells slots : Nat} {free : Addr → Prop} {ls : Array Slot} {rest : List Value} {Qc : Array Value → State → Outcome → State → Prop} {XC : String → State → State → Prop}
    {pc : Nat} {own E : String} {ce : Cell} {q : Addr} {mc ms : Nat} (hown : s.vm.findClass own = some m.cls) (hlocks : meth.locks = false)
    (hpass : ∀ z ∈ c.exceptionTable.toList, covers z pc = false ∨ (z.catchType ≠ 0 ∧ ∃ nm : String, (Cond.classLink own z.catchType nm).before args s = true ∧ va_Nc E nm s)) (hcell : H[q]? = some ce) (hv : ce.vm = .none) (hcl : s.vm.findClass E = some ce.cls)
    (hx : ∀ t : State, t.heap = H → s.vm.Alike t.vm → XC E s t) (hf : ∀ z ∈ locs, free z.base) (hc : cells ≤ mc) (hs : slots ≤ ms) :
    vx_W p l e R s m args below meth c H locs cells slots (vx_MQ below Qc XC args s mc ms free) (F0 m pc ls rest) q := by
  intro T hT X
  have hpl : e.platform.magicAccessors = ({} : Platform).magicAccessors := by rw [X.admits.platform]
  obtain ⟨vm', hW', X', st⟩ := X.outThrough hlocks q (g := F0 m pc ls rest) rfl rfl rfl (cell := ce) (by rw [hT]; exact hcell) (by rw [hv]; rfl)
    (by obtain ⟨k9, h9, -⟩ := Vm.findClass_spec hcl; exact ⟨k9, h9⟩) (fun z hz => by
      rcases hpass z hz with h | ⟨hz0, nm, hl1, hn1⟩
      · exact Or.inl h
      · obtain ⟨c6, hc6, hcl6⟩ := Cond.classLink_spec hown hl1 e.platform hpl
        obtain ⟨a8, b8, h1, h2, h3⟩ := hn1
        cases Option.some.inj (h1.symm.trans hcl)
        cases Option.some.inj (h2.symm.trans hc6)
        exact Or.inr ⟨hz0, _, hcl6, h3⟩)
  obtain ⟨g₀, hfr⟩ := X'.frames_eq
  have hcell9 : ((T.setVm vm').setFrames (.throwing q :: below)).heap[q]? = some ce := by
    show T.heap[q]? = some ce
    rw [hT]; exact hcell
  have hend : Ended ((T.setVm vm').setFrames (.throwing q :: below)) below (.threw q) := State.frames_setFrames _ (State.cur_lt_of_frames hfr)
  refine ⟨(T.setVm vm').setFrames (.throwing q :: below), ?_, .threw q, X'.here.running, hend, Or.inr ⟨q, rfl, E, ce, locs, hx _ hT (X'.ends _).1.alike, hcell9, hv, hcl, (X'.ends _).1, (X'.ends _).2.mono hc hs, hf⟩⟩
  rw [X.pushThrowing_eq]
  exact st
/-- a thing of a world lies in the heap -/
theorem vx_lt {D : va_G} {cl : List vw_C} {ws : va_W} {H1 : Heap} (h : va_P D cl ws H1) {k : Nat} {q : Nat × va_E} (hk : ws[k]? = some q) : q.1 < H1.size := (h k q hk).lt
end VXS
/-! ===== END ===== -/
/-! ===== BEGIN methods with a table of their own: called by a name, returning or throwing ===== -/
section VXH
/-! vx_backW, vx_callVX, vx_callSX, vx_callVW, vx_runVW, vx_runVX, vx_runSX, vx_ofWH follow the same proofs as their sisters above (Free/Laws.lean, Shelf42/LK1.lean); vx_outP calls Shelf42/NT130.lean (outThrough). -/
section
variable {l : Launch} {R : Room} {p : Program} {e : Env} {below : List Frame} {s : State} {sargs : Array Value} {y : MethodName} {len W9 : Nat}
theorem vx_backW {ws : List Cond} {rm : Room} {Pc : Array Value → State → Prop} {Qc : Array Value → State → Outcome → State → Prop} {XC : String → State → State → Prop} {mc ms : Nat} {free : Addr → Prop} {bytes : ByteArray} {maxL : Nat} {ret : Option FieldType} {hh : List (Nat × Nat × Nat × Nat)}
    (hM : vx_Met l y ws rm Pc Qc XC mc ms free) (hblind : FrameBlind Pc) (hrc : rm.cells = mc) (hrs : rm.slots = ms)
    (hframes : rm.frames + 1 ≤ R.frames) (hlocals : W9 + (maxL + 11) + rm.locals ≤ R.locals)
    (hws : ∀ w ∈ ws, ∀ a' U, s.WarmedH U.vm → w.before a' U = true) (hcode : Cond.codeWith y bytes maxL ret hh ∈ ws) (hinit : ∀ a' U, s.WarmedH U.vm → (Cond.initialized y.cls).before a' U = true) :
    vx_Back l R p e below s sargs y len W9 (PreOf R mc ms Pc) (PostOf Qc mc ms free) (vx_Post XC mc ms free) := by
  intro m meth c A g ig mk a X hg hsize hdg hW hn hp
  have h1 : (headSpec ws rm).pre.before a A.U = true := atoms_intro fun w hw => hws w hw _ _ X.warmed
  have h2 : (Cond.codeWith y bytes maxL ret hh).before a A.U = true := hws _ hcode _ _ X.warmed
  have h3 : (Cond.initialized y.cls).before a A.U = true := hinit _ _ X.warmed
  have h4 : A.cells + (headSpec ws rm).room.cells ≤ R.cells := by rw [show (headSpec ws rm).room.cells = mc from hrc]; exact hp.1
  have h5 : A.slots + (headSpec ws rm).room.slots ≤ R.slots := by rw [show (headSpec ws rm).room.slots = ms from hrs]; exact hp.2.1
  have hPc : Pc a (A.U.calling g mk a) := hblind _ _ _ _ hp.2.2
  obtain ⟨U, Ls, c0, s0⟩ := A
  dsimp only [Pt.U, Pt.locs, Pt.cells, Pt.slots] at h1 h2 h3 h4 h5 X hn hPc ⊢
  obtain ⟨m9, methY, cY, hn9, hmY, hcY, -, hlY, -⟩ := Cond.codeWith_spec h2
  cases Option.some.inj (hn9.symm.trans hn)
  obtain ⟨kY, hkY, -⟩ := className_of_methodNamed hn
  have hinitY : kY.init = .initialized := Cond.initialized_spec (findClass_of_methodNamed hn) hkY h3
  have h : At U g.method c below := by rw [hg]; exact X.here
  have hlocals9 : W9 + (maxL + 11) + (headSpec ws rm).room.locals ≤ R.locals := hlocals
  have happ : (headSpec ws rm).appliesLoose y e.platform (U.calling g mk a) = true :=
    Spec.appliesLoose_calling (g := g) h hdg hn hkY hinitY
      (X.room_calling (g := g) (R' := (headSpec ws rm).room) hsize hmY hcY hframes (by rw [hlY]; omega) h4 h5) h1
  obtain ⟨mid, hmid⟩ := h.above
  have hfr : (U.setTop g).frames = (.java g :: mid) ++ below := by rw [State.frames_setTop' g h.top, hmid]; rfl
  obtain ⟨o, s₂, hsteps, -, hend, hq⟩ := Steps.callFree hM p X.admits X.cas X.clock (acts := []) hfr happ hPc trivial
  have hq' : vx_Q Qc XC mc ms free a (U.calling g mk a) o s₂ := hq
  rw [State.frames_setTop' g h.top] at hend
  obtain ⟨g₀, hg0⟩ := Option.isSome_iff_exists.mp h.top
  obtain ⟨r, hr⟩ := State.topJava?_eq_some.mp hg0
  have hr' : (({ U with heap := s₂.heap, slotsUsed := s₂.slotsUsed } : State).setVm s₂.vm).frames = .java g₀ :: r := hr
  rcases hq' with ⟨hqc, L, hfe, hL⟩ | ⟨q, rfl, E, ce, L, hx, hce, hcv, hcl, hW₂, hsm, hL⟩
  · obtain ⟨⟨v, rfl⟩, hW₂, e2, q2, q3, q4, q5, q6⟩ := id hfe
    have e3 : s₂ = ({ (U.calling g mk a).setFrames s₂.frames with heap := s₂.heap, slotsUsed := s₂.slotsUsed } : State).setVm s₂.vm := by
      have : s₂ = ({ s₂ with vm := (U.calling g mk a).vm } : State).setVm s₂.vm := rfl
      rw [e2] at this
      exact this
    obtain ⟨c₂, i₂, len₂, hc₂, hd₂, hf₂⟩ := hend
    have hW' : U.WarmedH s₂.vm := hW₂
    have hcc : c₂ = c := by
      have h1 : s₂.code? g.method = U.code? g.method := by
        rw [State.code?_eq, State.code?_eq, hW'.alike.method?]
      exact Option.some.inj (hc₂.symm.trans (h1.trans h.code))
    subst hcc
    have hlen : len₂ = len := by rw [hdg] at hd₂; cases hd₂; rfl
    subst hlen
    have hs₂ : s₂ = (({ U with heap := s₂.heap, slotsUsed := s₂.slotsUsed } : State).setVm s₂.vm).setTop { g with pc := g.pc + len₂, stack := v.toList ++ g.stack } := by
      refine e3.trans ?_
      rw [hf₂, State.calling_eq h.top, State.setFrames_setFrames, State.setTop_of_frames _ hr', hr]
      rfl
    have hsame : U.sameButNew ({ U with heap := s₂.heap, slotsUsed := s₂.slotsUsed } : State) L mc ms := by
      refine ⟨?_, q2, q3, q4, q5, q6⟩
      obtain ⟨t, ht, -⟩ := State.frames_cons hr
      show ({ U with heap := s₂.heap, slotsUsed := s₂.slotsUsed } : State) = { U.setFrames U.frames with heap := s₂.heap, slotsUsed := s₂.slotsUsed }
      rw [State.setFrames_self ht]
    subst hg
    refine Or.inl ⟨v, ⟨(({ U with heap := s₂.heap, slotsUsed := s₂.slotsUsed } : State).setVm s₂.vm), Ls ++ L, c0 + mc, s0 + ms⟩,
      ⟨X.admits, X.cas, X.clock, X.frames, X.room, X.hears, X.method, X.code, (X.here.setHeapUsed s₂.heap s₂.slotsUsed).setVm hW'.alike, X.tail, State.WarmedH.trans X.warmed hW', X.limits, X.bytes, X.same.trans (hsame.setVm s.vm)⟩,
      ⟨g, mk, s₂, L, rfl, rfl, hqc, rfl, hL, rfl, rfl⟩, ?_⟩
    show Steps p.tables e below _ ((({ U with heap := s₂.heap, slotsUsed := s₂.slotsUsed } : State).setVm s₂.vm).setTop { g with pc := g.pc + len₂, stack := v.toList ++ g.stack })
    rw [← hs₂]
    exact hsteps
  · obtain ⟨e2, q2, q3, q4, q5, q6⟩ := id hsm
    have e3 : s₂ = ({ (U.calling g mk a).setFrames s₂.frames with heap := s₂.heap, slotsUsed := s₂.slotsUsed } : State).setVm s₂.vm := by
      have : s₂ = ({ s₂ with vm := (U.calling g mk a).vm } : State).setVm s₂.vm := rfl
      rw [e2] at this
      exact this
    have hf₂ : s₂.frames = .throwing q :: .java g :: U.frames.tail := hend
    have hW' : U.WarmedH s₂.vm := hW₂
    have hs₂ : s₂ = ((({ U with heap := s₂.heap, slotsUsed := s₂.slotsUsed } : State).setVm s₂.vm).setTop g).pushFrame (.throwing q) := by
      refine e3.trans ?_
      rw [hf₂, State.calling_eq h.top, State.setFrames_setFrames, State.pushFrame, State.frames_setTop _ hr', State.setTop_of_frames _ hr', State.setFrames_setFrames, hr]
      rfl
    have hsame : U.sameButNew ({ U with heap := s₂.heap, slotsUsed := s₂.slotsUsed } : State) L mc ms := by
      refine ⟨?_, q2, q3, q4, q5, q6⟩
      obtain ⟨t, ht, -⟩ := State.frames_cons hr
      show ({ U with heap := s₂.heap, slotsUsed := s₂.slotsUsed } : State) = { U.setFrames U.frames with heap := s₂.heap, slotsUsed := s₂.slotsUsed }
      rw [State.setFrames_self ht]
    subst hg
    refine Or.inr ⟨q, ⟨(({ U with heap := s₂.heap, slotsUsed := s₂.slotsUsed } : State).setVm s₂.vm), Ls ++ L, c0 + mc, s0 + ms⟩,
      ⟨X.admits, X.cas, X.clock, X.frames, X.room, X.hears, X.method, X.code, (X.here.setHeapUsed s₂.heap s₂.slotsUsed).setVm hW'.alike, X.tail, State.WarmedH.trans X.warmed hW', X.limits, X.bytes, X.same.trans (hsame.setVm s.vm)⟩,
      ⟨g, mk, s₂, L, E, ce, rfl, rfl, hx, hce, hcv, hcl, rfl, hL, rfl, rfl⟩, ?_⟩
    show Steps p.tables e below _ (((({ U with heap := s₂.heap, slotsUsed := s₂.slotsUsed } : State).setVm s₂.vm).setTop g).pushFrame (.throwing q))
    rw [← hs₂]
    exact hsteps
end
variable {p : Program} {l : Launch} {e : Env} {R : Room} {s : State} {m : MethodId} {args : Array Value} {below : List Frame} {meth : Method} {c : Code} {T : State} {H : Heap} {locs : List Loc} {cells slots : Nat}
theorem vx_callVX (X : Stand p l e R s m args below meth c T locs cells slots) (hexec : p.tables.exec = Jvm.exec) {own C : String} {index : Nat} {y : MethodName} {bytes : ByteArray} {maxL : Nat} {ret : Option FieldType} {hh : List (Nat × Nat × Nat × Nat)}
    (hown : s.vm.findClass own = some m.cls) (hlink : (Cond.methodLink own index y).before args s = true) (hinst : (Cond.instanceMethod y).before args s = true) (hsel : (Cond.selects C y y).before args s = true)
    (hcode : (Cond.codeWith y bytes maxL ret hh).before args s = true) (hy : y.cls ≠ "java/lang/invoke/MethodHandle" ∧ y.cls ≠ "java/lang/invoke/VarHandle")
    {W9 : Nat} {Pre : Pt → Array Value → Prop} {Post : Pt → Array Value → Option Value → Pt → Prop} {PostX : Pt → Array Value → Addr → Pt → Prop} (hK : vx_Back l R p e below s args y 3 W9 Pre Post PostX)
    {b : Addr} {cellB : Cell} (hcell : T.heap[b]? = some cellB) (hobj : cellB.vm.isStatics = false) (hcls : s.vm.findClass C = some cellB.cls)
    {g : JFrame} (hg : g.method = m) (hsize : g.locals.size = c.maxLocals) {argsL rest : List Value} (hlen : ∀ sig, parseMethodDescriptor y.desc = some sig → argsL.length = sig.parameters.length)
    (hstack : g.stack = argsL.reverse ++ .ref b :: rest) (hW : 2 * g.monitorRoom + (rest.map fun v => v.category).sum ≤ W9) (hdg : decode c.code g.pc = .ok (.invokevirtual index, 3))
    (hpre : ∀ vm₁, s.WarmedH vm₁ → Pre ⟨T.setVm vm₁, locs, cells, slots⟩ (Value.ref b :: argsL).toArray) :
    (∃ (v : Option Value) (vm₁ : Vm) (B : Pt), s.WarmedH vm₁ ∧ Stand p l e R s m args below meth c B.U B.locs B.cells B.slots ∧ Post ⟨T.setVm vm₁, locs, cells, slots⟩ (Value.ref b :: argsL).toArray v B ∧
      ∀ target, Steps p.tables e below (B.U.setTop { g with pc := g.pc + 3, stack := v.toList ++ rest }) target → Steps p.tables e below (T.setTop g) target) ∨
    (∃ (q : Addr) (vm₁ : Vm) (B : Pt), s.WarmedH vm₁ ∧ Stand p l e R s m args below meth c B.U B.locs B.cells B.slots ∧ PostX ⟨T.setVm vm₁, locs, cells, slots⟩ (Value.ref b :: argsL).toArray q B ∧
      Steps p.tables e below (T.setTop g) ((B.U.setTop { g with stack := rest }).pushFrame (.throwing q))) := by
  obtain ⟨mk, methM, hnamed, hmethM, hstM, habM⟩ := Cond.instanceMethod_spec hinst
  obtain ⟨m8, methM', cM, hn8, hmethM', -, -, -, -, -, -, hsigM⟩ := Cond.codeWith_spec hcode
  cases Option.some.inj (hn8.symm.trans hnamed)
  cases hmethM.symm.trans hmethM'
  obtain ⟨c2, r2, m2, q1, q2, q3, q4, kP, hkP, hkPi⟩ := Cond.selects_spec hsel
  cases hcls.symm.trans q1
  cases (State.methodFound?_of_named hnamed hy).symm.trans q2
  cases hnamed.symm.trans q3
  have hselP : selectMethod e.platform s.vm cellB.cls mk = .method mk := by rw [Launch.admits_selectMethod X.admits]; exact q4
  obtain ⟨vm₁, X₁, hstep₁⟩ := X.invokevirtual hexec hown hlink hnamed hmethM hstM hkP hkPi hy (a := b) (cell := cellB) hcell
    (fun z h => by rw [h] at hobj; cases hobj) hselP hmethM habM hkP hkPi (g := g) hg (argsL := argsL) (rest := rest) (hlen _ hsigM) hstack hdg
  rcases hK m meth c ⟨T.setVm vm₁, locs, cells, slots⟩ { g with stack := rest } (.invokevirtual index) mk (Value.ref b :: argsL).toArray X₁ hg hsize hdg hW (X₁.named hnamed) (hpre vm₁ X₁.warmed) with ⟨v, B, X', hpost, hsteps⟩ | ⟨q, B, X', hpost, hsteps⟩
  · exact Or.inl ⟨v, vm₁, B, X₁.warmed, X', hpost, fun target h => hstep₁ _ fun acts => by rw [doInvoke_state]; exact hsteps.trans h⟩
  · exact Or.inr ⟨q, vm₁, B, X₁.warmed, X', hpost, hstep₁ _ fun acts => by rw [doInvoke_state]; exact hsteps⟩
theorem vx_callSX (X : Stand p l e R s m args below meth c T locs cells slots) (hexec : p.tables.exec = Jvm.exec) {own : String} {index : Nat} {y : MethodName} {bytes : ByteArray} {maxL : Nat} {ret : Option FieldType} {hh : List (Nat × Nat × Nat × Nat)}
    (hown : s.vm.findClass own = some m.cls) (hlink : (Cond.methodLink own index y).before args s = true) (hstat : (Cond.static y).before args s = true) (hinit : (Cond.initialized y.cls).before args s = true)
    (hcode : (Cond.codeWith y bytes maxL ret hh).before args s = true) (hy : y.cls ≠ "java/lang/invoke/MethodHandle" ∧ y.cls ≠ "java/lang/invoke/VarHandle")
    {W9 : Nat} {Pre : Pt → Array Value → Prop} {Post : Pt → Array Value → Option Value → Pt → Prop} {PostX : Pt → Array Value → Addr → Pt → Prop} (hK : vx_Back l R p e below s args y 3 W9 Pre Post PostX)
    {g : JFrame} (hg : g.method = m) (hsize : g.locals.size = c.maxLocals) {argsL rest : List Value} (hlen : ∀ sig, parseMethodDescriptor y.desc = some sig → argsL.length = sig.parameters.length)
    (hstack : g.stack = argsL.reverse ++ rest) (hW : 2 * g.monitorRoom + (rest.map fun v => v.category).sum ≤ W9) (hdg : decode c.code g.pc = .ok (.invokestatic index, 3))
    (hpre : ∀ vm₁, s.WarmedH vm₁ → Pre ⟨T.setVm vm₁, locs, cells, slots⟩ argsL.toArray) :
    (∃ (v : Option Value) (vm₁ : Vm) (B : Pt), s.WarmedH vm₁ ∧ Stand p l e R s m args below meth c B.U B.locs B.cells B.slots ∧ Post ⟨T.setVm vm₁, locs, cells, slots⟩ argsL.toArray v B ∧
      ∀ target, Steps p.tables e below (B.U.setTop { g with pc := g.pc + 3, stack := v.toList ++ rest }) target → Steps p.tables e below (T.setTop g) target) ∨
    (∃ (q : Addr) (vm₁ : Vm) (B : Pt), s.WarmedH vm₁ ∧ Stand p l e R s m args below meth c B.U B.locs B.cells B.slots ∧ PostX ⟨T.setVm vm₁, locs, cells, slots⟩ argsL.toArray q B ∧
      Steps p.tables e below (T.setTop g) ((B.U.setTop { g with stack := rest }).pushFrame (.throwing q))) := by
  obtain ⟨mk, methM, cM, hnamed, hmethM, -, -, -, -, -, -, hsigM⟩ := Cond.codeWith_spec hcode
  have hstatic : methM.isStatic = true := Cond.static_spec hnamed hmethM hstat
  obtain ⟨kP, hkP, -⟩ := className_of_methodNamed hnamed
  have hinitP : kP.init = .initialized := Cond.initialized_spec (findClass_of_methodNamed hnamed) hkP hinit
  obtain ⟨vm₁, X₁, hstep₁⟩ := X.invokestatic hexec hown hlink hnamed hmethM hstatic hkP hinitP hy (g := g) hg (argsL := argsL) (rest := rest) (hlen _ hsigM) hstack hdg
  rcases hK m meth c ⟨T.setVm vm₁, locs, cells, slots⟩ { g with stack := rest } (.invokestatic index) mk argsL.toArray X₁ hg hsize hdg hW (X₁.named hnamed) (hpre vm₁ X₁.warmed) with ⟨v, B, X', hpost, hsteps⟩ | ⟨q, B, X', hpost, hsteps⟩
  · exact Or.inl ⟨v, vm₁, B, X₁.warmed, X', hpost, fun target h => hstep₁ _ fun acts => by rw [doInvoke_state]; exact hsteps.trans h⟩
  · exact Or.inr ⟨q, vm₁, B, X₁.warmed, X', hpost, hstep₁ _ fun acts => by rw [doInvoke_state]; exact hsteps⟩
theorem vx_callVW (X : Stand p l e R s m args below meth c T locs cells slots) (hexec : p.tables.exec = Jvm.exec) {own C : String} {index : Nat} {y : MethodName} {bytes : ByteArray} {maxL : Nat} {ret : Option FieldType} {hh : List (Nat × Nat × Nat × Nat)}
    (hown : s.vm.findClass own = some m.cls) (hlink : (Cond.methodLink own index y).before args s = true) (hinst : (Cond.instanceMethod y).before args s = true) (hsel : (Cond.selects C y y).before args s = true)
    (hcode : (Cond.codeWith y bytes maxL ret hh).before args s = true) (hy : y.cls ≠ "java/lang/invoke/MethodHandle" ∧ y.cls ≠ "java/lang/invoke/VarHandle")
    {W9 : Nat} {Pre : Pt → Array Value → Prop} {Post : Pt → Array Value → Option Value → Pt → Prop} (hK : Back l R p e below s args y 3 W9 Pre Post)
    {b : Addr} {cellB : Cell} (hcell : T.heap[b]? = some cellB) (hobj : cellB.vm.isStatics = false) (hcls : s.vm.findClass C = some cellB.cls)
    {g : JFrame} (hg : g.method = m) (hsize : g.locals.size = c.maxLocals) {argsL rest : List Value} (hlen : ∀ sig, parseMethodDescriptor y.desc = some sig → argsL.length = sig.parameters.length)
    (hstack : g.stack = argsL.reverse ++ .ref b :: rest) (hW : 2 * g.monitorRoom + (rest.map fun v => v.category).sum ≤ W9) (hdg : decode c.code g.pc = .ok (.invokevirtual index, 3))
    (hpre : ∀ vm₁, s.WarmedH vm₁ → Pre ⟨T.setVm vm₁, locs, cells, slots⟩ (Value.ref b :: argsL).toArray) :
    ∃ (v : Option Value) (vm₁ : Vm) (B : Pt), s.WarmedH vm₁ ∧ Stand p l e R s m args below meth c B.U B.locs B.cells B.slots ∧ Post ⟨T.setVm vm₁, locs, cells, slots⟩ (Value.ref b :: argsL).toArray v B ∧
      ∀ target, Steps p.tables e below (B.U.setTop { g with pc := g.pc + 3, stack := v.toList ++ rest }) target → Steps p.tables e below (T.setTop g) target := by
  obtain ⟨mk, methM, hnamed, hmethM, hstM, habM⟩ := Cond.instanceMethod_spec hinst
  obtain ⟨m8, methM', cM, hn8, hmethM', -, -, -, -, -, -, hsigM⟩ := Cond.codeWith_spec hcode
  cases Option.some.inj (hn8.symm.trans hnamed)
  cases hmethM.symm.trans hmethM'
  obtain ⟨c2, r2, m2, q1, q2, q3, q4, kP, hkP, hkPi⟩ := Cond.selects_spec hsel
  cases hcls.symm.trans q1
  cases (State.methodFound?_of_named hnamed hy).symm.trans q2
  cases hnamed.symm.trans q3
  have hselP : selectMethod e.platform s.vm cellB.cls mk = .method mk := by rw [Launch.admits_selectMethod X.admits]; exact q4
  obtain ⟨vm₁, X₁, hstep₁⟩ := X.invokevirtual hexec hown hlink hnamed hmethM hstM hkP hkPi hy (a := b) (cell := cellB) hcell
    (fun z h => by rw [h] at hobj; cases hobj) hselP hmethM habM hkP hkPi (g := g) hg (argsL := argsL) (rest := rest) (hlen _ hsigM) hstack hdg
  obtain ⟨v, B, X', hpost, hsteps⟩ := hK m meth c ⟨T.setVm vm₁, locs, cells, slots⟩ { g with stack := rest } (.invokevirtual index) mk (Value.ref b :: argsL).toArray X₁ hg hsize hdg hW (X₁.named hnamed) (hpre vm₁ X₁.warmed)
  exact ⟨v, vm₁, B, X₁.warmed, X', hpost, fun target h => hstep₁ _ fun acts => by rw [doInvoke_state]; exact hsteps.trans h⟩
abbrev vx_CVW (R : Room) (s : State) (args : Array Value) (own C : String) (index : Nat) (y : MethodName) (bytes : ByteArray) (maxL : Nat) (ret : Option FieldType) (hh : List (Nat × Nat × Nat × Nat)) (ws : List Cond) (rm : Room) (mc ms n : Nat) : Prop :=
  (rm.cells = mc ∧ rm.slots = ms ∧ rm.frames + 1 ≤ R.frames ∧ 8 + (maxL + 11) + rm.locals ≤ R.locals ∧ (∀ w ∈ ws, ∀ (a' : Array Value) (U : State), s.WarmedH U.vm → w.before a' U = true) ∧ Cond.codeWith y bytes maxL ret hh ∈ ws) ∧
  (Cond.codeWith y bytes maxL ret hh).before args s = true ∧ (Cond.initialized y.cls).before args s = true ∧ (y.cls ≠ "java/lang/invoke/MethodHandle" ∧ y.cls ≠ "java/lang/invoke/VarHandle") ∧
  (∀ sig, parseMethodDescriptor y.desc = some sig → n = sig.parameters.length) ∧ (Cond.methodLink own index y).before args s = true ∧ (Cond.instanceMethod y).before args s = true ∧ (Cond.selects C y y).before args s = true
theorem vx_cwVW {own C : String} {index maxL mc ms : Nat} {y : MethodName} {bytes : ByteArray} {ret : Option FieldType} {hh : List (Nat × Nat × Nat × Nat)} {Ts ws ws' : List Cond} {rm : Room} (n : Nat) (ht : ∀ w ∈ Ts, w.before args s = true) (hT : GoodIn Ts (wsV own index C y ws)) (hw : ws = Cond.codeWith y bytes maxL ret hh :: ws') (hrc : rm.cells = mc) (hrs : rm.slots = ms)
    (hd : y.cls = C ∧ y.cls ≠ "java/lang/invoke/MethodHandle" ∧ y.cls ≠ "java/lang/invoke/VarHandle" ∧ (parseMethodDescriptor y.desc).map (fun d => d.parameters.length) = some n) (hR : rm.frames + 1 ≤ R.frames ∧ 8 + (maxL + 11) + rm.locals ≤ R.locals) :
    vx_CVW R s args own C index y bytes maxL ret hh ws rm mc ms n := by
  obtain ⟨hC, hd⟩ := hd
  subst hC
  have ok : ∀ w ∈ wsV own index y.cls y ws, w.before args s = true := fun w h => ht w (hT w h).1
  have hG : GoodIn Ts ws := fun w h => hT w (by unfold wsV; exact List.mem_append_right _ h)
  have hc : Cond.codeWith y bytes maxL ret hh ∈ ws := by rw [hw]; exact List.mem_cons_self
  refine ⟨⟨hrc, hrs, hR.1, hR.2, pay_in ht hG, hc⟩, ht _ (hG _ hc).1, ok _ (by simp [wsV]), ⟨hd.1, hd.2.1⟩, fun sig h => ?_, ok _ (by simp [wsV]), ok _ (by simp [wsV]), ok _ (by simp [wsV])⟩
  have h2 := hd.2.2
  rw [h] at h2
  exact (Option.some.inj h2).symm
theorem vx_runVW {y : MethodName} {bytes cc : ByteArray} {maxL nL mc ms n index : Nat} {ret : Option FieldType} {hh : List (Nat × Nat × Nat × Nat)} {ws : List Cond} {rm : Room} {Pc : Array Value → State → Prop} {Qc : Array Value → State → Outcome → State → Prop} {free : Addr → Prop} {Ts : List Cond} {own C : String} {b : Addr} {As rest : List Value} {g : JFrame}
    (S : CallFix p m c cc nL s args Ts own) (hM : Met l y ws rm Pc Qc mc ms free) (cw : vx_CVW R s args own C index y bytes maxL ret hh ws rm mc ms n) (hp : PreV s H C b Pc As)
    (hg : g.method = m) (hn : As.length = n) (hsize : g.locals.size = nL) (hstack : g.stack = As.reverse ++ .ref b :: rest) (hW : 2 * g.monitorRoom + (rest.map fun v => v.category).sum ≤ 8) (hdg : decode cc g.pc = .ok (.invokevirtual index, 3)) (hf : cells + mc ≤ R.cells ∧ slots + ms ≤ R.slots) :
    va_Run p l e R s m args below meth c H locs cells slots mc ms g rest (Qc (Value.ref b :: As).toArray) free := by
  obtain ⟨⟨hrc, hrs, hfr, hlo, hws, hcw⟩, hcode, hini, hy, hlen, hl, hin, hse⟩ := cw
  have hK : Back l R p e below s args y 3 8 (PreOf R mc ms Pc) (PostOf Qc mc ms free) := va_backW (hh := hh) (bytes := bytes) (maxL := maxL) (ret := ret) hM hp.1 hrc hrs hfr hlo hws hcw (fun a' U hW => word_at hW (Or.inl (by first | rfl | simp [Cond.onTables, Cond.keeps, Cond.steady])) hini)
  obtain ⟨hx, hb, hml, ho, -⟩ := S
  obtain ⟨-, ⟨cellB, hcB, hoB, hclB⟩, hPc⟩ := hp
  intro T hT X
  obtain ⟨v, vm₁, ⟨U', l2, c2, s2⟩, hW₁, X', ⟨g', mk, t, L, e1, e2, hq, h1, hL, h2, h3⟩, st⟩ := vx_callVW X hx (C := C) (hh := hh) (bytes := bytes) (maxL := maxL) (ret := ret) ho hl hin hse hcode hy hK (by rw [hT]; exact hcB) hoB hclB hg (hsize.trans hml.symm) (argsL := As) (rest := rest) (fun sig h => hn.trans (hlen sig h)) hstack hW (by rw [hb]; exact hdg)
    (fun vm₁ hW₁ => ⟨hf.1, hf.2, hPc (T.setVm vm₁) hT hW₁⟩)
  dsimp only [Pt.U, Pt.locs, Pt.cells, Pt.slots] at X' e1 e2 h1 h2 h3 st
  subst h1; subst h2; subst h3
  exact ⟨v, (T.setVm vm₁).calling g' mk (Value.ref b :: As).toArray, t, U', L, hT, X', hL, e1, e2, hq, st⟩
section
variable {y : MethodName} {bytes cc : ByteArray} {maxL nL mc ms n index : Nat} {ret : Option FieldType} {ws : List Cond} {rm : Room} {Pc : Array Value → State → Prop} {Qc : Array Value → State → Outcome → State → Prop} {XC : String → State → State → Prop} {free : Addr → Prop} {Ts : List Cond} {own C : String} {b : Addr} {As rest : List Value} {g : JFrame}
theorem vx_runVX {hh : List (Nat × Nat × Nat × Nat)} (S : CallFix p m c cc nL s args Ts own) (hM : vx_Met l y ws rm Pc Qc XC mc ms free) (cw : vx_CVW R s args own C index y bytes maxL ret hh ws rm mc ms n) (hp : PreV s H C b Pc As)
    (hg : g.method = m) (hn : As.length = n) (hsize : g.locals.size = nL) (hstack : g.stack = As.reverse ++ .ref b :: rest) (hW : 2 * g.monitorRoom + (rest.map fun v => v.category).sum ≤ 8) (hdg : decode cc g.pc = .ok (.invokevirtual index, 3)) (hf : cells + mc ≤ R.cells ∧ slots + ms ≤ R.slots) :
    vx_Run p l e R s m args below meth c H locs cells slots mc ms g rest (Qc (Value.ref b :: As).toArray) XC free := by
  obtain ⟨⟨hrc, hrs, hfr, hlo, hws, hcw⟩, hcode, hini, hy, hlen, hl, hin, hse⟩ := cw
  have hK : vx_Back l R p e below s args y 3 8 (PreOf R mc ms Pc) (PostOf Qc mc ms free) (vx_Post XC mc ms free) := vx_backW (hh := hh) (bytes := bytes) (maxL := maxL) (ret := ret) hM hp.1 hrc hrs hfr hlo hws hcw (fun a' U hW => word_at hW (Or.inl (by first | rfl | simp [Cond.onTables, Cond.keeps, Cond.steady])) hini)
  obtain ⟨hx, hb, hml, ho, -⟩ := S
  obtain ⟨-, ⟨cellB, hcB, hoB, hclB⟩, hPc⟩ := hp
  intro T hT X
  rcases vx_callVX X hx (C := C) (hh := hh) (bytes := bytes) (maxL := maxL) (ret := ret) ho hl hin hse hcode hy hK (by rw [hT]; exact hcB) hoB hclB hg (hsize.trans hml.symm) (argsL := As) (rest := rest) (fun sig h => hn.trans (hlen sig h)) hstack hW (by rw [hb]; exact hdg)
    (fun vm₁ hW₁ => ⟨hf.1, hf.2, hPc (T.setVm vm₁) hT hW₁⟩) with ⟨v, vm₁, ⟨U', l2, c2, s2⟩, hW₁, X', ⟨g', mk, t, L, e1, e2, hq, h1, hL, h2, h3⟩, st⟩ | ⟨q, vm₁, ⟨U', l2, c2, s2⟩, hW₁, X', ⟨g', mk, t, L, E, ce, e1, e2, hq, hce, hcv, hcl, h1, hL, h2, h3⟩, st⟩
  · dsimp only [Pt.U, Pt.locs, Pt.cells, Pt.slots] at X' e1 e2 h1 h2 h3 st
    subst h1; subst h2; subst h3
    exact Or.inl ⟨v, (T.setVm vm₁).calling g' mk (Value.ref b :: As).toArray, t, U', L, hT, X', hL, e1, e2, hq, st⟩
  · dsimp only [Pt.U, Pt.locs, Pt.cells, Pt.slots] at X' e1 e2 h1 h2 h3 st hcl
    subst h1; subst h2; subst h3
    exact Or.inr ⟨q, (T.setVm vm₁).calling g' mk (Value.ref b :: As).toArray, t, U', L, E, ce, hT, X', hL, e1, e2, hq, hce, hcv, vx_cls hW₁ hcl, st⟩
theorem vx_runSX {hh : List (Nat × Nat × Nat × Nat)} (S : CallFix p m c cc nL s args Ts own) (hM : vx_Met l y ws rm Pc Qc XC mc ms free) (cw : vx_CSW R s args own index y bytes maxL ret hh ws rm mc ms n) (hp : PreS s H Pc As)
    (hg : g.method = m) (hn : As.length = n) (hsize : g.locals.size = nL) (hstack : g.stack = As.reverse ++ rest) (hW : 2 * g.monitorRoom + (rest.map fun v => v.category).sum ≤ 8) (hdg : decode cc g.pc = .ok (.invokestatic index, 3)) (hf : cells + mc ≤ R.cells ∧ slots + ms ≤ R.slots) :
    vx_Run p l e R s m args below meth c H locs cells slots mc ms g rest (Qc As.toArray) XC free := by
  obtain ⟨⟨hrc, hrs, hfr, hlo, hws, hcw⟩, hcode, hini, hy, hlen, hl, hstt⟩ := cw
  have hK : vx_Back l R p e below s args y 3 8 (PreOf R mc ms Pc) (PostOf Qc mc ms free) (vx_Post XC mc ms free) := vx_backW (hh := hh) (bytes := bytes) (maxL := maxL) (ret := ret) hM hp.1 hrc hrs hfr hlo hws hcw (fun a' U hW => word_at hW (Or.inl (by first | rfl | simp [Cond.onTables, Cond.keeps, Cond.steady])) hini)
  obtain ⟨hx, hb, hml, ho, -⟩ := S
  intro T hT X
  rcases vx_callSX X hx (hh := hh) (bytes := bytes) (maxL := maxL) (ret := ret) ho hl hstt hini hcode hy hK hg (hsize.trans hml.symm) (argsL := As) (rest := rest) (fun sig h => hn.trans (hlen sig h)) hstack hW (by rw [hb]; exact hdg)
    (fun vm₁ hW₁ => ⟨hf.1, hf.2, hp.2 (T.setVm vm₁) hT hW₁⟩) with ⟨v, vm₁, ⟨U', l2, c2, s2⟩, hW₁, X', ⟨g', mk, t, L, e1, e2, hq, h1, hL, h2, h3⟩, st⟩ | ⟨q, vm₁, ⟨U', l2, c2, s2⟩, hW₁, X', ⟨g', mk, t, L, E, ce, e1, e2, hq, hce, hcv, hcl, h1, hL, h2, h3⟩, st⟩
  · dsimp only [Pt.U, Pt.locs, Pt.cells, Pt.slots] at X' e1 e2 h1 h2 h3 st
    subst h1; subst h2; subst h3
    exact Or.inl ⟨v, (T.setVm vm₁).calling g' mk As.toArray, t, U', L, hT, X', hL, e1, e2, hq, st⟩
  · dsimp only [Pt.U, Pt.locs, Pt.cells, Pt.slots] at X' e1 e2 h1 h2 h3 st hcl
    subst h1; subst h2; subst h3
    exact Or.inr ⟨q, (T.setVm vm₁).calling g' mk As.toArray, t, U', L, E, ce, hT, X', hL, e1, e2, hq, hce, hcv, vx_cls hW₁ hcl, st⟩
end
end VXH
theorem vx_ofWH {l : Launch} {y : MethodName} {ws ws' : List Cond} {rm : Room} {Pc : Array Value → State → Prop} {Qc : Array Value → State → Outcome → State → Prop} {XC : String → State → State → Prop} {mc ms : Nat} {free : Addr → Prop} {cc : ByteArray} {maxL : Nat} {ret : Option FieldType} {hh : List (Nat × Nat × Nat × Nat)}
    (hy : plainName y.cls = true) (hw : ws = Cond.codeWith y cc maxL ret hh :: ws')
    (body : ∀ p e s m args below meth c s₁, BodyLoose p l y (headSpec ws rm) cc maxL ret e s m args below meth c s₁ → c.maxLocals = maxL → Pc args s →
      W p l e (headSpec ws rm).room s m args below meth c s.heap [] 0 0 (vx_MQ below Qc XC args s mc ms free) (entryFrame m args maxL)) : vx_Met l y ws rm Pc Qc XC mc ms free := by
  refine MetFree.of_bodyS (code := cc) (maxLocals := maxL) (ret := ret) hy ?_ ?_
  · intro args s m h hn
    obtain ⟨m9, meth, c, hn9, h1, h2, h3, h4, -, h5, h6, -⟩ := Cond.codeWith_spec (atoms_spec (ws := ws) h _ (by rw [hw]; exact List.mem_cons_self))
    cases hn.symm.trans hn9
    exact ⟨meth, c, h1, h2, h3, h4, h5, h6⟩
  · intro p e s m args below meth c s₁ B hml hP _
    have hh0 : s₁.heap = s.heap := by rw [B.state]; rfl
    obtain ⟨t, a1, o, b1, b2, b3⟩ := body p e s m args below meth c s₁ B hml hP s₁ hh0 (Stand.of_body B)
    exact ⟨t, o, a1, b1, b2, b3⟩
/-! ===== END ===== -/
end
section
/-! Names: words, shape of memory, classes, methods. -/
def TW : List Cond := lw_tbl.filter goodWord
theorem TW_good : ∀ w ∈ TW, goodWord w = true := fun w h => (List.mem_filter.1 h).2
theorem TW_at {n : Nat} {w : Cond} (h : lw_tbl[n]? = some w) (hg : goodWord w = true) : w ∈ TW := List.mem_filter.2 ⟨List.mem_of_getElem? h, hg⟩
def gSh : List (Nat × Nat × List Nat) := [(0, 0, [2, 3, 4, 6, 10, 15, 0, 0]), (1, 384, []), (4, 8, []), (0, 3, [5, 0]), (1, 8, []), (0, 5, [7, 8, 9]), (1, 400, []), (1, 400, []), (2, 400, []), (0, 1, [11, 12, 13, 14, 0]), (1, 6, []), (1, 6, []), (1, 6, []), (1, 6, []), (0, 2, [16, 17, 18, 19, 0, 0, 0, 0, 0, 0]), (1, 12, []), (1, 12, []), (1, 12, []), (1, 12, []), (0, 6, [0, 21, 22, 23, 24, 25, 26, 27, 28, 29, 30, 0, 0, 31, 32, 0, 0, 33, 34, 35, 36, 0, 0, 0, 0, 0, 0, 37, 38, 39, 40, 0, 0, 0, 0, 0, 0]), (1, 384, []), (2, 8, []), (1, 8, []), (1, 8, []), (1, 8, []), (1, 8, []), (1, 8, []), (1, 8, []), (1, 8, []), (1, 8, []), (1, 3072, []), (1, 384, []), (1, 7, []), (1, 7, []), (1, 7, []), (1, 7, []), (1, 12, []), (1, 12, []), (1, 12, []), (1, 12, []), (3, 1, []), (0, 4, [0, 0, 0, 0, 0, 0, 0, 0]), (0, 4, [0, 0, 0, 0, 0, 0, 0, 0]), (0, 4, [0, 0, 0, 0, 0, 0, 0, 0]), (0, 4, [0, 0, 0, 0, 0, 0, 0, 0]), (0, 4, [0, 0, 0, 0, 0, 0, 0, 0]), (0, 4, [0, 0, 0, 0, 0, 0, 0, 0]), (0, 4, [0, 0, 0, 0, 0, 0, 0, 0]), (0, 4, [0, 0, 0, 0, 0, 0, 0, 0])]
def gPB : Nat := 41
abbrev shP : List Nat := [0, 0, 0, 0, 0, 0, 0, 0]
abbrev gPn (q : Nat) : Prop := gSh[q]? = some (0, 4, shP)
def gpn (q : Nat) : Bool := decide (gPn q)
theorem gpn_of {q : Nat} (h : gpn q = true) : gPn q := of_decide_eq_true h
theorem gPn_at : ∀ w, w < 8 → gPn (gPB + w) := by decide
theorem gpn_at : ∀ w, w < 8 → gpn (gPB + w) = true := by decide
def gOUT : Nat := 40
theorem sh_0 : gSh[0]? = some (0, 0, [2, 3, 4, 6, 10, 15, 0, 0]) := rfl
theorem sh_1 : gSh[1]? = some (1, 384, []) := rfl
theorem sh_2 : gSh[2]? = some (4, 8, []) := rfl
theorem sh_3 : gSh[3]? = some (0, 3, [5, 0]) := rfl
theorem sh_4 : gSh[4]? = some (1, 8, []) := rfl
theorem sh_5 : gSh[5]? = some (0, 5, [7, 8, 9]) := rfl
theorem sh_6 : gSh[6]? = some (1, 400, []) := rfl
theorem sh_7 : gSh[7]? = some (1, 400, []) := rfl
theorem sh_8 : gSh[8]? = some (2, 400, []) := rfl
theorem sh_9 : gSh[9]? = some (0, 1, [11, 12, 13, 14, 0]) := rfl
theorem sh_10 : gSh[10]? = some (1, 6, []) := rfl
theorem sh_11 : gSh[11]? = some (1, 6, []) := rfl
theorem sh_12 : gSh[12]? = some (1, 6, []) := rfl
theorem sh_13 : gSh[13]? = some (1, 6, []) := rfl
theorem sh_14 : gSh[14]? = some (0, 2, [16, 17, 18, 19, 0, 0, 0, 0, 0, 0]) := rfl
theorem sh_15 : gSh[15]? = some (1, 12, []) := rfl
theorem sh_16 : gSh[16]? = some (1, 12, []) := rfl
theorem sh_17 : gSh[17]? = some (1, 12, []) := rfl
theorem sh_18 : gSh[18]? = some (1, 12, []) := rfl
theorem sh_19 : gSh[19]? = some (0, 6, [0, 21, 22, 23, 24, 25, 26, 27, 28, 29, 30, 0, 0, 31, 32, 0, 0, 33, 34, 35, 36, 0, 0, 0, 0, 0, 0, 37, 38, 39, 40, 0, 0, 0, 0, 0, 0]) := rfl
theorem sh_20 : gSh[20]? = some (1, 384, []) := rfl
theorem sh_21 : gSh[21]? = some (2, 8, []) := rfl
theorem sh_22 : gSh[22]? = some (1, 8, []) := rfl
theorem sh_23 : gSh[23]? = some (1, 8, []) := rfl
theorem sh_24 : gSh[24]? = some (1, 8, []) := rfl
theorem sh_25 : gSh[25]? = some (1, 8, []) := rfl
theorem sh_26 : gSh[26]? = some (1, 8, []) := rfl
theorem sh_27 : gSh[27]? = some (1, 8, []) := rfl
theorem sh_28 : gSh[28]? = some (1, 8, []) := rfl
theorem sh_29 : gSh[29]? = some (1, 8, []) := rfl
theorem sh_30 : gSh[30]? = some (1, 3072, []) := rfl
theorem sh_31 : gSh[31]? = some (1, 384, []) := rfl
theorem sh_32 : gSh[32]? = some (1, 7, []) := rfl
theorem sh_33 : gSh[33]? = some (1, 7, []) := rfl
theorem sh_34 : gSh[34]? = some (1, 7, []) := rfl
theorem sh_35 : gSh[35]? = some (1, 7, []) := rfl
theorem sh_36 : gSh[36]? = some (1, 12, []) := rfl
theorem sh_37 : gSh[37]? = some (1, 12, []) := rfl
theorem sh_38 : gSh[38]? = some (1, 12, []) := rfl
theorem sh_39 : gSh[39]? = some (1, 12, []) := rfl
theorem sh_40 : gSh[40]? = some (3, 1, []) := rfl
def gN : Nat := 1000
def F_S : u_T := fun k => match k with
  | 0 => ("PaneScreen", "shown", "[I", true)
  | 1 => ("PaneScreen", "panes", "[LPaneScreen$Pane;", true)
  | 2 => ("PaneScreen", "order", "LPaneScreen$Order;", true)
  | 3 => ("PaneScreen", "store", "LPaneScreen$Store;", true)
  | 4 => ("PaneScreen", "damage", "LPaneScreen$Damage;", true)
  | 5 => ("PaneScreen", "events", "LPaneScreen$EventLine;", true)
  | 6 => ("PaneScreen", "focus", "I", false)
  | _ => ("PaneScreen", "painted", "I", false)
def ty_S : Nat → FieldType := fun k => match k with
  | 0 => .array .int
  | 1 => .array (.object "PaneScreen$Pane")
  | 2 => .object "PaneScreen$Order"
  | 3 => .object "PaneScreen$Store"
  | 4 => .object "PaneScreen$Damage"
  | 5 => .object "PaneScreen$EventLine"
  | 6 => .int
  | _ => .int
theorem ty_S_ok : ∀ k, k < 8 → parseFieldDescriptor (F_S k).2.2.1 = some (ty_S k) := by decide +kernel
theorem nm_S : ∀ a, a < 8 → ∀ b, b < 8 → a ≠ b → (F_S a).2.1 ≠ (F_S b).2.1 := by decide +kernel
def F_D : u_T := fun k => match k with
  | 0 => ("PaneScreen$Damage", "lefts", "[I", true)
  | 1 => ("PaneScreen$Damage", "tops", "[I", true)
  | 2 => ("PaneScreen$Damage", "rights", "[I", true)
  | 3 => ("PaneScreen$Damage", "bottoms", "[I", true)
  | _ => ("PaneScreen$Damage", "count", "I", false)
def ty_D : Nat → FieldType := fun k => match k with
  | 0 => .array .int
  | 1 => .array .int
  | 2 => .array .int
  | 3 => .array .int
  | _ => .int
theorem ty_D_ok : ∀ k, k < 5 → parseFieldDescriptor (F_D k).2.2.1 = some (ty_D k) := by decide +kernel
theorem nm_D : ∀ a, a < 5 → ∀ b, b < 5 → a ≠ b → (F_D a).2.1 ≠ (F_D b).2.1 := by decide +kernel
def F_E : u_T := fun k => match k with
  | 0 => ("PaneScreen$EventLine", "kinds", "[I", true)
  | 1 => ("PaneScreen$EventLine", "windows", "[I", true)
  | 2 => ("PaneScreen$EventLine", "ones", "[I", true)
  | 3 => ("PaneScreen$EventLine", "twos", "[I", true)
  | 4 => ("PaneScreen$EventLine", "count", "I", false)
  | 5 => ("PaneScreen$EventLine", "dropped", "I", false)
  | 6 => ("PaneScreen$EventLine", "takenKind", "I", false)
  | 7 => ("PaneScreen$EventLine", "takenWindow", "I", false)
  | 8 => ("PaneScreen$EventLine", "takenOne", "I", false)
  | _ => ("PaneScreen$EventLine", "takenTwo", "I", false)
def ty_E : Nat → FieldType := fun k => match k with
  | 0 => .array .int
  | 1 => .array .int
  | 2 => .array .int
  | 3 => .array .int
  | 4 => .int
  | 5 => .int
  | 6 => .int
  | 7 => .int
  | 8 => .int
  | _ => .int
theorem ty_E_ok : ∀ k, k < 10 → parseFieldDescriptor (F_E k).2.2.1 = some (ty_E k) := by decide +kernel
theorem nm_E : ∀ a, a < 10 → ∀ b, b < 10 → a ≠ b → (F_E a).2.1 ≠ (F_E b).2.1 := by decide +kernel
def F_O : u_T := fun k => match k with
  | 0 => ("PaneScreen$Order", "windows", "[I", true)
  | _ => ("PaneScreen$Order", "count", "I", false)
def ty_O : Nat → FieldType := fun k => match k with
  | 0 => .array .int
  | _ => .int
theorem ty_O_ok : ∀ k, k < 2 → parseFieldDescriptor (F_O k).2.2.1 = some (ty_O k) := by decide +kernel
theorem nm_O : ∀ a, a < 2 → ∀ b, b < 2 → a ≠ b → (F_O a).2.1 ≠ (F_O b).2.1 := by decide +kernel
def F_P : u_T := fun k => match k with
  | 0 => ("PaneScreen$Pane", "used", "Z", false)
  | 1 => ("PaneScreen$Pane", "x", "I", false)
  | 2 => ("PaneScreen$Pane", "y", "I", false)
  | 3 => ("PaneScreen$Pane", "width", "I", false)
  | 4 => ("PaneScreen$Pane", "height", "I", false)
  | 5 => ("PaneScreen$Pane", "start", "I", false)
  | 6 => ("PaneScreen$Pane", "penU", "I", false)
  | _ => ("PaneScreen$Pane", "penV", "I", false)
def ty_P : Nat → FieldType := fun k => match k with
  | 0 => .boolean
  | 1 => .int
  | 2 => .int
  | 3 => .int
  | 4 => .int
  | 5 => .int
  | 6 => .int
  | _ => .int
theorem ty_P_ok : ∀ k, k < 8 → parseFieldDescriptor (F_P k).2.2.1 = some (ty_P k) := by decide +kernel
theorem nm_P : ∀ a, a < 8 → ∀ b, b < 8 → a ≠ b → (F_P a).2.1 ≠ (F_P b).2.1 := by decide +kernel
def F_T : u_T := fun k => match k with
  | 0 => ("PaneScreen$Store", "colours", "[I", true)
  | 1 => ("PaneScreen$Store", "old", "[I", true)
  | _ => ("PaneScreen$Store", "taken", "[Z", true)
def ty_T : Nat → FieldType := fun k => match k with
  | 0 => .array .int
  | 1 => .array .int
  | _ => .array .boolean
theorem ty_T_ok : ∀ k, k < 3 → parseFieldDescriptor (F_T k).2.2.1 = some (ty_T k) := by decide +kernel
theorem nm_T : ∀ a, a < 3 → ∀ b, b < 3 → a ≠ b → (F_T a).2.1 ≠ (F_T b).2.1 := by decide +kernel
def F_M : u_T := fun k => match k with
  | 0 => ("PaneScreenModel", "code", "I", false)
  | 1 => ("PaneScreenModel", "colours", "[I", true)
  | 2 => ("PaneScreenModel", "open", "[Z", true)
  | 3 => ("PaneScreenModel", "px", "[I", true)
  | 4 => ("PaneScreenModel", "py", "[I", true)
  | 5 => ("PaneScreenModel", "width", "[I", true)
  | 6 => ("PaneScreenModel", "height", "[I", true)
  | 7 => ("PaneScreenModel", "penU", "[I", true)
  | 8 => ("PaneScreenModel", "penV", "[I", true)
  | 9 => ("PaneScreenModel", "start", "[I", true)
  | 10 => ("PaneScreenModel", "rank", "[I", true)
  | 11 => ("PaneScreenModel", "front", "I", false)
  | 12 => ("PaneScreenModel", "back", "I", false)
  | 13 => ("PaneScreenModel", "pictures", "[I", true)
  | 14 => ("PaneScreenModel", "copy", "[I", true)
  | 15 => ("PaneScreenModel", "focus", "I", false)
  | 16 => ("PaneScreenModel", "damaged", "I", false)
  | 17 => ("PaneScreenModel", "x0", "[I", true)
  | 18 => ("PaneScreenModel", "y0", "[I", true)
  | 19 => ("PaneScreenModel", "x1", "[I", true)
  | 20 => ("PaneScreenModel", "y1", "[I", true)
  | 21 => ("PaneScreenModel", "some", "Z", false)
  | 22 => ("PaneScreenModel", "lowU", "I", false)
  | 23 => ("PaneScreenModel", "lowV", "I", false)
  | 24 => ("PaneScreenModel", "highU", "I", false)
  | 25 => ("PaneScreenModel", "highV", "I", false)
  | 26 => ("PaneScreenModel", "events", "I", false)
  | 27 => ("PaneScreenModel", "kinds", "[I", true)
  | 28 => ("PaneScreenModel", "whose", "[I", true)
  | 29 => ("PaneScreenModel", "first", "[I", true)
  | 30 => ("PaneScreenModel", "second", "[I", true)
  | 31 => ("PaneScreenModel", "taken", "Z", false)
  | 32 => ("PaneScreenModel", "takenWindow", "I", false)
  | 33 => ("PaneScreenModel", "takenFirst", "I", false)
  | 34 => ("PaneScreenModel", "takenSecond", "I", false)
  | 35 => ("PaneScreenModel", "dropped", "I", false)
  | _ => ("PaneScreenModel", "painted", "I", false)
def ty_M : Nat → FieldType := fun k => match k with
  | 0 => .int
  | 1 => .array .int
  | 2 => .array .boolean
  | 3 => .array .int
  | 4 => .array .int
  | 5 => .array .int
  | 6 => .array .int
  | 7 => .array .int
  | 8 => .array .int
  | 9 => .array .int
  | 10 => .array .int
  | 11 => .int
  | 12 => .int
  | 13 => .array .int
  | 14 => .array .int
  | 15 => .int
  | 16 => .int
  | 17 => .array .int
  | 18 => .array .int
  | 19 => .array .int
  | 20 => .array .int
  | 21 => .boolean
  | 22 => .int
  | 23 => .int
  | 24 => .int
  | 25 => .int
  | 26 => .int
  | 27 => .array .int
  | 28 => .array .int
  | 29 => .array .int
  | 30 => .array .int
  | 31 => .boolean
  | 32 => .int
  | 33 => .int
  | 34 => .int
  | 35 => .int
  | _ => .int
theorem ty_M_ok : ∀ k, k < 37 → parseFieldDescriptor (F_M k).2.2.1 = some (ty_M k) := by decide +kernel
theorem nm_M : ∀ a, a < 37 → ∀ b, b < 37 → a ≠ b → (F_M a).2.1 ≠ (F_M b).2.1 := by decide +kernel
abbrev gCl : List vw_C := [("PaneScreen", F_S, 8), ("PaneScreen$Damage", F_D, 5), ("PaneScreen$EventLine", F_E, 10), ("PaneScreen$Order", F_O, 2), ("PaneScreen$Pane", F_P, 8), ("PaneScreen$Store", F_T, 3), ("PaneScreenModel", F_M, 37)]
abbrev b_S_init : ByteArray := prog_1_method_1_code
def y_S_init : MethodName := ⟨"PaneScreen", "<init>", "()V"⟩
abbrev b_S_open : ByteArray := prog_1_method_2_code
def y_S_open : MethodName := ⟨"PaneScreen", "open", "(IIII)I"⟩
abbrev b_S_close : ByteArray := prog_1_method_3_code
def y_S_close : MethodName := ⟨"PaneScreen", "close", "(I)V"⟩
abbrev b_S_move : ByteArray := prog_1_method_4_code
def y_S_move : MethodName := ⟨"PaneScreen", "move", "(III)V"⟩
abbrev b_S_raise : ByteArray := prog_1_method_5_code
def y_S_raise : MethodName := ⟨"PaneScreen", "raise", "(IZ)Z"⟩
abbrev b_S_plot : ByteArray := prog_1_method_6_code
def y_S_plot : MethodName := ⟨"PaneScreen", "plot", "(IIII)Z"⟩
abbrev b_S_fill : ByteArray := prog_1_method_7_code
def y_S_fill : MethodName := ⟨"PaneScreen", "fill", "(IIIII)I"⟩
abbrev b_S_pen : ByteArray := prog_1_method_8_code
def y_S_pen : MethodName := ⟨"PaneScreen", "pen", "(III)V"⟩
abbrev b_S_line : ByteArray := prog_1_method_9_code
def y_S_line : MethodName := ⟨"PaneScreen", "line", "(IIII)I"⟩
abbrev b_S_scroll : ByteArray := prog_1_method_10_code
def y_S_scroll : MethodName := ⟨"PaneScreen", "scroll", "(III)V"⟩
abbrev b_S_flush : ByteArray := prog_1_method_11_code
def y_S_flush : MethodName := ⟨"PaneScreen", "flush", "()I"⟩
abbrev b_S_screen : ByteArray := prog_1_method_12_code
def y_S_screen : MethodName := ⟨"PaneScreen", "screen", "(II)I"⟩
abbrev b_S_picture : ByteArray := prog_1_method_13_code
def y_S_picture : MethodName := ⟨"PaneScreen", "picture", "(III)I"⟩
abbrev b_S_at : ByteArray := prog_1_method_14_code
def y_S_at : MethodName := ⟨"PaneScreen", "at", "(II)I"⟩
abbrev b_S_visible : ByteArray := prog_1_method_15_code
def y_S_visible : MethodName := ⟨"PaneScreen", "visible", "(I)I"⟩
abbrev b_S_click : ByteArray := prog_1_method_16_code
def y_S_click : MethodName := ⟨"PaneScreen", "click", "(II)I"⟩
abbrev b_S_key : ByteArray := prog_1_method_17_code
def y_S_key : MethodName := ⟨"PaneScreen", "key", "(I)Z"⟩
abbrev b_S_next : ByteArray := prog_1_method_18_code
def y_S_next : MethodName := ⟨"PaneScreen", "next", "()I"⟩
abbrev b_S_event : ByteArray := prog_1_method_19_code
def y_S_event : MethodName := ⟨"PaneScreen", "event", "(I)I"⟩
abbrev b_S_figure : ByteArray := prog_1_method_20_code
def y_S_figure : MethodName := ⟨"PaneScreen", "figure", "(I)I"⟩
abbrev b_S_openPane : ByteArray := prog_1_method_21_code
def y_S_openPane : MethodName := ⟨"PaneScreen", "openPane", "(I)LPaneScreen$Pane;"⟩
abbrev b_S_requireNear : ByteArray := prog_1_method_22_code
def y_S_requireNear : MethodName := ⟨"PaneScreen", "requireNear", "(II)V"⟩
abbrev b_S_requireSize : ByteArray := prog_1_method_23_code
def y_S_requireSize : MethodName := ⟨"PaneScreen", "requireSize", "(II)V"⟩
abbrev b_S_requireExtent : ByteArray := prog_1_method_24_code
def y_S_requireExtent : MethodName := ⟨"PaneScreen", "requireExtent", "(I)V"⟩
abbrev b_S_requireColour : ByteArray := prog_1_method_25_code
def y_S_requireColour : MethodName := ⟨"PaneScreen", "requireColour", "(I)V"⟩
abbrev b_S_requireOnScreen : ByteArray := prog_1_method_26_code
def y_S_requireOnScreen : MethodName := ⟨"PaneScreen", "requireOnScreen", "(II)V"⟩
abbrev b_S_leastClosed : ByteArray := prog_1_method_27_code
def y_S_leastClosed : MethodName := ⟨"PaneScreen", "leastClosed", "()I"⟩
abbrev b_S_ownerOf : ByteArray := prog_1_method_28_code
def y_S_ownerOf : MethodName := ⟨"PaneScreen", "ownerOf", "(II)I"⟩
abbrev b_S_colourBelow : ByteArray := prog_1_method_29_code
def y_S_colourBelow : MethodName := ⟨"PaneScreen", "colourBelow", "(II)I"⟩
abbrev b_S_damageFrame : ByteArray := prog_1_method_30_code
def y_S_damageFrame : MethodName := ⟨"PaneScreen", "damageFrame", "(LPaneScreen$Pane;)V"⟩
abbrev b_S_damagePart : ByteArray := prog_1_method_31_code
def y_S_damagePart : MethodName := ⟨"PaneScreen", "damagePart", "(LPaneScreen$Pane;IIII)V"⟩
abbrev b_S_reorder : ByteArray := prog_1_method_32_code
def y_S_reorder : MethodName := ⟨"PaneScreen", "reorder", "(ILPaneScreen$Pane;Z)Z"⟩
abbrev b_S_giveFocus : ByteArray := prog_1_method_33_code
def y_S_giveFocus : MethodName := ⟨"PaneScreen", "giveFocus", "(I)V"⟩
abbrev b_S_drawFromPen : ByteArray := prog_1_method_34_code
def y_S_drawFromPen : MethodName := ⟨"PaneScreen", "drawFromPen", "(LPaneScreen$Pane;III)I"⟩
abbrev b_S_stepped : ByteArray := prog_1_method_35_code
def y_S_stepped : MethodName := ⟨"PaneScreen", "stepped", "(III)I"⟩
abbrev b_M_init : ByteArray := prog_8_method_1_code
def y_M_init : MethodName := ⟨"PaneScreenModel", "<init>", "()V"⟩
abbrev b_M_thrown : ByteArray := prog_8_method_2_code
def y_M_thrown : MethodName := ⟨"PaneScreenModel", "thrown", "()I"⟩
abbrev b_M_near : ByteArray := prog_8_method_3_code
def y_M_near : MethodName := ⟨"PaneScreenModel", "near", "(I)Z"⟩
abbrev b_M_isOpen : ByteArray := prog_8_method_4_code
def y_M_isOpen : MethodName := ⟨"PaneScreenModel", "isOpen", "(I)Z"⟩
abbrev b_M_onScreen : ByteArray := prog_8_method_5_code
def y_M_onScreen : MethodName := ⟨"PaneScreenModel", "onScreen", "(II)Z"⟩
abbrev b_M_inPicture : ByteArray := prog_8_method_6_code
def y_M_inPicture : MethodName := ⟨"PaneScreenModel", "inPicture", "(III)Z"⟩
abbrev b_M_damage : ByteArray := prog_8_method_7_code
def y_M_damage : MethodName := ⟨"PaneScreenModel", "damage", "(IIII)V"⟩
abbrev b_M_damageFrame : ByteArray := prog_8_method_8_code
def y_M_damageFrame : MethodName := ⟨"PaneScreenModel", "damageFrame", "(I)V"⟩
abbrev b_M_isDamaged : ByteArray := prog_8_method_9_code
def y_M_isDamaged : MethodName := ⟨"PaneScreenModel", "isDamaged", "(II)Z"⟩
abbrev b_M_paint : ByteArray := prog_8_method_10_code
def y_M_paint : MethodName := ⟨"PaneScreenModel", "paint", "(IIII)Z"⟩
abbrev b_M_damageChanged : ByteArray := prog_8_method_11_code
def y_M_damageChanged : MethodName := ⟨"PaneScreenModel", "damageChanged", "(I)V"⟩
abbrev b_M_isFree : ByteArray := prog_8_method_12_code
def y_M_isFree : MethodName := ⟨"PaneScreenModel", "isFree", "(I)Z"⟩
abbrev b_M_stretch : ByteArray := prog_8_method_13_code
def y_M_stretch : MethodName := ⟨"PaneScreenModel", "stretch", "(I)I"⟩
abbrev b_M_firstClosed : ByteArray := prog_8_method_14_code
def y_M_firstClosed : MethodName := ⟨"PaneScreenModel", "firstClosed", "()I"⟩
abbrev b_M_open : ByteArray := prog_8_method_15_code
def y_M_open : MethodName := ⟨"PaneScreenModel", "open", "(IIII)I"⟩
abbrev b_M_foremost : ByteArray := prog_8_method_16_code
def y_M_foremost : MethodName := ⟨"PaneScreenModel", "foremost", "()I"⟩
abbrev b_M_close : ByteArray := prog_8_method_17_code
def y_M_close : MethodName := ⟨"PaneScreenModel", "close", "(I)V"⟩
abbrev b_M_move : ByteArray := prog_8_method_18_code
def y_M_move : MethodName := ⟨"PaneScreenModel", "move", "(III)V"⟩
abbrev b_M_lift : ByteArray := prog_8_method_19_code
def y_M_lift : MethodName := ⟨"PaneScreenModel", "lift", "(IZ)Z"⟩
abbrev b_M_raise : ByteArray := prog_8_method_20_code
def y_M_raise : MethodName := ⟨"PaneScreenModel", "raise", "(IZ)Z"⟩
abbrev b_M_colour : ByteArray := prog_8_method_21_code
def y_M_colour : MethodName := ⟨"PaneScreenModel", "colour", "(I)Z"⟩
abbrev b_M_plot : ByteArray := prog_8_method_22_code
def y_M_plot : MethodName := ⟨"PaneScreenModel", "plot", "(IIII)Z"⟩
abbrev b_M_fill : ByteArray := prog_8_method_23_code
def y_M_fill : MethodName := ⟨"PaneScreenModel", "fill", "(IIIII)I"⟩
abbrev b_M_pen : ByteArray := prog_8_method_24_code
def y_M_pen : MethodName := ⟨"PaneScreenModel", "pen", "(III)V"⟩
abbrev b_M_div : ByteArray := prog_8_method_25_code
def y_M_div : MethodName := ⟨"PaneScreenModel", "div", "(II)I"⟩
abbrev b_M_line : ByteArray := prog_8_method_26_code
def y_M_line : MethodName := ⟨"PaneScreenModel", "line", "(IIII)I"⟩
abbrev b_M_scroll : ByteArray := prog_8_method_27_code
def y_M_scroll : MethodName := ⟨"PaneScreenModel", "scroll", "(III)V"⟩
abbrev b_M_owner : ByteArray := prog_8_method_28_code
def y_M_owner : MethodName := ⟨"PaneScreenModel", "owner", "(II)I"⟩
abbrev b_M_flush : ByteArray := prog_8_method_29_code
def y_M_flush : MethodName := ⟨"PaneScreenModel", "flush", "()I"⟩
abbrev b_M_screen : ByteArray := prog_8_method_30_code
def y_M_screen : MethodName := ⟨"PaneScreenModel", "screen", "(II)I"⟩
abbrev b_M_picture : ByteArray := prog_8_method_31_code
def y_M_picture : MethodName := ⟨"PaneScreenModel", "picture", "(III)I"⟩
abbrev b_M_at : ByteArray := prog_8_method_32_code
def y_M_at : MethodName := ⟨"PaneScreenModel", "at", "(II)I"⟩
abbrev b_M_visible : ByteArray := prog_8_method_33_code
def y_M_visible : MethodName := ⟨"PaneScreenModel", "visible", "(I)I"⟩
abbrev b_M_moveEvent : ByteArray := prog_8_method_34_code
def y_M_moveEvent : MethodName := ⟨"PaneScreenModel", "moveEvent", "(II)V"⟩
abbrev b_M_tell : ByteArray := prog_8_method_35_code
def y_M_tell : MethodName := ⟨"PaneScreenModel", "tell", "(IIII)V"⟩
abbrev b_M_click : ByteArray := prog_8_method_36_code
def y_M_click : MethodName := ⟨"PaneScreenModel", "click", "(II)I"⟩
abbrev b_M_key : ByteArray := prog_8_method_37_code
def y_M_key : MethodName := ⟨"PaneScreenModel", "key", "(I)Z"⟩
abbrev b_M_next : ByteArray := prog_8_method_38_code
def y_M_next : MethodName := ⟨"PaneScreenModel", "next", "()I"⟩
abbrev b_M_event : ByteArray := prog_8_method_39_code
def y_M_event : MethodName := ⟨"PaneScreenModel", "event", "(I)I"⟩
abbrev b_M_freeCells : ByteArray := prog_8_method_40_code
def y_M_freeCells : MethodName := ⟨"PaneScreenModel", "freeCells", "(Z)I"⟩
abbrev b_M_openOnes : ByteArray := prog_8_method_41_code
def y_M_openOnes : MethodName := ⟨"PaneScreenModel", "openOnes", "()I"⟩
abbrev b_M_figure : ByteArray := prog_8_method_42_code
def y_M_figure : MethodName := ⟨"PaneScreenModel", "figure", "(I)I"⟩
abbrev b_D_init : ByteArray := prog_2_method_1_code
def y_D_init : MethodName := ⟨"PaneScreen$Damage", "<init>", "()V"⟩
abbrev b_D_add : ByteArray := prog_2_method_2_code
def y_D_add : MethodName := ⟨"PaneScreen$Damage", "add", "(IIII)V"⟩
abbrev b_D_holds : ByteArray := prog_2_method_3_code
def y_D_holds : MethodName := ⟨"PaneScreen$Damage", "holds", "(II)Z"⟩
abbrev b_D_forget : ByteArray := prog_2_method_4_code
def y_D_forget : MethodName := ⟨"PaneScreen$Damage", "forget", "()V"⟩
abbrev b_D_put : ByteArray := prog_2_method_5_code
def y_D_put : MethodName := ⟨"PaneScreen$Damage", "put", "(IIIII)V"⟩
abbrev b_D_joinAllWith : ByteArray := prog_2_method_6_code
def y_D_joinAllWith : MethodName := ⟨"PaneScreen$Damage", "joinAllWith", "(IIII)V"⟩
abbrev b_E_init : ByteArray := prog_3_method_1_code
def y_E_init : MethodName := ⟨"PaneScreen$EventLine", "<init>", "()V"⟩
abbrev b_E_tell : ByteArray := prog_3_method_2_code
def y_E_tell : MethodName := ⟨"PaneScreen$EventLine", "tell", "(IIII)V"⟩
abbrev b_E_takeFirst : ByteArray := prog_3_method_3_code
def y_E_takeFirst : MethodName := ⟨"PaneScreen$EventLine", "takeFirst", "()V"⟩
abbrev b_E_removeAllOf : ByteArray := prog_3_method_4_code
def y_E_removeAllOf : MethodName := ⟨"PaneScreen$EventLine", "removeAllOf", "(I)V"⟩
abbrev b_E_copy : ByteArray := prog_3_method_5_code
def y_E_copy : MethodName := ⟨"PaneScreen$EventLine", "copy", "(II)V"⟩
abbrev b_O_init : ByteArray := prog_4_method_1_code
def y_O_init : MethodName := ⟨"PaneScreen$Order", "<init>", "()V"⟩
abbrev b_O_first : ByteArray := prog_4_method_2_code
def y_O_first : MethodName := ⟨"PaneScreen$Order", "first", "()I"⟩
abbrev b_O_last : ByteArray := prog_4_method_3_code
def y_O_last : MethodName := ⟨"PaneScreen$Order", "last", "()I"⟩
abbrev b_O_addInFront : ByteArray := prog_4_method_4_code
def y_O_addInFront : MethodName := ⟨"PaneScreen$Order", "addInFront", "(I)V"⟩
abbrev b_O_addBehind : ByteArray := prog_4_method_5_code
def y_O_addBehind : MethodName := ⟨"PaneScreen$Order", "addBehind", "(I)V"⟩
abbrev b_O_remove : ByteArray := prog_4_method_6_code
def y_O_remove : MethodName := ⟨"PaneScreen$Order", "remove", "(I)V"⟩
abbrev b_P_init : ByteArray := prog_5_method_1_code
def y_P_init : MethodName := ⟨"PaneScreen$Pane", "<init>", "()V"⟩
abbrev b_P_begin : ByteArray := prog_5_method_2_code
def y_P_begin : MethodName := ⟨"PaneScreen$Pane", "begin", "(III)V"⟩
abbrev b_P_end : ByteArray := prog_5_method_3_code
def y_P_end : MethodName := ⟨"PaneScreen$Pane", "end", "()V"⟩
abbrev b_P_place : ByteArray := prog_5_method_4_code
def y_P_place : MethodName := ⟨"PaneScreen$Pane", "place", "(II)V"⟩
abbrev b_P_putPen : ByteArray := prog_5_method_5_code
def y_P_putPen : MethodName := ⟨"PaneScreen$Pane", "putPen", "(II)V"⟩
abbrev b_P_has : ByteArray := prog_5_method_6_code
def y_P_has : MethodName := ⟨"PaneScreen$Pane", "has", "(II)Z"⟩
abbrev b_P_covers : ByteArray := prog_5_method_7_code
def y_P_covers : MethodName := ⟨"PaneScreen$Pane", "covers", "(II)Z"⟩
abbrev b_P_cell : ByteArray := prog_5_method_8_code
def y_P_cell : MethodName := ⟨"PaneScreen$Pane", "cell", "(II)I"⟩
abbrev b_T_init : ByteArray := prog_6_method_1_code
def y_T_init : MethodName := ⟨"PaneScreen$Store", "<init>", "()V"⟩
abbrev b_T_firstFree : ByteArray := prog_6_method_2_code
def y_T_firstFree : MethodName := ⟨"PaneScreen$Store", "firstFree", "(I)I"⟩
abbrev b_T_take : ByteArray := prog_6_method_3_code
def y_T_take : MethodName := ⟨"PaneScreen$Store", "take", "(II)V"⟩
abbrev b_T_release : ByteArray := prog_6_method_4_code
def y_T_release : MethodName := ⟨"PaneScreen$Store", "release", "(II)V"⟩
abbrev b_T_keepOld : ByteArray := prog_6_method_5_code
def y_T_keepOld : MethodName := ⟨"PaneScreen$Store", "keepOld", "()V"⟩
abbrev b_T_freeCells : ByteArray := prog_6_method_6_code
def y_T_freeCells : MethodName := ⟨"PaneScreen$Store", "freeCells", "()I"⟩
abbrev b_T_longestFree : ByteArray := prog_6_method_7_code
def y_T_longestFree : MethodName := ⟨"PaneScreen$Store", "longestFree", "()I"⟩
abbrev b_L_open : ByteArray := method_3_code
def y_L_open : MethodName := ⟨"PaneScreenLaw", "open", "(LPaneScreen;IIII[J)I"⟩
abbrev b_L_close : ByteArray := method_4_code
def y_L_close : MethodName := ⟨"PaneScreenLaw", "close", "(LPaneScreen;I)I"⟩
abbrev b_L_move : ByteArray := method_5_code
def y_L_move : MethodName := ⟨"PaneScreenLaw", "move", "(LPaneScreen;III)I"⟩
abbrev b_L_raise : ByteArray := method_6_code
def y_L_raise : MethodName := ⟨"PaneScreenLaw", "raise", "(LPaneScreen;IZ[J)I"⟩
abbrev b_L_plot : ByteArray := method_7_code
def y_L_plot : MethodName := ⟨"PaneScreenLaw", "plot", "(LPaneScreen;IIII[J)I"⟩
abbrev b_L_fill : ByteArray := method_8_code
def y_L_fill : MethodName := ⟨"PaneScreenLaw", "fill", "(LPaneScreen;IIIII[J)I"⟩
abbrev b_L_pen : ByteArray := method_9_code
def y_L_pen : MethodName := ⟨"PaneScreenLaw", "pen", "(LPaneScreen;III)I"⟩
abbrev b_L_line : ByteArray := method_10_code
def y_L_line : MethodName := ⟨"PaneScreenLaw", "line", "(LPaneScreen;IIII[J)I"⟩
abbrev b_L_scroll : ByteArray := method_11_code
def y_L_scroll : MethodName := ⟨"PaneScreenLaw", "scroll", "(LPaneScreen;III)I"⟩
abbrev b_L_screen : ByteArray := method_12_code
def y_L_screen : MethodName := ⟨"PaneScreenLaw", "screen", "(LPaneScreen;II[J)I"⟩
abbrev b_L_picture : ByteArray := method_13_code
def y_L_picture : MethodName := ⟨"PaneScreenLaw", "picture", "(LPaneScreen;III[J)I"⟩
abbrev b_L_at : ByteArray := method_14_code
def y_L_at : MethodName := ⟨"PaneScreenLaw", "at", "(LPaneScreen;II[J)I"⟩
abbrev b_L_visible : ByteArray := method_15_code
def y_L_visible : MethodName := ⟨"PaneScreenLaw", "visible", "(LPaneScreen;I[J)I"⟩
abbrev b_L_click : ByteArray := method_16_code
def y_L_click : MethodName := ⟨"PaneScreenLaw", "click", "(LPaneScreen;II[J)I"⟩
abbrev b_L_next : ByteArray := method_17_code
def y_L_next : MethodName := ⟨"PaneScreenLaw", "next", "(LPaneScreen;[J)I"⟩
abbrev b_L_event : ByteArray := method_18_code
def y_L_event : MethodName := ⟨"PaneScreenLaw", "event", "(LPaneScreen;I[J)I"⟩
abbrev b_L_figure : ByteArray := method_19_code
def y_L_figure : MethodName := ⟨"PaneScreenLaw", "figure", "(LPaneScreen;I[J)I"⟩
abbrev b_L_law : ByteArray := code
def y_L_law : MethodName := ⟨"PaneScreenLaw", "law", "([I)Z"⟩
abbrev b_J_floorDiv : ByteArray := prog_13_method_47_code
def y_J_floorDiv : MethodName := ⟨"java/lang/Math", "floorDiv", "(II)I"⟩
theorem k_bipush_m50 : (Int8.ofInt (-50)).toInt32 = (-50) := by decide
theorem k_bipush_6 : (Int8.ofInt 6).toInt32 = 6 := by decide
theorem k_bipush_7 : (Int8.ofInt 7).toInt32 = 7 := by decide
theorem k_bipush_8 : (Int8.ofInt 8).toInt32 = 8 := by decide
theorem k_bipush_12 : (Int8.ofInt 12).toInt32 = 12 := by decide
theorem k_bipush_15 : (Int8.ofInt 15).toInt32 = 15 := by decide
theorem k_bipush_16 : (Int8.ofInt 16).toInt32 = 16 := by decide
theorem k_bipush_23 : (Int8.ofInt 23).toInt32 = 23 := by decide
theorem k_bipush_24 : (Int8.ofInt 24).toInt32 = 24 := by decide
theorem k_bipush_32 : (Int8.ofInt 32).toInt32 = 32 := by decide
theorem k_bipush_50 : (Int8.ofInt 50).toInt32 = 50 := by decide
theorem k_iconst_m1 : Int32.ofInt (-1) = (-1) := by decide
theorem k_iconst_0 : Int32.ofInt 0 = 0 := by decide
theorem k_iconst_1 : Int32.ofInt 1 = 1 := by decide
theorem k_iconst_2 : Int32.ofInt 2 = 2 := by decide
theorem k_iconst_3 : Int32.ofInt 3 = 3 := by decide
theorem k_iconst_4 : Int32.ofInt 4 = 4 := by decide
theorem k_sipush_255 : (Int16.ofInt 255).toInt32 = 255 := by decide
theorem k_sipush_384 : (Int16.ofInt 384).toInt32 = 384 := by decide
theorem k_sipush_400 : (Int16.ofInt 400).toInt32 = 400 := by decide
theorem k_sipush_1023 : (Int16.ofInt 1023).toInt32 = 1023 := by decide
end
section
set_option maxRecDepth 100000 in
theorem w_0 : (.laysFinal "PaneScreen" "PaneScreen" "shown" "[I" : Cond) ∈ TW := TW_at (n := 204) (by decide +kernel) (by decide +kernel)
set_option maxRecDepth 100000 in
theorem w_1 : (.laysFinal "PaneScreen" "PaneScreen" "panes" "[LPaneScreen$Pane;" : Cond) ∈ TW := TW_at (n := 206) (by decide +kernel) (by decide +kernel)
set_option maxRecDepth 100000 in
theorem w_2 : (.laysFinal "PaneScreen" "PaneScreen" "order" "LPaneScreen$Order;" : Cond) ∈ TW := TW_at (n := 208) (by decide +kernel) (by decide +kernel)
set_option maxRecDepth 100000 in
theorem w_3 : (.laysFinal "PaneScreen" "PaneScreen" "store" "LPaneScreen$Store;" : Cond) ∈ TW := TW_at (n := 210) (by decide +kernel) (by decide +kernel)
set_option maxRecDepth 100000 in
theorem w_4 : (.laysFinal "PaneScreen" "PaneScreen" "damage" "LPaneScreen$Damage;" : Cond) ∈ TW := TW_at (n := 212) (by decide +kernel) (by decide +kernel)
set_option maxRecDepth 100000 in
theorem w_5 : (.laysFinal "PaneScreen" "PaneScreen" "events" "LPaneScreen$EventLine;" : Cond) ∈ TW := TW_at (n := 214) (by decide +kernel) (by decide +kernel)
set_option maxRecDepth 100000 in
theorem w_6 : (.lays "PaneScreen" "PaneScreen" "focus" "I" : Cond) ∈ TW := TW_at (n := 216) (by decide +kernel) (by decide +kernel)
set_option maxRecDepth 100000 in
theorem w_7 : (.lays "PaneScreen" "PaneScreen" "painted" "I" : Cond) ∈ TW := TW_at (n := 218) (by decide +kernel) (by decide +kernel)
set_option maxRecDepth 100000 in
theorem w_8 : (.laysFinal "PaneScreen$Damage" "PaneScreen$Damage" "lefts" "[I" : Cond) ∈ TW := TW_at (n := 142) (by decide +kernel) (by decide +kernel)
set_option maxRecDepth 100000 in
theorem w_9 : (.laysFinal "PaneScreen$Damage" "PaneScreen$Damage" "tops" "[I" : Cond) ∈ TW := TW_at (n := 144) (by decide +kernel) (by decide +kernel)
set_option maxRecDepth 100000 in
theorem w_10 : (.laysFinal "PaneScreen$Damage" "PaneScreen$Damage" "rights" "[I" : Cond) ∈ TW := TW_at (n := 146) (by decide +kernel) (by decide +kernel)
set_option maxRecDepth 100000 in
theorem w_11 : (.laysFinal "PaneScreen$Damage" "PaneScreen$Damage" "bottoms" "[I" : Cond) ∈ TW := TW_at (n := 148) (by decide +kernel) (by decide +kernel)
set_option maxRecDepth 100000 in
theorem w_12 : (.lays "PaneScreen$Damage" "PaneScreen$Damage" "count" "I" : Cond) ∈ TW := TW_at (n := 150) (by decide +kernel) (by decide +kernel)
set_option maxRecDepth 100000 in
theorem w_13 : (.laysFinal "PaneScreen$EventLine" "PaneScreen$EventLine" "kinds" "[I" : Cond) ∈ TW := TW_at (n := 175) (by decide +kernel) (by decide +kernel)
set_option maxRecDepth 100000 in
theorem w_14 : (.laysFinal "PaneScreen$EventLine" "PaneScreen$EventLine" "windows" "[I" : Cond) ∈ TW := TW_at (n := 177) (by decide +kernel) (by decide +kernel)
set_option maxRecDepth 100000 in
theorem w_15 : (.laysFinal "PaneScreen$EventLine" "PaneScreen$EventLine" "ones" "[I" : Cond) ∈ TW := TW_at (n := 179) (by decide +kernel) (by decide +kernel)
set_option maxRecDepth 100000 in
theorem w_16 : (.laysFinal "PaneScreen$EventLine" "PaneScreen$EventLine" "twos" "[I" : Cond) ∈ TW := TW_at (n := 181) (by decide +kernel) (by decide +kernel)
set_option maxRecDepth 100000 in
theorem w_17 : (.lays "PaneScreen$EventLine" "PaneScreen$EventLine" "count" "I" : Cond) ∈ TW := TW_at (n := 183) (by decide +kernel) (by decide +kernel)
set_option maxRecDepth 100000 in
theorem w_18 : (.lays "PaneScreen$EventLine" "PaneScreen$EventLine" "dropped" "I" : Cond) ∈ TW := TW_at (n := 185) (by decide +kernel) (by decide +kernel)
set_option maxRecDepth 100000 in
theorem w_19 : (.lays "PaneScreen$EventLine" "PaneScreen$EventLine" "takenKind" "I" : Cond) ∈ TW := TW_at (n := 187) (by decide +kernel) (by decide +kernel)
set_option maxRecDepth 100000 in
theorem w_20 : (.lays "PaneScreen$EventLine" "PaneScreen$EventLine" "takenWindow" "I" : Cond) ∈ TW := TW_at (n := 189) (by decide +kernel) (by decide +kernel)
set_option maxRecDepth 100000 in
theorem w_21 : (.lays "PaneScreen$EventLine" "PaneScreen$EventLine" "takenOne" "I" : Cond) ∈ TW := TW_at (n := 191) (by decide +kernel) (by decide +kernel)
set_option maxRecDepth 100000 in
theorem w_22 : (.lays "PaneScreen$EventLine" "PaneScreen$EventLine" "takenTwo" "I" : Cond) ∈ TW := TW_at (n := 193) (by decide +kernel) (by decide +kernel)
set_option maxRecDepth 100000 in
theorem w_23 : (.laysFinal "PaneScreen$Order" "PaneScreen$Order" "windows" "[I" : Cond) ∈ TW := TW_at (n := 106) (by decide +kernel) (by decide +kernel)
set_option maxRecDepth 100000 in
theorem w_24 : (.lays "PaneScreen$Order" "PaneScreen$Order" "count" "I" : Cond) ∈ TW := TW_at (n := 108) (by decide +kernel) (by decide +kernel)
set_option maxRecDepth 100000 in
theorem w_25 : (.lays "PaneScreen$Pane" "PaneScreen$Pane" "used" "Z" : Cond) ∈ TW := TW_at (n := 78) (by decide +kernel) (by decide +kernel)
set_option maxRecDepth 100000 in
theorem w_26 : (.lays "PaneScreen$Pane" "PaneScreen$Pane" "x" "I" : Cond) ∈ TW := TW_at (n := 80) (by decide +kernel) (by decide +kernel)
set_option maxRecDepth 100000 in
theorem w_27 : (.lays "PaneScreen$Pane" "PaneScreen$Pane" "y" "I" : Cond) ∈ TW := TW_at (n := 82) (by decide +kernel) (by decide +kernel)
set_option maxRecDepth 100000 in
theorem w_28 : (.lays "PaneScreen$Pane" "PaneScreen$Pane" "width" "I" : Cond) ∈ TW := TW_at (n := 84) (by decide +kernel) (by decide +kernel)
set_option maxRecDepth 100000 in
theorem w_29 : (.lays "PaneScreen$Pane" "PaneScreen$Pane" "height" "I" : Cond) ∈ TW := TW_at (n := 86) (by decide +kernel) (by decide +kernel)
set_option maxRecDepth 100000 in
theorem w_30 : (.lays "PaneScreen$Pane" "PaneScreen$Pane" "start" "I" : Cond) ∈ TW := TW_at (n := 88) (by decide +kernel) (by decide +kernel)
set_option maxRecDepth 100000 in
theorem w_31 : (.lays "PaneScreen$Pane" "PaneScreen$Pane" "penU" "I" : Cond) ∈ TW := TW_at (n := 90) (by decide +kernel) (by decide +kernel)
set_option maxRecDepth 100000 in
theorem w_32 : (.lays "PaneScreen$Pane" "PaneScreen$Pane" "penV" "I" : Cond) ∈ TW := TW_at (n := 92) (by decide +kernel) (by decide +kernel)
set_option maxRecDepth 100000 in
theorem w_33 : (.laysFinal "PaneScreen$Store" "PaneScreen$Store" "colours" "[I" : Cond) ∈ TW := TW_at (n := 122) (by decide +kernel) (by decide +kernel)
set_option maxRecDepth 100000 in
theorem w_34 : (.laysFinal "PaneScreen$Store" "PaneScreen$Store" "old" "[I" : Cond) ∈ TW := TW_at (n := 124) (by decide +kernel) (by decide +kernel)
set_option maxRecDepth 100000 in
theorem w_35 : (.laysFinal "PaneScreen$Store" "PaneScreen$Store" "taken" "[Z" : Cond) ∈ TW := TW_at (n := 126) (by decide +kernel) (by decide +kernel)
set_option maxRecDepth 100000 in
theorem w_36 : (.lays "PaneScreenModel" "PaneScreenModel" "code" "I" : Cond) ∈ TW := TW_at (n := 686) (by decide +kernel) (by decide +kernel)
set_option maxRecDepth 100000 in
theorem w_37 : (.laysFinal "PaneScreenModel" "PaneScreenModel" "colours" "[I" : Cond) ∈ TW := TW_at (n := 688) (by decide +kernel) (by decide +kernel)
set_option maxRecDepth 100000 in
theorem w_38 : (.laysFinal "PaneScreenModel" "PaneScreenModel" "open" "[Z" : Cond) ∈ TW := TW_at (n := 690) (by decide +kernel) (by decide +kernel)
set_option maxRecDepth 100000 in
theorem w_39 : (.laysFinal "PaneScreenModel" "PaneScreenModel" "px" "[I" : Cond) ∈ TW := TW_at (n := 692) (by decide +kernel) (by decide +kernel)
set_option maxRecDepth 100000 in
theorem w_40 : (.laysFinal "PaneScreenModel" "PaneScreenModel" "py" "[I" : Cond) ∈ TW := TW_at (n := 694) (by decide +kernel) (by decide +kernel)
set_option maxRecDepth 100000 in
theorem w_41 : (.laysFinal "PaneScreenModel" "PaneScreenModel" "width" "[I" : Cond) ∈ TW := TW_at (n := 696) (by decide +kernel) (by decide +kernel)
set_option maxRecDepth 100000 in
theorem w_42 : (.laysFinal "PaneScreenModel" "PaneScreenModel" "height" "[I" : Cond) ∈ TW := TW_at (n := 698) (by decide +kernel) (by decide +kernel)
set_option maxRecDepth 100000 in
theorem w_43 : (.laysFinal "PaneScreenModel" "PaneScreenModel" "penU" "[I" : Cond) ∈ TW := TW_at (n := 700) (by decide +kernel) (by decide +kernel)
set_option maxRecDepth 100000 in
theorem w_44 : (.laysFinal "PaneScreenModel" "PaneScreenModel" "penV" "[I" : Cond) ∈ TW := TW_at (n := 702) (by decide +kernel) (by decide +kernel)
set_option maxRecDepth 100000 in
theorem w_45 : (.laysFinal "PaneScreenModel" "PaneScreenModel" "start" "[I" : Cond) ∈ TW := TW_at (n := 704) (by decide +kernel) (by decide +kernel)
set_option maxRecDepth 100000 in
theorem w_46 : (.laysFinal "PaneScreenModel" "PaneScreenModel" "rank" "[I" : Cond) ∈ TW := TW_at (n := 706) (by decide +kernel) (by decide +kernel)
set_option maxRecDepth 100000 in
theorem w_47 : (.lays "PaneScreenModel" "PaneScreenModel" "front" "I" : Cond) ∈ TW := TW_at (n := 708) (by decide +kernel) (by decide +kernel)
set_option maxRecDepth 100000 in
theorem w_48 : (.lays "PaneScreenModel" "PaneScreenModel" "back" "I" : Cond) ∈ TW := TW_at (n := 710) (by decide +kernel) (by decide +kernel)
set_option maxRecDepth 100000 in
theorem w_49 : (.laysFinal "PaneScreenModel" "PaneScreenModel" "pictures" "[I" : Cond) ∈ TW := TW_at (n := 712) (by decide +kernel) (by decide +kernel)
set_option maxRecDepth 100000 in
theorem w_50 : (.laysFinal "PaneScreenModel" "PaneScreenModel" "copy" "[I" : Cond) ∈ TW := TW_at (n := 714) (by decide +kernel) (by decide +kernel)
set_option maxRecDepth 100000 in
theorem w_51 : (.lays "PaneScreenModel" "PaneScreenModel" "focus" "I" : Cond) ∈ TW := TW_at (n := 716) (by decide +kernel) (by decide +kernel)
set_option maxRecDepth 100000 in
theorem w_52 : (.lays "PaneScreenModel" "PaneScreenModel" "damaged" "I" : Cond) ∈ TW := TW_at (n := 718) (by decide +kernel) (by decide +kernel)
set_option maxRecDepth 100000 in
theorem w_53 : (.laysFinal "PaneScreenModel" "PaneScreenModel" "x0" "[I" : Cond) ∈ TW := TW_at (n := 720) (by decide +kernel) (by decide +kernel)
set_option maxRecDepth 100000 in
theorem w_54 : (.laysFinal "PaneScreenModel" "PaneScreenModel" "y0" "[I" : Cond) ∈ TW := TW_at (n := 722) (by decide +kernel) (by decide +kernel)
set_option maxRecDepth 100000 in
theorem w_55 : (.laysFinal "PaneScreenModel" "PaneScreenModel" "x1" "[I" : Cond) ∈ TW := TW_at (n := 724) (by decide +kernel) (by decide +kernel)
set_option maxRecDepth 100000 in
theorem w_56 : (.laysFinal "PaneScreenModel" "PaneScreenModel" "y1" "[I" : Cond) ∈ TW := TW_at (n := 726) (by decide +kernel) (by decide +kernel)
set_option maxRecDepth 100000 in
theorem w_57 : (.lays "PaneScreenModel" "PaneScreenModel" "some" "Z" : Cond) ∈ TW := TW_at (n := 728) (by decide +kernel) (by decide +kernel)
set_option maxRecDepth 100000 in
theorem w_58 : (.lays "PaneScreenModel" "PaneScreenModel" "lowU" "I" : Cond) ∈ TW := TW_at (n := 730) (by decide +kernel) (by decide +kernel)
set_option maxRecDepth 100000 in
theorem w_59 : (.lays "PaneScreenModel" "PaneScreenModel" "lowV" "I" : Cond) ∈ TW := TW_at (n := 732) (by decide +kernel) (by decide +kernel)
set_option maxRecDepth 100000 in
theorem w_60 : (.lays "PaneScreenModel" "PaneScreenModel" "highU" "I" : Cond) ∈ TW := TW_at (n := 734) (by decide +kernel) (by decide +kernel)
set_option maxRecDepth 100000 in
theorem w_61 : (.lays "PaneScreenModel" "PaneScreenModel" "highV" "I" : Cond) ∈ TW := TW_at (n := 736) (by decide +kernel) (by decide +kernel)
set_option maxRecDepth 100000 in
theorem w_62 : (.lays "PaneScreenModel" "PaneScreenModel" "events" "I" : Cond) ∈ TW := TW_at (n := 738) (by decide +kernel) (by decide +kernel)
set_option maxRecDepth 100000 in
theorem w_63 : (.laysFinal "PaneScreenModel" "PaneScreenModel" "kinds" "[I" : Cond) ∈ TW := TW_at (n := 740) (by decide +kernel) (by decide +kernel)
set_option maxRecDepth 100000 in
theorem w_64 : (.laysFinal "PaneScreenModel" "PaneScreenModel" "whose" "[I" : Cond) ∈ TW := TW_at (n := 742) (by decide +kernel) (by decide +kernel)
set_option maxRecDepth 100000 in
theorem w_65 : (.laysFinal "PaneScreenModel" "PaneScreenModel" "first" "[I" : Cond) ∈ TW := TW_at (n := 744) (by decide +kernel) (by decide +kernel)
set_option maxRecDepth 100000 in
theorem w_66 : (.laysFinal "PaneScreenModel" "PaneScreenModel" "second" "[I" : Cond) ∈ TW := TW_at (n := 746) (by decide +kernel) (by decide +kernel)
set_option maxRecDepth 100000 in
theorem w_67 : (.lays "PaneScreenModel" "PaneScreenModel" "taken" "Z" : Cond) ∈ TW := TW_at (n := 748) (by decide +kernel) (by decide +kernel)
set_option maxRecDepth 100000 in
theorem w_68 : (.lays "PaneScreenModel" "PaneScreenModel" "takenWindow" "I" : Cond) ∈ TW := TW_at (n := 750) (by decide +kernel) (by decide +kernel)
set_option maxRecDepth 100000 in
theorem w_69 : (.lays "PaneScreenModel" "PaneScreenModel" "takenFirst" "I" : Cond) ∈ TW := TW_at (n := 752) (by decide +kernel) (by decide +kernel)
set_option maxRecDepth 100000 in
theorem w_70 : (.lays "PaneScreenModel" "PaneScreenModel" "takenSecond" "I" : Cond) ∈ TW := TW_at (n := 754) (by decide +kernel) (by decide +kernel)
set_option maxRecDepth 100000 in
theorem w_71 : (.lays "PaneScreenModel" "PaneScreenModel" "dropped" "I" : Cond) ∈ TW := TW_at (n := 756) (by decide +kernel) (by decide +kernel)
set_option maxRecDepth 100000 in
theorem w_72 : (.lays "PaneScreenModel" "PaneScreenModel" "painted" "I" : Cond) ∈ TW := TW_at (n := 758) (by decide +kernel) (by decide +kernel)
set_option maxRecDepth 100000 in
theorem w_73 : (.fieldLink "PaneScreen$Damage" 9 "PaneScreen$Damage" "lefts" "[I" : Cond) ∈ TW := TW_at (n := 136) (by decide +kernel) (by decide +kernel)
set_option maxRecDepth 100000 in
theorem w_74 : (.fieldLink "PaneScreen$Damage" 15 "PaneScreen$Damage" "tops" "[I" : Cond) ∈ TW := TW_at (n := 137) (by decide +kernel) (by decide +kernel)
set_option maxRecDepth 100000 in
theorem w_75 : (.fieldLink "PaneScreen$Damage" 18 "PaneScreen$Damage" "rights" "[I" : Cond) ∈ TW := TW_at (n := 138) (by decide +kernel) (by decide +kernel)
set_option maxRecDepth 100000 in
theorem w_76 : (.fieldLink "PaneScreen$Damage" 21 "PaneScreen$Damage" "bottoms" "[I" : Cond) ∈ TW := TW_at (n := 139) (by decide +kernel) (by decide +kernel)
set_option maxRecDepth 100000 in
theorem w_77 : (.fieldLink "PaneScreen$Damage" 33 "PaneScreen$Damage" "count" "I" : Cond) ∈ TW := TW_at (n := 140) (by decide +kernel) (by decide +kernel)
set_option maxRecDepth 100000 in
theorem w_78 : (.fieldLink "PaneScreen$EventLine" 9 "PaneScreen$EventLine" "kinds" "[I" : Cond) ∈ TW := TW_at (n := 159) (by decide +kernel) (by decide +kernel)
set_option maxRecDepth 100000 in
theorem w_79 : (.fieldLink "PaneScreen$EventLine" 15 "PaneScreen$EventLine" "windows" "[I" : Cond) ∈ TW := TW_at (n := 160) (by decide +kernel) (by decide +kernel)
set_option maxRecDepth 100000 in
theorem w_80 : (.fieldLink "PaneScreen$EventLine" 18 "PaneScreen$EventLine" "ones" "[I" : Cond) ∈ TW := TW_at (n := 161) (by decide +kernel) (by decide +kernel)
set_option maxRecDepth 100000 in
theorem w_81 : (.fieldLink "PaneScreen$EventLine" 21 "PaneScreen$EventLine" "twos" "[I" : Cond) ∈ TW := TW_at (n := 162) (by decide +kernel) (by decide +kernel)
set_option maxRecDepth 100000 in
theorem w_82 : (.fieldLink "PaneScreen$EventLine" 28 "PaneScreen$EventLine" "count" "I" : Cond) ∈ TW := TW_at (n := 163) (by decide +kernel) (by decide +kernel)
set_option maxRecDepth 100000 in
theorem w_83 : (.fieldLink "PaneScreen$EventLine" 31 "PaneScreen$EventLine" "dropped" "I" : Cond) ∈ TW := TW_at (n := 165) (by decide +kernel) (by decide +kernel)
set_option maxRecDepth 100000 in
theorem w_84 : (.fieldLink "PaneScreenModel" 7 "PaneScreenModel" "colours" "[I" : Cond) ∈ TW := TW_at (n := 650) (by decide +kernel) (by decide +kernel)
set_option maxRecDepth 100000 in
theorem w_85 : (.fieldLink "PaneScreenModel" 13 "PaneScreenModel" "open" "[Z" : Cond) ∈ TW := TW_at (n := 651) (by decide +kernel) (by decide +kernel)
set_option maxRecDepth 100000 in
theorem w_86 : (.fieldLink "PaneScreenModel" 17 "PaneScreenModel" "px" "[I" : Cond) ∈ TW := TW_at (n := 652) (by decide +kernel) (by decide +kernel)
set_option maxRecDepth 100000 in
theorem w_87 : (.fieldLink "PaneScreenModel" 20 "PaneScreenModel" "py" "[I" : Cond) ∈ TW := TW_at (n := 653) (by decide +kernel) (by decide +kernel)
set_option maxRecDepth 100000 in
theorem w_88 : (.fieldLink "PaneScreenModel" 23 "PaneScreenModel" "width" "[I" : Cond) ∈ TW := TW_at (n := 654) (by decide +kernel) (by decide +kernel)
set_option maxRecDepth 100000 in
theorem w_89 : (.fieldLink "PaneScreenModel" 26 "PaneScreenModel" "height" "[I" : Cond) ∈ TW := TW_at (n := 655) (by decide +kernel) (by decide +kernel)
set_option maxRecDepth 100000 in
theorem w_90 : (.fieldLink "PaneScreenModel" 29 "PaneScreenModel" "penU" "[I" : Cond) ∈ TW := TW_at (n := 656) (by decide +kernel) (by decide +kernel)
set_option maxRecDepth 100000 in
theorem w_91 : (.fieldLink "PaneScreenModel" 32 "PaneScreenModel" "penV" "[I" : Cond) ∈ TW := TW_at (n := 657) (by decide +kernel) (by decide +kernel)
set_option maxRecDepth 100000 in
theorem w_92 : (.fieldLink "PaneScreenModel" 35 "PaneScreenModel" "start" "[I" : Cond) ∈ TW := TW_at (n := 658) (by decide +kernel) (by decide +kernel)
set_option maxRecDepth 100000 in
theorem w_93 : (.fieldLink "PaneScreenModel" 38 "PaneScreenModel" "rank" "[I" : Cond) ∈ TW := TW_at (n := 659) (by decide +kernel) (by decide +kernel)
set_option maxRecDepth 100000 in
theorem w_94 : (.fieldLink "PaneScreenModel" 41 "PaneScreenModel" "pictures" "[I" : Cond) ∈ TW := TW_at (n := 662) (by decide +kernel) (by decide +kernel)
set_option maxRecDepth 100000 in
theorem w_95 : (.fieldLink "PaneScreenModel" 44 "PaneScreenModel" "copy" "[I" : Cond) ∈ TW := TW_at (n := 663) (by decide +kernel) (by decide +kernel)
set_option maxRecDepth 100000 in
theorem w_96 : (.fieldLink "PaneScreenModel" 47 "PaneScreenModel" "focus" "I" : Cond) ∈ TW := TW_at (n := 664) (by decide +kernel) (by decide +kernel)
set_option maxRecDepth 100000 in
theorem w_97 : (.fieldLink "PaneScreenModel" 51 "PaneScreenModel" "x0" "[I" : Cond) ∈ TW := TW_at (n := 666) (by decide +kernel) (by decide +kernel)
set_option maxRecDepth 100000 in
theorem w_98 : (.fieldLink "PaneScreenModel" 54 "PaneScreenModel" "y0" "[I" : Cond) ∈ TW := TW_at (n := 667) (by decide +kernel) (by decide +kernel)
set_option maxRecDepth 100000 in
theorem w_99 : (.fieldLink "PaneScreenModel" 57 "PaneScreenModel" "x1" "[I" : Cond) ∈ TW := TW_at (n := 668) (by decide +kernel) (by decide +kernel)
set_option maxRecDepth 100000 in
theorem w_100 : (.fieldLink "PaneScreenModel" 60 "PaneScreenModel" "y1" "[I" : Cond) ∈ TW := TW_at (n := 669) (by decide +kernel) (by decide +kernel)
set_option maxRecDepth 100000 in
theorem w_101 : (.fieldLink "PaneScreenModel" 63 "PaneScreenModel" "kinds" "[I" : Cond) ∈ TW := TW_at (n := 676) (by decide +kernel) (by decide +kernel)
set_option maxRecDepth 100000 in
theorem w_102 : (.fieldLink "PaneScreenModel" 66 "PaneScreenModel" "whose" "[I" : Cond) ∈ TW := TW_at (n := 677) (by decide +kernel) (by decide +kernel)
set_option maxRecDepth 100000 in
theorem w_103 : (.fieldLink "PaneScreenModel" 69 "PaneScreenModel" "first" "[I" : Cond) ∈ TW := TW_at (n := 678) (by decide +kernel) (by decide +kernel)
set_option maxRecDepth 100000 in
theorem w_104 : (.fieldLink "PaneScreenModel" 72 "PaneScreenModel" "second" "[I" : Cond) ∈ TW := TW_at (n := 679) (by decide +kernel) (by decide +kernel)
set_option maxRecDepth 100000 in
theorem w_105 : (.fieldLink "PaneScreenModel" 75 "PaneScreenModel" "code" "I" : Cond) ∈ TW := TW_at (n := 649) (by decide +kernel) (by decide +kernel)
set_option maxRecDepth 100000 in
theorem w_106 : (.fieldLink "PaneScreenModel" 78 "PaneScreenModel" "damaged" "I" : Cond) ∈ TW := TW_at (n := 665) (by decide +kernel) (by decide +kernel)
set_option maxRecDepth 100000 in
theorem w_107 : (.fieldLink "PaneScreenModel" 89 "PaneScreenModel" "some" "Z" : Cond) ∈ TW := TW_at (n := 670) (by decide +kernel) (by decide +kernel)
set_option maxRecDepth 100000 in
theorem w_108 : (.fieldLink "PaneScreenModel" 93 "PaneScreenModel" "lowU" "I" : Cond) ∈ TW := TW_at (n := 671) (by decide +kernel) (by decide +kernel)
set_option maxRecDepth 100000 in
theorem w_109 : (.fieldLink "PaneScreenModel" 96 "PaneScreenModel" "lowV" "I" : Cond) ∈ TW := TW_at (n := 672) (by decide +kernel) (by decide +kernel)
set_option maxRecDepth 100000 in
theorem w_110 : (.fieldLink "PaneScreenModel" 99 "PaneScreenModel" "highU" "I" : Cond) ∈ TW := TW_at (n := 673) (by decide +kernel) (by decide +kernel)
set_option maxRecDepth 100000 in
theorem w_111 : (.fieldLink "PaneScreenModel" 102 "PaneScreenModel" "highV" "I" : Cond) ∈ TW := TW_at (n := 674) (by decide +kernel) (by decide +kernel)
set_option maxRecDepth 100000 in
theorem w_112 : (.fieldLink "PaneScreenModel" 120 "PaneScreenModel" "front" "I" : Cond) ∈ TW := TW_at (n := 660) (by decide +kernel) (by decide +kernel)
set_option maxRecDepth 100000 in
theorem w_113 : (.fieldLink "PaneScreenModel" 130 "PaneScreenModel" "events" "I" : Cond) ∈ TW := TW_at (n := 675) (by decide +kernel) (by decide +kernel)
set_option maxRecDepth 100000 in
theorem w_114 : (.fieldLink "PaneScreenModel" 140 "PaneScreenModel" "back" "I" : Cond) ∈ TW := TW_at (n := 661) (by decide +kernel) (by decide +kernel)
set_option maxRecDepth 100000 in
theorem w_115 : (.fieldLink "PaneScreenModel" 168 "PaneScreenModel" "painted" "I" : Cond) ∈ TW := TW_at (n := 685) (by decide +kernel) (by decide +kernel)
set_option maxRecDepth 100000 in
theorem w_116 : (.fieldLink "PaneScreenModel" 174 "PaneScreenModel" "dropped" "I" : Cond) ∈ TW := TW_at (n := 684) (by decide +kernel) (by decide +kernel)
set_option maxRecDepth 100000 in
theorem w_117 : (.fieldLink "PaneScreenModel" 180 "PaneScreenModel" "taken" "Z" : Cond) ∈ TW := TW_at (n := 680) (by decide +kernel) (by decide +kernel)
set_option maxRecDepth 100000 in
theorem w_118 : (.fieldLink "PaneScreenModel" 183 "PaneScreenModel" "takenWindow" "I" : Cond) ∈ TW := TW_at (n := 681) (by decide +kernel) (by decide +kernel)
set_option maxRecDepth 100000 in
theorem w_119 : (.fieldLink "PaneScreenModel" 186 "PaneScreenModel" "takenFirst" "I" : Cond) ∈ TW := TW_at (n := 682) (by decide +kernel) (by decide +kernel)
set_option maxRecDepth 100000 in
theorem w_120 : (.fieldLink "PaneScreenModel" 189 "PaneScreenModel" "takenSecond" "I" : Cond) ∈ TW := TW_at (n := 683) (by decide +kernel) (by decide +kernel)
set_option maxRecDepth 100000 in
theorem w_121 : (.fieldLink "PaneScreen$Order" 9 "PaneScreen$Order" "windows" "[I" : Cond) ∈ TW := TW_at (n := 102) (by decide +kernel) (by decide +kernel)
set_option maxRecDepth 100000 in
theorem w_122 : (.fieldLink "PaneScreen$Order" 15 "PaneScreen$Order" "count" "I" : Cond) ∈ TW := TW_at (n := 104) (by decide +kernel) (by decide +kernel)
set_option maxRecDepth 100000 in
theorem w_123 : (.fieldLink "PaneScreen$Pane" 13 "PaneScreen$Pane" "start" "I" : Cond) ∈ TW := TW_at (n := 72) (by decide +kernel) (by decide +kernel)
set_option maxRecDepth 100000 in
theorem w_124 : (.fieldLink "PaneScreen$Pane" 17 "PaneScreen$Pane" "width" "I" : Cond) ∈ TW := TW_at (n := 68) (by decide +kernel) (by decide +kernel)
set_option maxRecDepth 100000 in
theorem w_125 : (.fieldLink "PaneScreen$Pane" 20 "PaneScreen$Pane" "height" "I" : Cond) ∈ TW := TW_at (n := 70) (by decide +kernel) (by decide +kernel)
set_option maxRecDepth 100000 in
theorem w_126 : (.fieldLink "PaneScreen$Pane" 27 "PaneScreen$Pane" "x" "I" : Cond) ∈ TW := TW_at (n := 64) (by decide +kernel) (by decide +kernel)
set_option maxRecDepth 100000 in
theorem w_127 : (.fieldLink "PaneScreen$Pane" 30 "PaneScreen$Pane" "y" "I" : Cond) ∈ TW := TW_at (n := 66) (by decide +kernel) (by decide +kernel)
set_option maxRecDepth 100000 in
theorem w_128 : (.fieldLink "PaneScreen" 9 "PaneScreen" "shown" "[I" : Cond) ∈ TW := TW_at (n := 196) (by decide +kernel) (by decide +kernel)
set_option maxRecDepth 100000 in
theorem w_129 : (.fieldLink "PaneScreen" 15 "PaneScreen" "panes" "[LPaneScreen$Pane;" : Cond) ∈ TW := TW_at (n := 197) (by decide +kernel) (by decide +kernel)
set_option maxRecDepth 100000 in
theorem w_130 : (.fieldLink "PaneScreen" 23 "PaneScreen" "order" "LPaneScreen$Order;" : Cond) ∈ TW := TW_at (n := 198) (by decide +kernel) (by decide +kernel)
set_option maxRecDepth 100000 in
theorem w_131 : (.fieldLink "PaneScreen" 30 "PaneScreen" "store" "LPaneScreen$Store;" : Cond) ∈ TW := TW_at (n := 199) (by decide +kernel) (by decide +kernel)
set_option maxRecDepth 100000 in
theorem w_132 : (.fieldLink "PaneScreen" 37 "PaneScreen" "damage" "LPaneScreen$Damage;" : Cond) ∈ TW := TW_at (n := 200) (by decide +kernel) (by decide +kernel)
set_option maxRecDepth 100000 in
theorem w_133 : (.fieldLink "PaneScreen" 44 "PaneScreen" "events" "LPaneScreen$EventLine;" : Cond) ∈ TW := TW_at (n := 201) (by decide +kernel) (by decide +kernel)
set_option maxRecDepth 100000 in
theorem w_134 : (.fieldLink "PaneScreen" 48 "PaneScreen" "focus" "I" : Cond) ∈ TW := TW_at (n := 202) (by decide +kernel) (by decide +kernel)
set_option maxRecDepth 100000 in
theorem w_135 : (.fieldLink "PaneScreen" 52 "PaneScreen" "painted" "I" : Cond) ∈ TW := TW_at (n := 203) (by decide +kernel) (by decide +kernel)
set_option maxRecDepth 100000 in
theorem w_136 : (.fieldLink "PaneScreen" 95 "PaneScreen$Pane" "start" "I" : Cond) ∈ TW := TW_at (n := 73) (by decide +kernel) (by decide +kernel)
set_option maxRecDepth 100000 in
theorem w_137 : (.fieldLink "PaneScreen" 98 "PaneScreen$Pane" "width" "I" : Cond) ∈ TW := TW_at (n := 69) (by decide +kernel) (by decide +kernel)
set_option maxRecDepth 100000 in
theorem w_138 : (.fieldLink "PaneScreen" 101 "PaneScreen$Pane" "height" "I" : Cond) ∈ TW := TW_at (n := 71) (by decide +kernel) (by decide +kernel)
set_option maxRecDepth 100000 in
theorem w_139 : (.fieldLink "PaneScreen" 130 "PaneScreen$Store" "colours" "[I" : Cond) ∈ TW := TW_at (n := 118) (by decide +kernel) (by decide +kernel)
set_option maxRecDepth 100000 in
theorem w_140 : (.fieldLink "PaneScreen" 162 "PaneScreen$Store" "old" "[I" : Cond) ∈ TW := TW_at (n := 120) (by decide +kernel) (by decide +kernel)
set_option maxRecDepth 100000 in
theorem w_141 : (.fieldLink "PaneScreen" 186 "PaneScreen$Pane" "x" "I" : Cond) ∈ TW := TW_at (n := 65) (by decide +kernel) (by decide +kernel)
set_option maxRecDepth 100000 in
theorem w_142 : (.fieldLink "PaneScreen" 189 "PaneScreen$Pane" "y" "I" : Cond) ∈ TW := TW_at (n := 67) (by decide +kernel) (by decide +kernel)
set_option maxRecDepth 100000 in
theorem w_143 : (.fieldLink "PaneScreen" 196 "PaneScreen$EventLine" "count" "I" : Cond) ∈ TW := TW_at (n := 164) (by decide +kernel) (by decide +kernel)
set_option maxRecDepth 100000 in
theorem w_144 : (.fieldLink "PaneScreen" 205 "PaneScreen$EventLine" "takenKind" "I" : Cond) ∈ TW := TW_at (n := 168) (by decide +kernel) (by decide +kernel)
set_option maxRecDepth 100000 in
theorem w_145 : (.fieldLink "PaneScreen" 208 "PaneScreen$EventLine" "takenWindow" "I" : Cond) ∈ TW := TW_at (n := 170) (by decide +kernel) (by decide +kernel)
set_option maxRecDepth 100000 in
theorem w_146 : (.fieldLink "PaneScreen" 211 "PaneScreen$EventLine" "takenOne" "I" : Cond) ∈ TW := TW_at (n := 172) (by decide +kernel) (by decide +kernel)
set_option maxRecDepth 100000 in
theorem w_147 : (.fieldLink "PaneScreen" 214 "PaneScreen$EventLine" "takenTwo" "I" : Cond) ∈ TW := TW_at (n := 174) (by decide +kernel) (by decide +kernel)
set_option maxRecDepth 100000 in
theorem w_148 : (.fieldLink "PaneScreen" 220 "PaneScreen$Order" "count" "I" : Cond) ∈ TW := TW_at (n := 105) (by decide +kernel) (by decide +kernel)
set_option maxRecDepth 100000 in
theorem w_149 : (.fieldLink "PaneScreen" 227 "PaneScreen$Damage" "count" "I" : Cond) ∈ TW := TW_at (n := 141) (by decide +kernel) (by decide +kernel)
set_option maxRecDepth 100000 in
theorem w_150 : (.fieldLink "PaneScreen" 228 "PaneScreen$EventLine" "dropped" "I" : Cond) ∈ TW := TW_at (n := 166) (by decide +kernel) (by decide +kernel)
set_option maxRecDepth 100000 in
theorem w_151 : (.fieldLink "PaneScreen" 231 "PaneScreen$Pane" "used" "Z" : Cond) ∈ TW := TW_at (n := 63) (by decide +kernel) (by decide +kernel)
set_option maxRecDepth 100000 in
theorem w_152 : (.fieldLink "PaneScreen" 235 "PaneScreen$Order" "windows" "[I" : Cond) ∈ TW := TW_at (n := 103) (by decide +kernel) (by decide +kernel)
set_option maxRecDepth 100000 in
theorem w_153 : (.fieldLink "PaneScreen" 250 "PaneScreen$Pane" "penU" "I" : Cond) ∈ TW := TW_at (n := 75) (by decide +kernel) (by decide +kernel)
set_option maxRecDepth 100000 in
theorem w_154 : (.fieldLink "PaneScreen" 253 "PaneScreen$Pane" "penV" "I" : Cond) ∈ TW := TW_at (n := 77) (by decide +kernel) (by decide +kernel)
set_option maxRecDepth 100000 in
theorem w_155 : (.fieldLink "PaneScreen$Store" 9 "PaneScreen$Store" "colours" "[I" : Cond) ∈ TW := TW_at (n := 117) (by decide +kernel) (by decide +kernel)
set_option maxRecDepth 100000 in
theorem w_156 : (.fieldLink "PaneScreen$Store" 15 "PaneScreen$Store" "old" "[I" : Cond) ∈ TW := TW_at (n := 119) (by decide +kernel) (by decide +kernel)
set_option maxRecDepth 100000 in
theorem w_157 : (.fieldLink "PaneScreen$Store" 18 "PaneScreen$Store" "taken" "[Z" : Cond) ∈ TW := TW_at (n := 121) (by decide +kernel) (by decide +kernel)
set_option maxRecDepth 100000 in
theorem w_158 : (.fieldLink "PaneScreen$EventLine" 24 "PaneScreen$EventLine" "takenKind" "I" : Cond) ∈ TW := TW_at (n := 167) (by decide +kernel) (by decide +kernel)
set_option maxRecDepth 100000 in
theorem w_159 : (.fieldLink "PaneScreen$EventLine" 34 "PaneScreen$EventLine" "takenWindow" "I" : Cond) ∈ TW := TW_at (n := 169) (by decide +kernel) (by decide +kernel)
set_option maxRecDepth 100000 in
theorem w_160 : (.fieldLink "PaneScreen$EventLine" 37 "PaneScreen$EventLine" "takenOne" "I" : Cond) ∈ TW := TW_at (n := 171) (by decide +kernel) (by decide +kernel)
set_option maxRecDepth 100000 in
theorem w_161 : (.fieldLink "PaneScreen$EventLine" 40 "PaneScreen$EventLine" "takenTwo" "I" : Cond) ∈ TW := TW_at (n := 173) (by decide +kernel) (by decide +kernel)
set_option maxRecDepth 100000 in
theorem w_162 : (.fieldLink "PaneScreen$Pane" 7 "PaneScreen$Pane" "used" "Z" : Cond) ∈ TW := TW_at (n := 62) (by decide +kernel) (by decide +kernel)
set_option maxRecDepth 100000 in
theorem w_163 : (.fieldLink "PaneScreen$Pane" 33 "PaneScreen$Pane" "penU" "I" : Cond) ∈ TW := TW_at (n := 74) (by decide +kernel) (by decide +kernel)
set_option maxRecDepth 100000 in
theorem w_164 : (.fieldLink "PaneScreen$Pane" 36 "PaneScreen$Pane" "penV" "I" : Cond) ∈ TW := TW_at (n := 76) (by decide +kernel) (by decide +kernel)
set_option maxRecDepth 100000 in
theorem w_165 : (.methodLink "PaneScreen$Damage" 37 ⟨"PaneScreen$Damage", "put", "(IIIII)V"⟩ : Cond) ∈ TW := TW_at (n := 401) (by decide +kernel) (by decide +kernel)
set_option maxRecDepth 100000 in
theorem w_166 : (.instanceMethod ⟨"PaneScreen$Damage", "put", "(IIIII)V"⟩ : Cond) ∈ TW := TW_at (n := 403) (by decide +kernel) (by decide +kernel)
set_option maxRecDepth 100000 in
theorem w_167 : (.selects "PaneScreen$Damage" ⟨"PaneScreen$Damage", "put", "(IIIII)V"⟩ ⟨"PaneScreen$Damage", "put", "(IIIII)V"⟩ : Cond) ∈ TW := TW_at (n := 6) (by decide +kernel) (by decide +kernel)
set_option maxRecDepth 100000 in
theorem w_168 : (.initialized "PaneScreen$Damage" : Cond) ∈ TW := TW_at (n := 35) (by decide +kernel) (by decide +kernel)
set_option maxRecDepth 100000 in
theorem w_169 : (.code ⟨"PaneScreen$Damage", "put", "(IIIII)V"⟩ prog_2_method_5_code 6 (Option.none : Option Jvm.ClassFile.FieldType) : Cond) ∈ TW := TW_at (n := 404) (by decide +kernel) (by decide +kernel)
set_option maxRecDepth 100000 in
theorem w_170 : (.methodLink "PaneScreen$Damage" 41 ⟨"PaneScreen$Damage", "joinAllWith", "(IIII)V"⟩ : Cond) ∈ TW := TW_at (n := 405) (by decide +kernel) (by decide +kernel)
set_option maxRecDepth 100000 in
theorem w_171 : (.instanceMethod ⟨"PaneScreen$Damage", "joinAllWith", "(IIII)V"⟩ : Cond) ∈ TW := TW_at (n := 407) (by decide +kernel) (by decide +kernel)
set_option maxRecDepth 100000 in
theorem w_172 : (.selects "PaneScreen$Damage" ⟨"PaneScreen$Damage", "joinAllWith", "(IIII)V"⟩ ⟨"PaneScreen$Damage", "joinAllWith", "(IIII)V"⟩ : Cond) ∈ TW := TW_at (n := 7) (by decide +kernel) (by decide +kernel)
set_option maxRecDepth 100000 in
theorem w_173 : (.code ⟨"PaneScreen$Damage", "joinAllWith", "(IIII)V"⟩ prog_2_method_6_code 10 (Option.none : Option Jvm.ClassFile.FieldType) : Cond) ∈ TW := TW_at (n := 408) (by decide +kernel) (by decide +kernel)
set_option maxRecDepth 100000 in
theorem w_174 : (.methodLink "PaneScreen$EventLine" 43 ⟨"PaneScreen$EventLine", "copy", "(II)V"⟩ : Cond) ∈ TW := TW_at (n := 452) (by decide +kernel) (by decide +kernel)
set_option maxRecDepth 100000 in
theorem w_175 : (.instanceMethod ⟨"PaneScreen$EventLine", "copy", "(II)V"⟩ : Cond) ∈ TW := TW_at (n := 454) (by decide +kernel) (by decide +kernel)
set_option maxRecDepth 100000 in
theorem w_176 : (.selects "PaneScreen$EventLine" ⟨"PaneScreen$EventLine", "copy", "(II)V"⟩ ⟨"PaneScreen$EventLine", "copy", "(II)V"⟩ : Cond) ∈ TW := TW_at (n := 9) (by decide +kernel) (by decide +kernel)
set_option maxRecDepth 100000 in
theorem w_177 : (.initialized "PaneScreen$EventLine" : Cond) ∈ TW := TW_at (n := 36) (by decide +kernel) (by decide +kernel)
set_option maxRecDepth 100000 in
theorem w_178 : (.code ⟨"PaneScreen$EventLine", "copy", "(II)V"⟩ prog_3_method_5_code 3 (Option.none : Option Jvm.ClassFile.FieldType) : Cond) ∈ TW := TW_at (n := 455) (by decide +kernel) (by decide +kernel)
set_option maxRecDepth 100000 in
theorem w_179 : (.methodLink "PaneScreenModel" 81 ⟨"PaneScreenModel", "damage", "(IIII)V"⟩ : Cond) ∈ TW := TW_at (n := 788) (by decide +kernel) (by decide +kernel)
set_option maxRecDepth 100000 in
theorem w_180 : (.instanceMethod ⟨"PaneScreenModel", "damage", "(IIII)V"⟩ : Cond) ∈ TW := TW_at (n := 790) (by decide +kernel) (by decide +kernel)
set_option maxRecDepth 100000 in
theorem w_181 : (.selects "PaneScreenModel" ⟨"PaneScreenModel", "damage", "(IIII)V"⟩ ⟨"PaneScreenModel", "damage", "(IIII)V"⟩ : Cond) ∈ TW := TW_at (n := 17) (by decide +kernel) (by decide +kernel)
set_option maxRecDepth 100000 in
theorem w_182 : (.initialized "PaneScreenModel" : Cond) ∈ TW := TW_at (n := 37) (by decide +kernel) (by decide +kernel)
set_option maxRecDepth 100000 in
theorem w_183 : (.code ⟨"PaneScreenModel", "damage", "(IIII)V"⟩ prog_8_method_7_code 10 (Option.none : Option Jvm.ClassFile.FieldType) : Cond) ∈ TW := TW_at (n := 791) (by decide +kernel) (by decide +kernel)
set_option maxRecDepth 100000 in
theorem w_184 : (.methodLink "PaneScreenModel" 85 ⟨"PaneScreenModel", "inPicture", "(III)Z"⟩ : Cond) ∈ TW := TW_at (n := 831) (by decide +kernel) (by decide +kernel)
set_option maxRecDepth 100000 in
theorem w_185 : (.instanceMethod ⟨"PaneScreenModel", "inPicture", "(III)Z"⟩ : Cond) ∈ TW := TW_at (n := 833) (by decide +kernel) (by decide +kernel)
set_option maxRecDepth 100000 in
theorem w_186 : (.selects "PaneScreenModel" ⟨"PaneScreenModel", "inPicture", "(III)Z"⟩ ⟨"PaneScreenModel", "inPicture", "(III)Z"⟩ : Cond) ∈ TW := TW_at (n := 23) (by decide +kernel) (by decide +kernel)
set_option maxRecDepth 100000 in
theorem w_187 : (.code ⟨"PaneScreenModel", "inPicture", "(III)Z"⟩ prog_8_method_6_code 4 (Option.some .boolean) : Cond) ∈ TW := TW_at (n := 834) (by decide +kernel) (by decide +kernel)
set_option maxRecDepth 100000 in
theorem w_188 : (.methodLink "PaneScreenModel" 105 ⟨"PaneScreenModel", "isFree", "(I)Z"⟩ : Cond) ∈ TW := TW_at (n := 776) (by decide +kernel) (by decide +kernel)
set_option maxRecDepth 100000 in
theorem w_189 : (.instanceMethod ⟨"PaneScreenModel", "isFree", "(I)Z"⟩ : Cond) ∈ TW := TW_at (n := 778) (by decide +kernel) (by decide +kernel)
set_option maxRecDepth 100000 in
theorem w_190 : (.selects "PaneScreenModel" ⟨"PaneScreenModel", "isFree", "(I)Z"⟩ ⟨"PaneScreenModel", "isFree", "(I)Z"⟩ : Cond) ∈ TW := TW_at (n := 14) (by decide +kernel) (by decide +kernel)
set_option maxRecDepth 100000 in
theorem w_191 : (.code ⟨"PaneScreenModel", "isFree", "(I)Z"⟩ prog_8_method_12_code 4 (Option.some .boolean) : Cond) ∈ TW := TW_at (n := 779) (by decide +kernel) (by decide +kernel)
set_option maxRecDepth 100000 in
theorem w_192 : (.methodLink "PaneScreenModel" 109 ⟨"PaneScreenModel", "near", "(I)Z"⟩ : Cond) ∈ TW := TW_at (n := 769) (by decide +kernel) (by decide +kernel)
set_option maxRecDepth 100000 in
theorem w_193 : (.static ⟨"PaneScreenModel", "near", "(I)Z"⟩ : Cond) ∈ TW := TW_at (n := 770) (by decide +kernel) (by decide +kernel)
set_option maxRecDepth 100000 in
theorem w_194 : (.code ⟨"PaneScreenModel", "near", "(I)Z"⟩ prog_8_method_3_code 1 (Option.some .boolean) : Cond) ∈ TW := TW_at (n := 771) (by decide +kernel) (by decide +kernel)
set_option maxRecDepth 100000 in
theorem w_195 : (.methodLink "PaneScreenModel" 112 ⟨"PaneScreenModel", "stretch", "(I)I"⟩ : Cond) ∈ TW := TW_at (n := 772) (by decide +kernel) (by decide +kernel)
set_option maxRecDepth 100000 in
theorem w_196 : (.instanceMethod ⟨"PaneScreenModel", "stretch", "(I)I"⟩ : Cond) ∈ TW := TW_at (n := 774) (by decide +kernel) (by decide +kernel)
set_option maxRecDepth 100000 in
theorem w_197 : (.selects "PaneScreenModel" ⟨"PaneScreenModel", "stretch", "(I)I"⟩ ⟨"PaneScreenModel", "stretch", "(I)I"⟩ : Cond) ∈ TW := TW_at (n := 13) (by decide +kernel) (by decide +kernel)
set_option maxRecDepth 100000 in
theorem w_198 : (.code ⟨"PaneScreenModel", "stretch", "(I)I"⟩ prog_8_method_13_code 4 (Option.some .int) : Cond) ∈ TW := TW_at (n := 775) (by decide +kernel) (by decide +kernel)
set_option maxRecDepth 100000 in
theorem w_199 : (.methodLink "PaneScreenModel" 116 ⟨"PaneScreenModel", "firstClosed", "()I"⟩ : Cond) ∈ TW := TW_at (n := 780) (by decide +kernel) (by decide +kernel)
set_option maxRecDepth 100000 in
theorem w_200 : (.instanceMethod ⟨"PaneScreenModel", "firstClosed", "()I"⟩ : Cond) ∈ TW := TW_at (n := 782) (by decide +kernel) (by decide +kernel)
set_option maxRecDepth 100000 in
theorem w_201 : (.selects "PaneScreenModel" ⟨"PaneScreenModel", "firstClosed", "()I"⟩ ⟨"PaneScreenModel", "firstClosed", "()I"⟩ : Cond) ∈ TW := TW_at (n := 15) (by decide +kernel) (by decide +kernel)
set_option maxRecDepth 100000 in
theorem w_202 : (.code ⟨"PaneScreenModel", "firstClosed", "()I"⟩ prog_8_method_14_code 2 (Option.some .int) : Cond) ∈ TW := TW_at (n := 783) (by decide +kernel) (by decide +kernel)
set_option maxRecDepth 100000 in
theorem w_203 : (.methodLink "PaneScreenModel" 123 ⟨"PaneScreenModel", "damageFrame", "(I)V"⟩ : Cond) ∈ TW := TW_at (n := 784) (by decide +kernel) (by decide +kernel)
set_option maxRecDepth 100000 in
theorem w_204 : (.instanceMethod ⟨"PaneScreenModel", "damageFrame", "(I)V"⟩ : Cond) ∈ TW := TW_at (n := 786) (by decide +kernel) (by decide +kernel)
set_option maxRecDepth 100000 in
theorem w_205 : (.selects "PaneScreenModel" ⟨"PaneScreenModel", "damageFrame", "(I)V"⟩ ⟨"PaneScreenModel", "damageFrame", "(I)V"⟩ : Cond) ∈ TW := TW_at (n := 16) (by decide +kernel) (by decide +kernel)
set_option maxRecDepth 100000 in
theorem w_206 : (.code ⟨"PaneScreenModel", "damageFrame", "(I)V"⟩ prog_8_method_8_code 2 (Option.none : Option Jvm.ClassFile.FieldType) : Cond) ∈ TW := TW_at (n := 787) (by decide +kernel) (by decide +kernel)
set_option maxRecDepth 100000 in
theorem w_207 : (.methodLink "PaneScreenModel" 127 ⟨"PaneScreenModel", "isOpen", "(I)Z"⟩ : Cond) ∈ TW := TW_at (n := 796) (by decide +kernel) (by decide +kernel)
set_option maxRecDepth 100000 in
theorem w_208 : (.instanceMethod ⟨"PaneScreenModel", "isOpen", "(I)Z"⟩ : Cond) ∈ TW := TW_at (n := 798) (by decide +kernel) (by decide +kernel)
set_option maxRecDepth 100000 in
theorem w_209 : (.selects "PaneScreenModel" ⟨"PaneScreenModel", "isOpen", "(I)Z"⟩ ⟨"PaneScreenModel", "isOpen", "(I)Z"⟩ : Cond) ∈ TW := TW_at (n := 18) (by decide +kernel) (by decide +kernel)
set_option maxRecDepth 100000 in
theorem w_210 : (.code ⟨"PaneScreenModel", "isOpen", "(I)Z"⟩ prog_8_method_4_code 2 (Option.some .boolean) : Cond) ∈ TW := TW_at (n := 799) (by decide +kernel) (by decide +kernel)
set_option maxRecDepth 100000 in
theorem w_211 : (.methodLink "PaneScreenModel" 133 ⟨"PaneScreenModel", "moveEvent", "(II)V"⟩ : Cond) ∈ TW := TW_at (n := 800) (by decide +kernel) (by decide +kernel)
set_option maxRecDepth 100000 in
theorem w_212 : (.instanceMethod ⟨"PaneScreenModel", "moveEvent", "(II)V"⟩ : Cond) ∈ TW := TW_at (n := 802) (by decide +kernel) (by decide +kernel)
set_option maxRecDepth 100000 in
theorem w_213 : (.selects "PaneScreenModel" ⟨"PaneScreenModel", "moveEvent", "(II)V"⟩ ⟨"PaneScreenModel", "moveEvent", "(II)V"⟩ : Cond) ∈ TW := TW_at (n := 19) (by decide +kernel) (by decide +kernel)
set_option maxRecDepth 100000 in
theorem w_214 : (.code ⟨"PaneScreenModel", "moveEvent", "(II)V"⟩ prog_8_method_34_code 3 (Option.none : Option Jvm.ClassFile.FieldType) : Cond) ∈ TW := TW_at (n := 803) (by decide +kernel) (by decide +kernel)
set_option maxRecDepth 100000 in
theorem w_215 : (.methodLink "PaneScreenModel" 137 ⟨"PaneScreenModel", "foremost", "()I"⟩ : Cond) ∈ TW := TW_at (n := 804) (by decide +kernel) (by decide +kernel)
set_option maxRecDepth 100000 in
theorem w_216 : (.instanceMethod ⟨"PaneScreenModel", "foremost", "()I"⟩ : Cond) ∈ TW := TW_at (n := 806) (by decide +kernel) (by decide +kernel)
set_option maxRecDepth 100000 in
theorem w_217 : (.selects "PaneScreenModel" ⟨"PaneScreenModel", "foremost", "()I"⟩ ⟨"PaneScreenModel", "foremost", "()I"⟩ : Cond) ∈ TW := TW_at (n := 20) (by decide +kernel) (by decide +kernel)
set_option maxRecDepth 100000 in
theorem w_218 : (.code ⟨"PaneScreenModel", "foremost", "()I"⟩ prog_8_method_16_code 3 (Option.some .int) : Cond) ∈ TW := TW_at (n := 807) (by decide +kernel) (by decide +kernel)
set_option maxRecDepth 100000 in
theorem w_219 : (.methodLink "PaneScreenModel" 143 ⟨"PaneScreenModel", "lift", "(IZ)Z"⟩ : Cond) ∈ TW := TW_at (n := 816) (by decide +kernel) (by decide +kernel)
set_option maxRecDepth 100000 in
theorem w_220 : (.instanceMethod ⟨"PaneScreenModel", "lift", "(IZ)Z"⟩ : Cond) ∈ TW := TW_at (n := 818) (by decide +kernel) (by decide +kernel)
set_option maxRecDepth 100000 in
theorem w_221 : (.selects "PaneScreenModel" ⟨"PaneScreenModel", "lift", "(IZ)Z"⟩ ⟨"PaneScreenModel", "lift", "(IZ)Z"⟩ : Cond) ∈ TW := TW_at (n := 21) (by decide +kernel) (by decide +kernel)
set_option maxRecDepth 100000 in
theorem w_222 : (.code ⟨"PaneScreenModel", "lift", "(IZ)Z"⟩ prog_8_method_19_code 5 (Option.some .boolean) : Cond) ∈ TW := TW_at (n := 819) (by decide +kernel) (by decide +kernel)
set_option maxRecDepth 100000 in
theorem w_223 : (.methodLink "PaneScreenModel" 147 ⟨"PaneScreenModel", "colour", "(I)Z"⟩ : Cond) ∈ TW := TW_at (n := 824) (by decide +kernel) (by decide +kernel)
set_option maxRecDepth 100000 in
theorem w_224 : (.static ⟨"PaneScreenModel", "colour", "(I)Z"⟩ : Cond) ∈ TW := TW_at (n := 825) (by decide +kernel) (by decide +kernel)
set_option maxRecDepth 100000 in
theorem w_225 : (.code ⟨"PaneScreenModel", "colour", "(I)Z"⟩ prog_8_method_21_code 1 (Option.some .boolean) : Cond) ∈ TW := TW_at (n := 826) (by decide +kernel) (by decide +kernel)
set_option maxRecDepth 100000 in
theorem w_226 : (.methodLink "PaneScreenModel" 150 ⟨"PaneScreenModel", "paint", "(IIII)Z"⟩ : Cond) ∈ TW := TW_at (n := 827) (by decide +kernel) (by decide +kernel)
set_option maxRecDepth 100000 in
theorem w_227 : (.instanceMethod ⟨"PaneScreenModel", "paint", "(IIII)Z"⟩ : Cond) ∈ TW := TW_at (n := 829) (by decide +kernel) (by decide +kernel)
set_option maxRecDepth 100000 in
theorem w_228 : (.selects "PaneScreenModel" ⟨"PaneScreenModel", "paint", "(IIII)Z"⟩ ⟨"PaneScreenModel", "paint", "(IIII)Z"⟩ : Cond) ∈ TW := TW_at (n := 22) (by decide +kernel) (by decide +kernel)
set_option maxRecDepth 100000 in
theorem w_229 : (.code ⟨"PaneScreenModel", "paint", "(IIII)Z"⟩ prog_8_method_10_code 5 (Option.some .boolean) : Cond) ∈ TW := TW_at (n := 830) (by decide +kernel) (by decide +kernel)
set_option maxRecDepth 100000 in
theorem w_230 : (.methodLink "PaneScreenModel" 154 ⟨"PaneScreenModel", "damageChanged", "(I)V"⟩ : Cond) ∈ TW := TW_at (n := 835) (by decide +kernel) (by decide +kernel)
set_option maxRecDepth 100000 in
theorem w_231 : (.instanceMethod ⟨"PaneScreenModel", "damageChanged", "(I)V"⟩ : Cond) ∈ TW := TW_at (n := 837) (by decide +kernel) (by decide +kernel)
set_option maxRecDepth 100000 in
theorem w_232 : (.selects "PaneScreenModel" ⟨"PaneScreenModel", "damageChanged", "(I)V"⟩ ⟨"PaneScreenModel", "damageChanged", "(I)V"⟩ : Cond) ∈ TW := TW_at (n := 24) (by decide +kernel) (by decide +kernel)
set_option maxRecDepth 100000 in
theorem w_233 : (.code ⟨"PaneScreenModel", "damageChanged", "(I)V"⟩ prog_8_method_11_code 2 (Option.none : Option Jvm.ClassFile.FieldType) : Cond) ∈ TW := TW_at (n := 838) (by decide +kernel) (by decide +kernel)
set_option maxRecDepth 100000 in
theorem w_234 : (.methodLink "PaneScreenModel" 157 ⟨"PaneScreenModel", "div", "(II)I"⟩ : Cond) ∈ TW := TW_at (n := 851) (by decide +kernel) (by decide +kernel)
set_option maxRecDepth 100000 in
theorem w_235 : (.static ⟨"PaneScreenModel", "div", "(II)I"⟩ : Cond) ∈ TW := TW_at (n := 852) (by decide +kernel) (by decide +kernel)
set_option maxRecDepth 100000 in
theorem w_236 : (.code ⟨"PaneScreenModel", "div", "(II)I"⟩ prog_8_method_25_code 3 (Option.some .int) : Cond) ∈ TW := TW_at (n := 853) (by decide +kernel) (by decide +kernel)
set_option maxRecDepth 100000 in
theorem w_237 : (.methodLink "PaneScreenModel" 161 ⟨"PaneScreenModel", "isDamaged", "(II)Z"⟩ : Cond) ∈ TW := TW_at (n := 862) (by decide +kernel) (by decide +kernel)
set_option maxRecDepth 100000 in
theorem w_238 : (.instanceMethod ⟨"PaneScreenModel", "isDamaged", "(II)Z"⟩ : Cond) ∈ TW := TW_at (n := 864) (by decide +kernel) (by decide +kernel)
set_option maxRecDepth 100000 in
theorem w_239 : (.selects "PaneScreenModel" ⟨"PaneScreenModel", "isDamaged", "(II)Z"⟩ ⟨"PaneScreenModel", "isDamaged", "(II)Z"⟩ : Cond) ∈ TW := TW_at (n := 25) (by decide +kernel) (by decide +kernel)
set_option maxRecDepth 100000 in
theorem w_240 : (.code ⟨"PaneScreenModel", "isDamaged", "(II)Z"⟩ prog_8_method_9_code 5 (Option.some .boolean) : Cond) ∈ TW := TW_at (n := 865) (by decide +kernel) (by decide +kernel)
set_option maxRecDepth 100000 in
theorem w_241 : (.methodLink "PaneScreenModel" 165 ⟨"PaneScreenModel", "owner", "(II)I"⟩ : Cond) ∈ TW := TW_at (n := 866) (by decide +kernel) (by decide +kernel)
set_option maxRecDepth 100000 in
theorem w_242 : (.instanceMethod ⟨"PaneScreenModel", "owner", "(II)I"⟩ : Cond) ∈ TW := TW_at (n := 868) (by decide +kernel) (by decide +kernel)
set_option maxRecDepth 100000 in
theorem w_243 : (.selects "PaneScreenModel" ⟨"PaneScreenModel", "owner", "(II)I"⟩ ⟨"PaneScreenModel", "owner", "(II)I"⟩ : Cond) ∈ TW := TW_at (n := 26) (by decide +kernel) (by decide +kernel)
set_option maxRecDepth 100000 in
theorem w_244 : (.code ⟨"PaneScreenModel", "owner", "(II)I"⟩ prog_8_method_28_code 6 (Option.some .int) : Cond) ∈ TW := TW_at (n := 869) (by decide +kernel) (by decide +kernel)
set_option maxRecDepth 100000 in
theorem w_245 : (.methodLink "PaneScreenModel" 171 ⟨"PaneScreenModel", "onScreen", "(II)Z"⟩ : Cond) ∈ TW := TW_at (n := 874) (by decide +kernel) (by decide +kernel)
set_option maxRecDepth 100000 in
theorem w_246 : (.static ⟨"PaneScreenModel", "onScreen", "(II)Z"⟩ : Cond) ∈ TW := TW_at (n := 875) (by decide +kernel) (by decide +kernel)
set_option maxRecDepth 100000 in
theorem w_247 : (.code ⟨"PaneScreenModel", "onScreen", "(II)Z"⟩ prog_8_method_5_code 2 (Option.some .boolean) : Cond) ∈ TW := TW_at (n := 876) (by decide +kernel) (by decide +kernel)
set_option maxRecDepth 100000 in
theorem w_248 : (.methodLink "PaneScreenModel" 177 ⟨"PaneScreenModel", "tell", "(IIII)V"⟩ : Cond) ∈ TW := TW_at (n := 893) (by decide +kernel) (by decide +kernel)
set_option maxRecDepth 100000 in
theorem w_249 : (.instanceMethod ⟨"PaneScreenModel", "tell", "(IIII)V"⟩ : Cond) ∈ TW := TW_at (n := 895) (by decide +kernel) (by decide +kernel)
set_option maxRecDepth 100000 in
theorem w_250 : (.selects "PaneScreenModel" ⟨"PaneScreenModel", "tell", "(IIII)V"⟩ ⟨"PaneScreenModel", "tell", "(IIII)V"⟩ : Cond) ∈ TW := TW_at (n := 27) (by decide +kernel) (by decide +kernel)
set_option maxRecDepth 100000 in
theorem w_251 : (.code ⟨"PaneScreenModel", "tell", "(IIII)V"⟩ prog_8_method_35_code 5 (Option.none : Option Jvm.ClassFile.FieldType) : Cond) ∈ TW := TW_at (n := 896) (by decide +kernel) (by decide +kernel)
set_option maxRecDepth 100000 in
theorem w_252 : (.methodLink "PaneScreenModel" 192 ⟨"PaneScreenModel", "openOnes", "()I"⟩ : Cond) ∈ TW := TW_at (n := 913) (by decide +kernel) (by decide +kernel)
set_option maxRecDepth 100000 in
theorem w_253 : (.instanceMethod ⟨"PaneScreenModel", "openOnes", "()I"⟩ : Cond) ∈ TW := TW_at (n := 915) (by decide +kernel) (by decide +kernel)
set_option maxRecDepth 100000 in
theorem w_254 : (.selects "PaneScreenModel" ⟨"PaneScreenModel", "openOnes", "()I"⟩ ⟨"PaneScreenModel", "openOnes", "()I"⟩ : Cond) ∈ TW := TW_at (n := 28) (by decide +kernel) (by decide +kernel)
set_option maxRecDepth 100000 in
theorem w_255 : (.code ⟨"PaneScreenModel", "openOnes", "()I"⟩ prog_8_method_41_code 3 (Option.some .int) : Cond) ∈ TW := TW_at (n := 916) (by decide +kernel) (by decide +kernel)
set_option maxRecDepth 100000 in
theorem w_256 : (.methodLink "PaneScreenModel" 195 ⟨"PaneScreenModel", "freeCells", "(Z)I"⟩ : Cond) ∈ TW := TW_at (n := 917) (by decide +kernel) (by decide +kernel)
set_option maxRecDepth 100000 in
theorem w_257 : (.instanceMethod ⟨"PaneScreenModel", "freeCells", "(Z)I"⟩ : Cond) ∈ TW := TW_at (n := 919) (by decide +kernel) (by decide +kernel)
set_option maxRecDepth 100000 in
theorem w_258 : (.selects "PaneScreenModel" ⟨"PaneScreenModel", "freeCells", "(Z)I"⟩ ⟨"PaneScreenModel", "freeCells", "(Z)I"⟩ : Cond) ∈ TW := TW_at (n := 29) (by decide +kernel) (by decide +kernel)
set_option maxRecDepth 100000 in
theorem w_259 : (.code ⟨"PaneScreenModel", "freeCells", "(Z)I"⟩ prog_8_method_40_code 7 (Option.some .int) : Cond) ∈ TW := TW_at (n := 920) (by decide +kernel) (by decide +kernel)
set_option maxRecDepth 100000 in
theorem w_260 : (.methodLink "PaneScreen$Pane" 23 ⟨"PaneScreen$Pane", "putPen", "(II)V"⟩ : Cond) ∈ TW := TW_at (n := 371) (by decide +kernel) (by decide +kernel)
set_option maxRecDepth 100000 in
theorem w_261 : (.instanceMethod ⟨"PaneScreen$Pane", "putPen", "(II)V"⟩ : Cond) ∈ TW := TW_at (n := 372) (by decide +kernel) (by decide +kernel)
set_option maxRecDepth 100000 in
theorem w_262 : (.selects "PaneScreen$Pane" ⟨"PaneScreen$Pane", "putPen", "(II)V"⟩ ⟨"PaneScreen$Pane", "putPen", "(II)V"⟩ : Cond) ∈ TW := TW_at (n := 373) (by decide +kernel) (by decide +kernel)
set_option maxRecDepth 100000 in
theorem w_263 : (.initialized "PaneScreen$Pane" : Cond) ∈ TW := TW_at (n := 32) (by decide +kernel) (by decide +kernel)
set_option maxRecDepth 100000 in
theorem w_264 : (.code ⟨"PaneScreen$Pane", "putPen", "(II)V"⟩ prog_5_method_5_code 3 (Option.none : Option Jvm.ClassFile.FieldType) : Cond) ∈ TW := TW_at (n := 374) (by decide +kernel) (by decide +kernel)
set_option maxRecDepth 100000 in
theorem w_265 : (.methodLink "PaneScreen$Pane" 39 ⟨"PaneScreen$Pane", "has", "(II)Z"⟩ : Cond) ∈ TW := TW_at (n := 241) (by decide +kernel) (by decide +kernel)
set_option maxRecDepth 100000 in
theorem w_266 : (.instanceMethod ⟨"PaneScreen$Pane", "has", "(II)Z"⟩ : Cond) ∈ TW := TW_at (n := 242) (by decide +kernel) (by decide +kernel)
set_option maxRecDepth 100000 in
theorem w_267 : (.selects "PaneScreen$Pane" ⟨"PaneScreen$Pane", "has", "(II)Z"⟩ ⟨"PaneScreen$Pane", "has", "(II)Z"⟩ : Cond) ∈ TW := TW_at (n := 243) (by decide +kernel) (by decide +kernel)
set_option maxRecDepth 100000 in
theorem w_268 : (.code ⟨"PaneScreen$Pane", "has", "(II)Z"⟩ prog_5_method_6_code 3 (Option.some .boolean) : Cond) ∈ TW := TW_at (n := 244) (by decide +kernel) (by decide +kernel)
set_option maxRecDepth 100000 in
theorem w_269 : (.methodLink "PaneScreen" 55 ⟨"PaneScreen", "requireNear", "(II)V"⟩ : Cond) ∈ TW := TW_at (n := 270) (by decide +kernel) (by decide +kernel)
set_option maxRecDepth 100000 in
theorem w_270 : (.static ⟨"PaneScreen", "requireNear", "(II)V"⟩ : Cond) ∈ TW := TW_at (n := 271) (by decide +kernel) (by decide +kernel)
set_option maxRecDepth 100000 in
theorem w_271 : (.initialized "PaneScreen" : Cond) ∈ TW := TW_at (n := 31) (by decide +kernel) (by decide +kernel)
set_option maxRecDepth 100000 in
theorem w_272 : (.code ⟨"PaneScreen", "requireNear", "(II)V"⟩ prog_1_method_22_code 2 (Option.none : Option Jvm.ClassFile.FieldType) : Cond) ∈ TW := TW_at (n := 272) (by decide +kernel) (by decide +kernel)
set_option maxRecDepth 100000 in
theorem w_273 : (.methodLink "PaneScreen" 59 ⟨"PaneScreen", "requireSize", "(II)V"⟩ : Cond) ∈ TW := TW_at (n := 337) (by decide +kernel) (by decide +kernel)
set_option maxRecDepth 100000 in
theorem w_274 : (.static ⟨"PaneScreen", "requireSize", "(II)V"⟩ : Cond) ∈ TW := TW_at (n := 338) (by decide +kernel) (by decide +kernel)
set_option maxRecDepth 100000 in
theorem w_275 : (.code ⟨"PaneScreen", "requireSize", "(II)V"⟩ prog_1_method_23_code 2 (Option.none : Option Jvm.ClassFile.FieldType) : Cond) ∈ TW := TW_at (n := 339) (by decide +kernel) (by decide +kernel)
set_option maxRecDepth 100000 in
theorem w_276 : (.methodLink "PaneScreen" 62 ⟨"PaneScreen", "leastClosed", "()I"⟩ : Cond) ∈ TW := TW_at (n := 340) (by decide +kernel) (by decide +kernel)
set_option maxRecDepth 100000 in
theorem w_277 : (.instanceMethod ⟨"PaneScreen", "leastClosed", "()I"⟩ : Cond) ∈ TW := TW_at (n := 342) (by decide +kernel) (by decide +kernel)
set_option maxRecDepth 100000 in
theorem w_278 : (.selects "PaneScreen" ⟨"PaneScreen", "leastClosed", "()I"⟩ ⟨"PaneScreen", "leastClosed", "()I"⟩ : Cond) ∈ TW := TW_at (n := 3) (by decide +kernel) (by decide +kernel)
set_option maxRecDepth 100000 in
theorem w_279 : (.code ⟨"PaneScreen", "leastClosed", "()I"⟩ prog_1_method_27_code 2 (Option.some .int) : Cond) ∈ TW := TW_at (n := 343) (by decide +kernel) (by decide +kernel)
set_option maxRecDepth 100000 in
theorem w_280 : (.methodLink "PaneScreen" 66 ⟨"PaneScreen$Store", "firstFree", "(I)I"⟩ : Cond) ∈ TW := TW_at (n := 344) (by decide +kernel) (by decide +kernel)
set_option maxRecDepth 100000 in
theorem w_281 : (.instanceMethod ⟨"PaneScreen$Store", "firstFree", "(I)I"⟩ : Cond) ∈ TW := TW_at (n := 345) (by decide +kernel) (by decide +kernel)
set_option maxRecDepth 100000 in
theorem w_282 : (.selects "PaneScreen$Store" ⟨"PaneScreen$Store", "firstFree", "(I)I"⟩ ⟨"PaneScreen$Store", "firstFree", "(I)I"⟩ : Cond) ∈ TW := TW_at (n := 346) (by decide +kernel) (by decide +kernel)
set_option maxRecDepth 100000 in
theorem w_283 : (.initialized "PaneScreen$Store" : Cond) ∈ TW := TW_at (n := 34) (by decide +kernel) (by decide +kernel)
set_option maxRecDepth 100000 in
theorem w_284 : (.code ⟨"PaneScreen$Store", "firstFree", "(I)I"⟩ prog_6_method_2_code 4 (Option.some .int) : Cond) ∈ TW := TW_at (n := 347) (by decide +kernel) (by decide +kernel)
set_option maxRecDepth 100000 in
theorem w_285 : (.methodLink "PaneScreen" 73 ⟨"PaneScreen$Store", "take", "(II)V"⟩ : Cond) ∈ TW := TW_at (n := 363) (by decide +kernel) (by decide +kernel)
set_option maxRecDepth 100000 in
theorem w_286 : (.instanceMethod ⟨"PaneScreen$Store", "take", "(II)V"⟩ : Cond) ∈ TW := TW_at (n := 364) (by decide +kernel) (by decide +kernel)
set_option maxRecDepth 100000 in
theorem w_287 : (.selects "PaneScreen$Store" ⟨"PaneScreen$Store", "take", "(II)V"⟩ ⟨"PaneScreen$Store", "take", "(II)V"⟩ : Cond) ∈ TW := TW_at (n := 365) (by decide +kernel) (by decide +kernel)
set_option maxRecDepth 100000 in
theorem w_288 : (.code ⟨"PaneScreen$Store", "take", "(II)V"⟩ prog_6_method_3_code 4 (Option.none : Option Jvm.ClassFile.FieldType) : Cond) ∈ TW := TW_at (n := 366) (by decide +kernel) (by decide +kernel)
set_option maxRecDepth 100000 in
theorem w_289 : (.methodLink "PaneScreen" 76 ⟨"PaneScreen$Pane", "begin", "(III)V"⟩ : Cond) ∈ TW := TW_at (n := 367) (by decide +kernel) (by decide +kernel)
set_option maxRecDepth 100000 in
theorem w_290 : (.instanceMethod ⟨"PaneScreen$Pane", "begin", "(III)V"⟩ : Cond) ∈ TW := TW_at (n := 368) (by decide +kernel) (by decide +kernel)
set_option maxRecDepth 100000 in
theorem w_291 : (.selects "PaneScreen$Pane" ⟨"PaneScreen$Pane", "begin", "(III)V"⟩ ⟨"PaneScreen$Pane", "begin", "(III)V"⟩ : Cond) ∈ TW := TW_at (n := 369) (by decide +kernel) (by decide +kernel)
set_option maxRecDepth 100000 in
theorem w_292 : (.code ⟨"PaneScreen$Pane", "begin", "(III)V"⟩ prog_5_method_2_code 4 (Option.none : Option Jvm.ClassFile.FieldType) : Cond) ∈ TW := TW_at (n := 370) (by decide +kernel) (by decide +kernel)
set_option maxRecDepth 100000 in
theorem w_293 : (.methodLink "PaneScreen" 80 ⟨"PaneScreen$Pane", "place", "(II)V"⟩ : Cond) ∈ TW := TW_at (n := 375) (by decide +kernel) (by decide +kernel)
set_option maxRecDepth 100000 in
theorem w_294 : (.instanceMethod ⟨"PaneScreen$Pane", "place", "(II)V"⟩ : Cond) ∈ TW := TW_at (n := 376) (by decide +kernel) (by decide +kernel)
set_option maxRecDepth 100000 in
theorem w_295 : (.selects "PaneScreen$Pane" ⟨"PaneScreen$Pane", "place", "(II)V"⟩ ⟨"PaneScreen$Pane", "place", "(II)V"⟩ : Cond) ∈ TW := TW_at (n := 377) (by decide +kernel) (by decide +kernel)
set_option maxRecDepth 100000 in
theorem w_296 : (.code ⟨"PaneScreen$Pane", "place", "(II)V"⟩ prog_5_method_4_code 3 (Option.none : Option Jvm.ClassFile.FieldType) : Cond) ∈ TW := TW_at (n := 378) (by decide +kernel) (by decide +kernel)
set_option maxRecDepth 100000 in
theorem w_297 : (.methodLink "PaneScreen" 83 ⟨"PaneScreen$Order", "addInFront", "(I)V"⟩ : Cond) ∈ TW := TW_at (n := 379) (by decide +kernel) (by decide +kernel)
set_option maxRecDepth 100000 in
theorem w_298 : (.instanceMethod ⟨"PaneScreen$Order", "addInFront", "(I)V"⟩ : Cond) ∈ TW := TW_at (n := 380) (by decide +kernel) (by decide +kernel)
set_option maxRecDepth 100000 in
theorem w_299 : (.selects "PaneScreen$Order" ⟨"PaneScreen$Order", "addInFront", "(I)V"⟩ ⟨"PaneScreen$Order", "addInFront", "(I)V"⟩ : Cond) ∈ TW := TW_at (n := 381) (by decide +kernel) (by decide +kernel)
set_option maxRecDepth 100000 in
theorem w_300 : (.initialized "PaneScreen$Order" : Cond) ∈ TW := TW_at (n := 33) (by decide +kernel) (by decide +kernel)
set_option maxRecDepth 100000 in
theorem w_301 : (.code ⟨"PaneScreen$Order", "addInFront", "(I)V"⟩ prog_4_method_4_code 3 (Option.none : Option Jvm.ClassFile.FieldType) : Cond) ∈ TW := TW_at (n := 382) (by decide +kernel) (by decide +kernel)
set_option maxRecDepth 100000 in
theorem w_302 : (.methodLink "PaneScreen" 87 ⟨"PaneScreen", "damageFrame", "(LPaneScreen$Pane;)V"⟩ : Cond) ∈ TW := TW_at (n := 383) (by decide +kernel) (by decide +kernel)
set_option maxRecDepth 100000 in
theorem w_303 : (.instanceMethod ⟨"PaneScreen", "damageFrame", "(LPaneScreen$Pane;)V"⟩ : Cond) ∈ TW := TW_at (n := 385) (by decide +kernel) (by decide +kernel)
set_option maxRecDepth 100000 in
theorem w_304 : (.selects "PaneScreen" ⟨"PaneScreen", "damageFrame", "(LPaneScreen$Pane;)V"⟩ ⟨"PaneScreen", "damageFrame", "(LPaneScreen$Pane;)V"⟩ : Cond) ∈ TW := TW_at (n := 4) (by decide +kernel) (by decide +kernel)
set_option maxRecDepth 100000 in
theorem w_305 : (.code ⟨"PaneScreen", "damageFrame", "(LPaneScreen$Pane;)V"⟩ prog_1_method_30_code 2 (Option.none : Option Jvm.ClassFile.FieldType) : Cond) ∈ TW := TW_at (n := 386) (by decide +kernel) (by decide +kernel)
set_option maxRecDepth 100000 in
theorem w_306 : (.methodLink "PaneScreen" 91 ⟨"PaneScreen", "openPane", "(I)LPaneScreen$Pane;"⟩ : Cond) ∈ TW := TW_at (n := 417) (by decide +kernel) (by decide +kernel)
set_option maxRecDepth 100000 in
theorem w_307 : (.instanceMethod ⟨"PaneScreen", "openPane", "(I)LPaneScreen$Pane;"⟩ : Cond) ∈ TW := TW_at (n := 419) (by decide +kernel) (by decide +kernel)
set_option maxRecDepth 100000 in
theorem w_308 : (.selects "PaneScreen" ⟨"PaneScreen", "openPane", "(I)LPaneScreen$Pane;"⟩ ⟨"PaneScreen", "openPane", "(I)LPaneScreen$Pane;"⟩ : Cond) ∈ TW := TW_at (n := 8) (by decide +kernel) (by decide +kernel)
set_option maxRecDepth 100000 in
theorem w_309 : (.code ⟨"PaneScreen", "openPane", "(I)LPaneScreen$Pane;"⟩ prog_1_method_21_code 2 (Option.some (.object "PaneScreen$Pane")) : Cond) ∈ TW := TW_at (n := 420) (by decide +kernel) (by decide +kernel)
set_option maxRecDepth 100000 in
theorem w_310 : (.methodLink "PaneScreen" 104 ⟨"PaneScreen$Store", "release", "(II)V"⟩ : Cond) ∈ TW := TW_at (n := 436) (by decide +kernel) (by decide +kernel)
set_option maxRecDepth 100000 in
theorem w_311 : (.instanceMethod ⟨"PaneScreen$Store", "release", "(II)V"⟩ : Cond) ∈ TW := TW_at (n := 437) (by decide +kernel) (by decide +kernel)
set_option maxRecDepth 100000 in
theorem w_312 : (.selects "PaneScreen$Store" ⟨"PaneScreen$Store", "release", "(II)V"⟩ ⟨"PaneScreen$Store", "release", "(II)V"⟩ : Cond) ∈ TW := TW_at (n := 438) (by decide +kernel) (by decide +kernel)
set_option maxRecDepth 100000 in
theorem w_313 : (.code ⟨"PaneScreen$Store", "release", "(II)V"⟩ prog_6_method_4_code 4 (Option.none : Option Jvm.ClassFile.FieldType) : Cond) ∈ TW := TW_at (n := 439) (by decide +kernel) (by decide +kernel)
set_option maxRecDepth 100000 in
theorem w_314 : (.methodLink "PaneScreen" 107 ⟨"PaneScreen$Pane", "end", "()V"⟩ : Cond) ∈ TW := TW_at (n := 440) (by decide +kernel) (by decide +kernel)
set_option maxRecDepth 100000 in
theorem w_315 : (.instanceMethod ⟨"PaneScreen$Pane", "end", "()V"⟩ : Cond) ∈ TW := TW_at (n := 441) (by decide +kernel) (by decide +kernel)
set_option maxRecDepth 100000 in
theorem w_316 : (.selects "PaneScreen$Pane" ⟨"PaneScreen$Pane", "end", "()V"⟩ ⟨"PaneScreen$Pane", "end", "()V"⟩ : Cond) ∈ TW := TW_at (n := 442) (by decide +kernel) (by decide +kernel)
set_option maxRecDepth 100000 in
theorem w_317 : (.code ⟨"PaneScreen$Pane", "end", "()V"⟩ prog_5_method_3_code 1 (Option.none : Option Jvm.ClassFile.FieldType) : Cond) ∈ TW := TW_at (n := 443) (by decide +kernel) (by decide +kernel)
set_option maxRecDepth 100000 in
theorem w_318 : (.methodLink "PaneScreen" 110 ⟨"PaneScreen$Order", "remove", "(I)V"⟩ : Cond) ∈ TW := TW_at (n := 444) (by decide +kernel) (by decide +kernel)
set_option maxRecDepth 100000 in
theorem w_319 : (.instanceMethod ⟨"PaneScreen$Order", "remove", "(I)V"⟩ : Cond) ∈ TW := TW_at (n := 445) (by decide +kernel) (by decide +kernel)
set_option maxRecDepth 100000 in
theorem w_320 : (.selects "PaneScreen$Order" ⟨"PaneScreen$Order", "remove", "(I)V"⟩ ⟨"PaneScreen$Order", "remove", "(I)V"⟩ : Cond) ∈ TW := TW_at (n := 446) (by decide +kernel) (by decide +kernel)
set_option maxRecDepth 100000 in
theorem w_321 : (.code ⟨"PaneScreen$Order", "remove", "(I)V"⟩ prog_4_method_6_code 4 (Option.none : Option Jvm.ClassFile.FieldType) : Cond) ∈ TW := TW_at (n := 447) (by decide +kernel) (by decide +kernel)
set_option maxRecDepth 100000 in
theorem w_322 : (.methodLink "PaneScreen" 113 ⟨"PaneScreen$EventLine", "removeAllOf", "(I)V"⟩ : Cond) ∈ TW := TW_at (n := 448) (by decide +kernel) (by decide +kernel)
set_option maxRecDepth 100000 in
theorem w_323 : (.instanceMethod ⟨"PaneScreen$EventLine", "removeAllOf", "(I)V"⟩ : Cond) ∈ TW := TW_at (n := 449) (by decide +kernel) (by decide +kernel)
set_option maxRecDepth 100000 in
theorem w_324 : (.selects "PaneScreen$EventLine" ⟨"PaneScreen$EventLine", "removeAllOf", "(I)V"⟩ ⟨"PaneScreen$EventLine", "removeAllOf", "(I)V"⟩ : Cond) ∈ TW := TW_at (n := 450) (by decide +kernel) (by decide +kernel)
set_option maxRecDepth 100000 in
theorem w_325 : (.code ⟨"PaneScreen$EventLine", "removeAllOf", "(I)V"⟩ prog_3_method_4_code 4 (Option.none : Option Jvm.ClassFile.FieldType) : Cond) ∈ TW := TW_at (n := 451) (by decide +kernel) (by decide +kernel)
set_option maxRecDepth 100000 in
theorem w_326 : (.methodLink "PaneScreen" 116 ⟨"PaneScreen$Order", "first", "()I"⟩ : Cond) ∈ TW := TW_at (n := 456) (by decide +kernel) (by decide +kernel)
set_option maxRecDepth 100000 in
theorem w_327 : (.instanceMethod ⟨"PaneScreen$Order", "first", "()I"⟩ : Cond) ∈ TW := TW_at (n := 457) (by decide +kernel) (by decide +kernel)
set_option maxRecDepth 100000 in
theorem w_328 : (.selects "PaneScreen$Order" ⟨"PaneScreen$Order", "first", "()I"⟩ ⟨"PaneScreen$Order", "first", "()I"⟩ : Cond) ∈ TW := TW_at (n := 458) (by decide +kernel) (by decide +kernel)
set_option maxRecDepth 100000 in
theorem w_329 : (.code ⟨"PaneScreen$Order", "first", "()I"⟩ prog_4_method_2_code 1 (Option.some .int) : Cond) ∈ TW := TW_at (n := 459) (by decide +kernel) (by decide +kernel)
set_option maxRecDepth 100000 in
theorem w_330 : (.methodLink "PaneScreen" 119 ⟨"PaneScreen", "reorder", "(ILPaneScreen$Pane;Z)Z"⟩ : Cond) ∈ TW := TW_at (n := 474) (by decide +kernel) (by decide +kernel)
set_option maxRecDepth 100000 in
theorem w_331 : (.instanceMethod ⟨"PaneScreen", "reorder", "(ILPaneScreen$Pane;Z)Z"⟩ : Cond) ∈ TW := TW_at (n := 476) (by decide +kernel) (by decide +kernel)
set_option maxRecDepth 100000 in
theorem w_332 : (.selects "PaneScreen" ⟨"PaneScreen", "reorder", "(ILPaneScreen$Pane;Z)Z"⟩ ⟨"PaneScreen", "reorder", "(ILPaneScreen$Pane;Z)Z"⟩ : Cond) ∈ TW := TW_at (n := 10) (by decide +kernel) (by decide +kernel)
set_option maxRecDepth 100000 in
theorem w_333 : (.code ⟨"PaneScreen", "reorder", "(ILPaneScreen$Pane;Z)Z"⟩ prog_1_method_32_code 5 (Option.some .boolean) : Cond) ∈ TW := TW_at (n := 477) (by decide +kernel) (by decide +kernel)
set_option maxRecDepth 100000 in
theorem w_334 : (.methodLink "PaneScreen" 123 ⟨"PaneScreen", "requireColour", "(I)V"⟩ : Cond) ∈ TW := TW_at (n := 493) (by decide +kernel) (by decide +kernel)
set_option maxRecDepth 100000 in
theorem w_335 : (.static ⟨"PaneScreen", "requireColour", "(I)V"⟩ : Cond) ∈ TW := TW_at (n := 494) (by decide +kernel) (by decide +kernel)
set_option maxRecDepth 100000 in
theorem w_336 : (.code ⟨"PaneScreen", "requireColour", "(I)V"⟩ prog_1_method_25_code 1 (Option.none : Option Jvm.ClassFile.FieldType) : Cond) ∈ TW := TW_at (n := 495) (by decide +kernel) (by decide +kernel)
set_option maxRecDepth 100000 in
theorem w_337 : (.methodLink "PaneScreen" 126 ⟨"PaneScreen$Pane", "has", "(II)Z"⟩ : Cond) ∈ TW := TW_at (n := 496) (by decide +kernel) (by decide +kernel)
set_option maxRecDepth 100000 in
theorem w_338 : (.methodLink "PaneScreen" 133 ⟨"PaneScreen$Pane", "cell", "(II)I"⟩ : Cond) ∈ TW := TW_at (n := 245) (by decide +kernel) (by decide +kernel)
set_option maxRecDepth 100000 in
theorem w_339 : (.instanceMethod ⟨"PaneScreen$Pane", "cell", "(II)I"⟩ : Cond) ∈ TW := TW_at (n := 246) (by decide +kernel) (by decide +kernel)
set_option maxRecDepth 100000 in
theorem w_340 : (.selects "PaneScreen$Pane" ⟨"PaneScreen$Pane", "cell", "(II)I"⟩ ⟨"PaneScreen$Pane", "cell", "(II)I"⟩ : Cond) ∈ TW := TW_at (n := 247) (by decide +kernel) (by decide +kernel)
set_option maxRecDepth 100000 in
theorem w_341 : (.code ⟨"PaneScreen$Pane", "cell", "(II)I"⟩ prog_5_method_8_code 3 (Option.some .int) : Cond) ∈ TW := TW_at (n := 248) (by decide +kernel) (by decide +kernel)
set_option maxRecDepth 100000 in
theorem w_342 : (.methodLink "PaneScreen" 137 ⟨"PaneScreen", "damagePart", "(LPaneScreen$Pane;IIII)V"⟩ : Cond) ∈ TW := TW_at (n := 387) (by decide +kernel) (by decide +kernel)
set_option maxRecDepth 100000 in
theorem w_343 : (.instanceMethod ⟨"PaneScreen", "damagePart", "(LPaneScreen$Pane;IIII)V"⟩ : Cond) ∈ TW := TW_at (n := 389) (by decide +kernel) (by decide +kernel)
set_option maxRecDepth 100000 in
theorem w_344 : (.selects "PaneScreen" ⟨"PaneScreen", "damagePart", "(LPaneScreen$Pane;IIII)V"⟩ ⟨"PaneScreen", "damagePart", "(LPaneScreen$Pane;IIII)V"⟩ : Cond) ∈ TW := TW_at (n := 5) (by decide +kernel) (by decide +kernel)
set_option maxRecDepth 100000 in
theorem w_345 : (.code ⟨"PaneScreen", "damagePart", "(LPaneScreen$Pane;IIII)V"⟩ prog_1_method_31_code 6 (Option.none : Option Jvm.ClassFile.FieldType) : Cond) ∈ TW := TW_at (n := 390) (by decide +kernel) (by decide +kernel)
set_option maxRecDepth 100000 in
theorem w_346 : (.methodLink "PaneScreen" 141 ⟨"PaneScreen", "requireExtent", "(I)V"⟩ : Cond) ∈ TW := TW_at (n := 504) (by decide +kernel) (by decide +kernel)
set_option maxRecDepth 100000 in
theorem w_347 : (.static ⟨"PaneScreen", "requireExtent", "(I)V"⟩ : Cond) ∈ TW := TW_at (n := 505) (by decide +kernel) (by decide +kernel)
set_option maxRecDepth 100000 in
theorem w_348 : (.code ⟨"PaneScreen", "requireExtent", "(I)V"⟩ prog_1_method_24_code 1 (Option.none : Option Jvm.ClassFile.FieldType) : Cond) ∈ TW := TW_at (n := 506) (by decide +kernel) (by decide +kernel)
set_option maxRecDepth 100000 in
theorem w_349 : (.methodLink "PaneScreen" 152 ⟨"PaneScreen$Pane", "putPen", "(II)V"⟩ : Cond) ∈ TW := TW_at (n := 516) (by decide +kernel) (by decide +kernel)
set_option maxRecDepth 100000 in
theorem w_350 : (.methodLink "PaneScreen" 155 ⟨"PaneScreen", "drawFromPen", "(LPaneScreen$Pane;III)I"⟩ : Cond) ∈ TW := TW_at (n := 524) (by decide +kernel) (by decide +kernel)
set_option maxRecDepth 100000 in
theorem w_351 : (.instanceMethod ⟨"PaneScreen", "drawFromPen", "(LPaneScreen$Pane;III)I"⟩ : Cond) ∈ TW := TW_at (n := 526) (by decide +kernel) (by decide +kernel)
set_option maxRecDepth 100000 in
theorem w_352 : (.selects "PaneScreen" ⟨"PaneScreen", "drawFromPen", "(LPaneScreen$Pane;III)I"⟩ ⟨"PaneScreen", "drawFromPen", "(LPaneScreen$Pane;III)I"⟩ : Cond) ∈ TW := TW_at (n := 11) (by decide +kernel) (by decide +kernel)
set_option maxRecDepth 100000 in
theorem w_353 : (.code ⟨"PaneScreen", "drawFromPen", "(LPaneScreen$Pane;III)I"⟩ prog_1_method_34_code 16 (Option.some .int) : Cond) ∈ TW := TW_at (n := 527) (by decide +kernel) (by decide +kernel)
set_option maxRecDepth 100000 in
theorem w_354 : (.methodLink "PaneScreen" 159 ⟨"PaneScreen$Store", "keepOld", "()V"⟩ : Cond) ∈ TW := TW_at (n := 544) (by decide +kernel) (by decide +kernel)
set_option maxRecDepth 100000 in
theorem w_355 : (.instanceMethod ⟨"PaneScreen$Store", "keepOld", "()V"⟩ : Cond) ∈ TW := TW_at (n := 545) (by decide +kernel) (by decide +kernel)
set_option maxRecDepth 100000 in
theorem w_356 : (.selects "PaneScreen$Store" ⟨"PaneScreen$Store", "keepOld", "()V"⟩ ⟨"PaneScreen$Store", "keepOld", "()V"⟩ : Cond) ∈ TW := TW_at (n := 546) (by decide +kernel) (by decide +kernel)
set_option maxRecDepth 100000 in
theorem w_357 : (.code ⟨"PaneScreen$Store", "keepOld", "()V"⟩ prog_6_method_5_code 1 (Option.none : Option Jvm.ClassFile.FieldType) : Cond) ∈ TW := TW_at (n := 547) (by decide +kernel) (by decide +kernel)
set_option maxRecDepth 100000 in
theorem w_358 : (.methodLink "PaneScreen" 165 ⟨"PaneScreen$Damage", "holds", "(II)Z"⟩ : Cond) ∈ TW := TW_at (n := 225) (by decide +kernel) (by decide +kernel)
set_option maxRecDepth 100000 in
theorem w_359 : (.instanceMethod ⟨"PaneScreen$Damage", "holds", "(II)Z"⟩ : Cond) ∈ TW := TW_at (n := 226) (by decide +kernel) (by decide +kernel)
set_option maxRecDepth 100000 in
theorem w_360 : (.selects "PaneScreen$Damage" ⟨"PaneScreen$Damage", "holds", "(II)Z"⟩ ⟨"PaneScreen$Damage", "holds", "(II)Z"⟩ : Cond) ∈ TW := TW_at (n := 227) (by decide +kernel) (by decide +kernel)
set_option maxRecDepth 100000 in
theorem w_361 : (.code ⟨"PaneScreen$Damage", "holds", "(II)Z"⟩ prog_2_method_3_code 4 (Option.some .boolean) : Cond) ∈ TW := TW_at (n := 228) (by decide +kernel) (by decide +kernel)
set_option maxRecDepth 100000 in
theorem w_362 : (.methodLink "PaneScreen" 168 ⟨"PaneScreen", "colourBelow", "(II)I"⟩ : Cond) ∈ TW := TW_at (n := 229) (by decide +kernel) (by decide +kernel)
set_option maxRecDepth 100000 in
theorem w_363 : (.instanceMethod ⟨"PaneScreen", "colourBelow", "(II)I"⟩ : Cond) ∈ TW := TW_at (n := 231) (by decide +kernel) (by decide +kernel)
set_option maxRecDepth 100000 in
theorem w_364 : (.selects "PaneScreen" ⟨"PaneScreen", "colourBelow", "(II)I"⟩ ⟨"PaneScreen", "colourBelow", "(II)I"⟩ : Cond) ∈ TW := TW_at (n := 0) (by decide +kernel) (by decide +kernel)
set_option maxRecDepth 100000 in
theorem w_365 : (.code ⟨"PaneScreen", "colourBelow", "(II)I"⟩ prog_1_method_29_code 5 (Option.some .int) : Cond) ∈ TW := TW_at (n := 232) (by decide +kernel) (by decide +kernel)
set_option maxRecDepth 100000 in
theorem w_366 : (.methodLink "PaneScreen" 171 ⟨"PaneScreen$Damage", "forget", "()V"⟩ : Cond) ∈ TW := TW_at (n := 249) (by decide +kernel) (by decide +kernel)
set_option maxRecDepth 100000 in
theorem w_367 : (.instanceMethod ⟨"PaneScreen$Damage", "forget", "()V"⟩ : Cond) ∈ TW := TW_at (n := 250) (by decide +kernel) (by decide +kernel)
set_option maxRecDepth 100000 in
theorem w_368 : (.selects "PaneScreen$Damage" ⟨"PaneScreen$Damage", "forget", "()V"⟩ ⟨"PaneScreen$Damage", "forget", "()V"⟩ : Cond) ∈ TW := TW_at (n := 251) (by decide +kernel) (by decide +kernel)
set_option maxRecDepth 100000 in
theorem w_369 : (.code ⟨"PaneScreen$Damage", "forget", "()V"⟩ prog_2_method_4_code 1 (Option.none : Option Jvm.ClassFile.FieldType) : Cond) ∈ TW := TW_at (n := 252) (by decide +kernel) (by decide +kernel)
set_option maxRecDepth 100000 in
theorem w_370 : (.methodLink "PaneScreen" 174 ⟨"PaneScreen", "requireOnScreen", "(II)V"⟩ : Cond) ∈ TW := TW_at (n := 559) (by decide +kernel) (by decide +kernel)
set_option maxRecDepth 100000 in
theorem w_371 : (.static ⟨"PaneScreen", "requireOnScreen", "(II)V"⟩ : Cond) ∈ TW := TW_at (n := 560) (by decide +kernel) (by decide +kernel)
set_option maxRecDepth 100000 in
theorem w_372 : (.code ⟨"PaneScreen", "requireOnScreen", "(II)V"⟩ prog_1_method_26_code 2 (Option.none : Option Jvm.ClassFile.FieldType) : Cond) ∈ TW := TW_at (n := 561) (by decide +kernel) (by decide +kernel)
set_option maxRecDepth 100000 in
theorem w_373 : (.methodLink "PaneScreen" 180 ⟨"PaneScreen", "ownerOf", "(II)I"⟩ : Cond) ∈ TW := TW_at (n := 233) (by decide +kernel) (by decide +kernel)
set_option maxRecDepth 100000 in
theorem w_374 : (.instanceMethod ⟨"PaneScreen", "ownerOf", "(II)I"⟩ : Cond) ∈ TW := TW_at (n := 235) (by decide +kernel) (by decide +kernel)
set_option maxRecDepth 100000 in
theorem w_375 : (.selects "PaneScreen" ⟨"PaneScreen", "ownerOf", "(II)I"⟩ ⟨"PaneScreen", "ownerOf", "(II)I"⟩ : Cond) ∈ TW := TW_at (n := 1) (by decide +kernel) (by decide +kernel)
set_option maxRecDepth 100000 in
theorem w_376 : (.code ⟨"PaneScreen", "ownerOf", "(II)I"⟩ prog_1_method_28_code 5 (Option.some .int) : Cond) ∈ TW := TW_at (n := 236) (by decide +kernel) (by decide +kernel)
set_option maxRecDepth 100000 in
theorem w_377 : (.methodLink "PaneScreen" 183 ⟨"PaneScreen", "giveFocus", "(I)V"⟩ : Cond) ∈ TW := TW_at (n := 605) (by decide +kernel) (by decide +kernel)
set_option maxRecDepth 100000 in
theorem w_378 : (.instanceMethod ⟨"PaneScreen", "giveFocus", "(I)V"⟩ : Cond) ∈ TW := TW_at (n := 607) (by decide +kernel) (by decide +kernel)
set_option maxRecDepth 100000 in
theorem w_379 : (.selects "PaneScreen" ⟨"PaneScreen", "giveFocus", "(I)V"⟩ ⟨"PaneScreen", "giveFocus", "(I)V"⟩ : Cond) ∈ TW := TW_at (n := 12) (by decide +kernel) (by decide +kernel)
set_option maxRecDepth 100000 in
theorem w_380 : (.code ⟨"PaneScreen", "giveFocus", "(I)V"⟩ prog_1_method_33_code 2 (Option.none : Option Jvm.ClassFile.FieldType) : Cond) ∈ TW := TW_at (n := 608) (by decide +kernel) (by decide +kernel)
set_option maxRecDepth 100000 in
theorem w_381 : (.methodLink "PaneScreen" 192 ⟨"PaneScreen$EventLine", "tell", "(IIII)V"⟩ : Cond) ∈ TW := TW_at (n := 257) (by decide +kernel) (by decide +kernel)
set_option maxRecDepth 100000 in
theorem w_382 : (.instanceMethod ⟨"PaneScreen$EventLine", "tell", "(IIII)V"⟩ : Cond) ∈ TW := TW_at (n := 258) (by decide +kernel) (by decide +kernel)
set_option maxRecDepth 100000 in
theorem w_383 : (.selects "PaneScreen$EventLine" ⟨"PaneScreen$EventLine", "tell", "(IIII)V"⟩ ⟨"PaneScreen$EventLine", "tell", "(IIII)V"⟩ : Cond) ∈ TW := TW_at (n := 259) (by decide +kernel) (by decide +kernel)
set_option maxRecDepth 100000 in
theorem w_384 : (.code ⟨"PaneScreen$EventLine", "tell", "(IIII)V"⟩ prog_3_method_2_code 5 (Option.none : Option Jvm.ClassFile.FieldType) : Cond) ∈ TW := TW_at (n := 260) (by decide +kernel) (by decide +kernel)
set_option maxRecDepth 100000 in
theorem w_385 : (.methodLink "PaneScreen" 202 ⟨"PaneScreen$EventLine", "takeFirst", "()V"⟩ : Cond) ∈ TW := TW_at (n := 616) (by decide +kernel) (by decide +kernel)
set_option maxRecDepth 100000 in
theorem w_386 : (.instanceMethod ⟨"PaneScreen$EventLine", "takeFirst", "()V"⟩ : Cond) ∈ TW := TW_at (n := 617) (by decide +kernel) (by decide +kernel)
set_option maxRecDepth 100000 in
theorem w_387 : (.selects "PaneScreen$EventLine" ⟨"PaneScreen$EventLine", "takeFirst", "()V"⟩ ⟨"PaneScreen$EventLine", "takeFirst", "()V"⟩ : Cond) ∈ TW := TW_at (n := 618) (by decide +kernel) (by decide +kernel)
set_option maxRecDepth 100000 in
theorem w_388 : (.code ⟨"PaneScreen$EventLine", "takeFirst", "()V"⟩ prog_3_method_3_code 2 (Option.none : Option Jvm.ClassFile.FieldType) : Cond) ∈ TW := TW_at (n := 619) (by decide +kernel) (by decide +kernel)
set_option maxRecDepth 100000 in
theorem w_389 : (.methodLink "PaneScreen" 221 ⟨"PaneScreen$Store", "freeCells", "()I"⟩ : Cond) ∈ TW := TW_at (n := 634) (by decide +kernel) (by decide +kernel)
set_option maxRecDepth 100000 in
theorem w_390 : (.instanceMethod ⟨"PaneScreen$Store", "freeCells", "()I"⟩ : Cond) ∈ TW := TW_at (n := 635) (by decide +kernel) (by decide +kernel)
set_option maxRecDepth 100000 in
theorem w_391 : (.selects "PaneScreen$Store" ⟨"PaneScreen$Store", "freeCells", "()I"⟩ ⟨"PaneScreen$Store", "freeCells", "()I"⟩ : Cond) ∈ TW := TW_at (n := 636) (by decide +kernel) (by decide +kernel)
set_option maxRecDepth 100000 in
theorem w_392 : (.code ⟨"PaneScreen$Store", "freeCells", "()I"⟩ prog_6_method_6_code 3 (Option.some .int) : Cond) ∈ TW := TW_at (n := 637) (by decide +kernel) (by decide +kernel)
set_option maxRecDepth 100000 in
theorem w_393 : (.methodLink "PaneScreen" 224 ⟨"PaneScreen$Store", "longestFree", "()I"⟩ : Cond) ∈ TW := TW_at (n := 638) (by decide +kernel) (by decide +kernel)
set_option maxRecDepth 100000 in
theorem w_394 : (.instanceMethod ⟨"PaneScreen$Store", "longestFree", "()I"⟩ : Cond) ∈ TW := TW_at (n := 639) (by decide +kernel) (by decide +kernel)
set_option maxRecDepth 100000 in
theorem w_395 : (.selects "PaneScreen$Store" ⟨"PaneScreen$Store", "longestFree", "()I"⟩ ⟨"PaneScreen$Store", "longestFree", "()I"⟩ : Cond) ∈ TW := TW_at (n := 640) (by decide +kernel) (by decide +kernel)
set_option maxRecDepth 100000 in
theorem w_396 : (.code ⟨"PaneScreen$Store", "longestFree", "()I"⟩ prog_6_method_7_code 4 (Option.some .int) : Cond) ∈ TW := TW_at (n := 641) (by decide +kernel) (by decide +kernel)
set_option maxRecDepth 100000 in
theorem w_397 : (.methodLink "PaneScreen" 238 ⟨"PaneScreen$Pane", "covers", "(II)Z"⟩ : Cond) ∈ TW := TW_at (n := 237) (by decide +kernel) (by decide +kernel)
set_option maxRecDepth 100000 in
theorem w_398 : (.instanceMethod ⟨"PaneScreen$Pane", "covers", "(II)Z"⟩ : Cond) ∈ TW := TW_at (n := 238) (by decide +kernel) (by decide +kernel)
set_option maxRecDepth 100000 in
theorem w_399 : (.selects "PaneScreen$Pane" ⟨"PaneScreen$Pane", "covers", "(II)Z"⟩ ⟨"PaneScreen$Pane", "covers", "(II)Z"⟩ : Cond) ∈ TW := TW_at (n := 239) (by decide +kernel) (by decide +kernel)
set_option maxRecDepth 100000 in
theorem w_400 : (.code ⟨"PaneScreen$Pane", "covers", "(II)Z"⟩ prog_5_method_7_code 3 (Option.some .boolean) : Cond) ∈ TW := TW_at (n := 240) (by decide +kernel) (by decide +kernel)
set_option maxRecDepth 100000 in
theorem w_401 : (.methodLink "PaneScreen" 241 ⟨"PaneScreen$Damage", "add", "(IIII)V"⟩ : Cond) ∈ TW := TW_at (n := 391) (by decide +kernel) (by decide +kernel)
set_option maxRecDepth 100000 in
theorem w_402 : (.instanceMethod ⟨"PaneScreen$Damage", "add", "(IIII)V"⟩ : Cond) ∈ TW := TW_at (n := 392) (by decide +kernel) (by decide +kernel)
set_option maxRecDepth 100000 in
theorem w_403 : (.selects "PaneScreen$Damage" ⟨"PaneScreen$Damage", "add", "(IIII)V"⟩ ⟨"PaneScreen$Damage", "add", "(IIII)V"⟩ : Cond) ∈ TW := TW_at (n := 393) (by decide +kernel) (by decide +kernel)
set_option maxRecDepth 100000 in
theorem w_404 : (.code ⟨"PaneScreen$Damage", "add", "(IIII)V"⟩ prog_2_method_2_code 9 (Option.none : Option Jvm.ClassFile.FieldType) : Cond) ∈ TW := TW_at (n := 394) (by decide +kernel) (by decide +kernel)
set_option maxRecDepth 100000 in
theorem w_405 : (.methodLink "PaneScreen" 244 ⟨"PaneScreen$Order", "last", "()I"⟩ : Cond) ∈ TW := TW_at (n := 478) (by decide +kernel) (by decide +kernel)
set_option maxRecDepth 100000 in
theorem w_406 : (.instanceMethod ⟨"PaneScreen$Order", "last", "()I"⟩ : Cond) ∈ TW := TW_at (n := 479) (by decide +kernel) (by decide +kernel)
set_option maxRecDepth 100000 in
theorem w_407 : (.selects "PaneScreen$Order" ⟨"PaneScreen$Order", "last", "()I"⟩ ⟨"PaneScreen$Order", "last", "()I"⟩ : Cond) ∈ TW := TW_at (n := 480) (by decide +kernel) (by decide +kernel)
set_option maxRecDepth 100000 in
theorem w_408 : (.code ⟨"PaneScreen$Order", "last", "()I"⟩ prog_4_method_3_code 1 (Option.some .int) : Cond) ∈ TW := TW_at (n := 481) (by decide +kernel) (by decide +kernel)
set_option maxRecDepth 100000 in
theorem w_409 : (.methodLink "PaneScreen" 247 ⟨"PaneScreen$Order", "addBehind", "(I)V"⟩ : Cond) ∈ TW := TW_at (n := 482) (by decide +kernel) (by decide +kernel)
set_option maxRecDepth 100000 in
theorem w_410 : (.instanceMethod ⟨"PaneScreen$Order", "addBehind", "(I)V"⟩ : Cond) ∈ TW := TW_at (n := 483) (by decide +kernel) (by decide +kernel)
set_option maxRecDepth 100000 in
theorem w_411 : (.selects "PaneScreen$Order" ⟨"PaneScreen$Order", "addBehind", "(I)V"⟩ ⟨"PaneScreen$Order", "addBehind", "(I)V"⟩ : Cond) ∈ TW := TW_at (n := 484) (by decide +kernel) (by decide +kernel)
set_option maxRecDepth 100000 in
theorem w_412 : (.code ⟨"PaneScreen$Order", "addBehind", "(I)V"⟩ prog_4_method_5_code 2 (Option.none : Option Jvm.ClassFile.FieldType) : Cond) ∈ TW := TW_at (n := 485) (by decide +kernel) (by decide +kernel)
set_option maxRecDepth 100000 in
theorem w_413 : (.methodLink "PaneScreen" 259 ⟨"PaneScreen", "stepped", "(III)I"⟩ : Cond) ∈ TW := TW_at (n := 531) (by decide +kernel) (by decide +kernel)
set_option maxRecDepth 100000 in
theorem w_414 : (.static ⟨"PaneScreen", "stepped", "(III)I"⟩ : Cond) ∈ TW := TW_at (n := 532) (by decide +kernel) (by decide +kernel)
set_option maxRecDepth 100000 in
theorem w_415 : (.code ⟨"PaneScreen", "stepped", "(III)I"⟩ prog_1_method_35_code 3 (Option.some .int) : Cond) ∈ TW := TW_at (n := 533) (by decide +kernel) (by decide +kernel)
set_option maxRecDepth 100000 in
theorem w_416 : (.methodLink "PaneScreen" 263 ⟨"java/lang/Math", "floorDiv", "(II)I"⟩ : Cond) ∈ TW := TW_at (n := 534) (by decide +kernel) (by decide +kernel)
set_option maxRecDepth 100000 in
theorem w_417 : (.static ⟨"java/lang/Math", "floorDiv", "(II)I"⟩ : Cond) ∈ TW := TW_at (n := 535) (by decide +kernel) (by decide +kernel)
set_option maxRecDepth 100000 in
theorem w_418 : (.initialized "java/lang/Math" : Cond) ∈ TW := TW_at (n := 43) (by decide +kernel) (by decide +kernel)
set_option maxRecDepth 100000 in
theorem w_419 : (.code ⟨"java/lang/Math", "floorDiv", "(II)I"⟩ prog_13_method_47_code 3 (Option.some .int) : Cond) ∈ TW := TW_at (n := 536) (by decide +kernel) (by decide +kernel)
set_option maxRecDepth 100000 in
theorem w_420 : (.methodLink "PaneScreen$Damage" 24 ⟨"java/lang/Math", "max", "(II)I"⟩ : Cond) ∈ TW := TW_at (n := 395) (by decide +kernel) (by decide +kernel)
set_option maxRecDepth 100000 in
theorem w_421 : (.methodLink "PaneScreen$Damage" 30 ⟨"java/lang/Math", "min", "(II)I"⟩ : Cond) ∈ TW := TW_at (n := 398) (by decide +kernel) (by decide +kernel)
set_option maxRecDepth 100000 in
theorem w_422 : (.methodLink "PaneScreen" 144 ⟨"java/lang/Math", "max", "(II)I"⟩ : Cond) ∈ TW := TW_at (n := 507) (by decide +kernel) (by decide +kernel)
set_option maxRecDepth 100000 in
theorem w_423 : (.methodLink "PaneScreen" 149 ⟨"java/lang/Math", "min", "(II)I"⟩ : Cond) ∈ TW := TW_at (n := 508) (by decide +kernel) (by decide +kernel)
set_option maxRecDepth 100000 in
theorem w_424 : (.methodLink "PaneScreen" 256 ⟨"java/lang/Math", "abs", "(I)I"⟩ : Cond) ∈ TW := TW_at (n := 528) (by decide +kernel) (by decide +kernel)
set_option maxRecDepth 100000 in
theorem w_425 : (.methodLink "PaneScreen$Store" 28 ⟨"java/lang/Math", "max", "(II)I"⟩ : Cond) ∈ TW := TW_at (n := 642) (by decide +kernel) (by decide +kernel)
set_option maxRecDepth 100000 in
theorem w_426 : (.static ⟨"java/lang/Math", "abs", "(I)I"⟩ : Cond) ∈ TW := TW_at (n := 529) (by decide +kernel) (by decide +kernel)
set_option maxRecDepth 100000 in
theorem w_427 : (.code ⟨"java/lang/Math", "abs", "(I)I"⟩ prog_13_method_59_code 1 (Option.some .int) : Cond) ∈ TW := TW_at (n := 530) (by decide +kernel) (by decide +kernel)
set_option maxRecDepth 100000 in
theorem w_428 : (.static ⟨"java/lang/Math", "max", "(II)I"⟩ : Cond) ∈ TW := TW_at (n := 396) (by decide +kernel) (by decide +kernel)
set_option maxRecDepth 100000 in
theorem w_429 : (.code ⟨"java/lang/Math", "max", "(II)I"⟩ prog_13_method_65_code 2 (Option.some .int) : Cond) ∈ TW := TW_at (n := 397) (by decide +kernel) (by decide +kernel)
set_option maxRecDepth 100000 in
theorem w_430 : (.static ⟨"java/lang/Math", "min", "(II)I"⟩ : Cond) ∈ TW := TW_at (n := 399) (by decide +kernel) (by decide +kernel)
set_option maxRecDepth 100000 in
theorem w_431 : (.code ⟨"java/lang/Math", "min", "(II)I"⟩ prog_13_method_69_code 2 (Option.some .int) : Cond) ∈ TW := TW_at (n := 400) (by decide +kernel) (by decide +kernel)
set_option maxRecDepth 100000 in
theorem w_432 : (.methodLink "PaneScreen$Store" 22 ⟨"java/lang/System", "arraycopy", "(Ljava/lang/Object;ILjava/lang/Object;II)V"⟩ : Cond) ∈ TW := TW_at (n := 548) (by decide +kernel) (by decide +kernel)
set_option maxRecDepth 100000 in
theorem w_433 : (.native ⟨"java/lang/System", "arraycopy", "(Ljava/lang/Object;ILjava/lang/Object;II)V"⟩ : Cond) ∈ TW := TW_at (n := 550) (by decide +kernel) (by decide +kernel)
set_option maxRecDepth 100000 in
theorem w_434 : (.static ⟨"java/lang/System", "arraycopy", "(Ljava/lang/Object;ILjava/lang/Object;II)V"⟩ : Cond) ∈ TW := TW_at (n := 549) (by decide +kernel) (by decide +kernel)
set_option maxRecDepth 100000 in
theorem w_435 : (.initialized "java/lang/System" : Cond) ∈ TW := TW_at (n := 45) (by decide +kernel) (by decide +kernel)
set_option maxRecDepth 100000 in
theorem w_436 : (.classLink "PaneScreen" 70 "java/lang/IllegalStateException" : Cond) ∈ TW := TW_at (n := 348) (by decide +kernel) (by decide +kernel)
set_option maxRecDepth 100000 in
theorem w_437 : (.initialized "java/lang/IllegalStateException" : Cond) ∈ TW := TW_at (n := 42) (by decide +kernel) (by decide +kernel)
set_option maxRecDepth 100000 in
theorem w_438 : (.classLink "PaneScreen" 177 "java/lang/IndexOutOfBoundsException" : Cond) ∈ TW := TW_at (n := 562) (by decide +kernel) (by decide +kernel)
set_option maxRecDepth 100000 in
theorem w_439 : (.initialized "java/lang/IndexOutOfBoundsException" : Cond) ∈ TW := TW_at (n := 46) (by decide +kernel) (by decide +kernel)
set_option maxRecDepth 100000 in
theorem w_440 : (.classLink "PaneScreen" 199 "java/util/NoSuchElementException" : Cond) ∈ TW := TW_at (n := 421) (by decide +kernel) (by decide +kernel)
set_option maxRecDepth 100000 in
theorem w_441 : (.initialized "java/util/NoSuchElementException" : Cond) ∈ TW := TW_at (n := 44) (by decide +kernel) (by decide +kernel)
set_option maxRecDepth 100000 in
theorem w_442 : (.classLink "PaneScreen" 217 "java/lang/IllegalArgumentException" : Cond) ∈ TW := TW_at (n := 273) (by decide +kernel) (by decide +kernel)
set_option maxRecDepth 100000 in
theorem w_443 : (.initialized "java/lang/IllegalArgumentException" : Cond) ∈ TW := TW_at (n := 41) (by decide +kernel) (by decide +kernel)
end
section
/-! Memory over a fixed shape; the judgement GG. -/
section GJ
abbrev Mem : Type := Nat → Nat → Int32
def m2 (σ : Mem) (q f : Nat) (v : Int32) : Mem := fun j => if j = q then upd (σ q) f v else σ j
theorem m2_self (σ : Mem) (q f : Nat) (v : Int32) : m2 σ q f v q = upd (σ q) f v := by simp [m2]
theorem m2_ne (σ : Mem) {q j : Nat} (f : Nat) (v : Int32) (h : j ≠ q) : m2 σ q f v j = σ j := by simp [m2, h]
/-- an index that is in range -/
def gin (i : Int32) (N : Nat) : Bool := !(decide (i < 0) || decide (N ≤ i.toNatClampNeg))
theorem gin_in {i : Int32} {N : Nat} (h : gin i N = true) : vp_in i N := by
  unfold gin at h; unfold vp_in; simpa using h
def gb {ρ : Type} (o : Option (Int32 × Mem)) (k : Int32 → Mem → Option ρ) : Option ρ := match o with
  | none => none
  | some x => k x.1 x.2
def gbv {ρ : Type} (o : Option Mem) (k : Mem → Option ρ) : Option ρ := match o with
  | none => none
  | some x => k x
def gbx {α ρ : Type} (o : Option ((α ⊕ String) × Mem)) (k : α → Mem → Option ρ) (kx : String → Mem → Option ρ) : Option ρ := match o with
  | none => none
  | some (.inl a, u) => k a u
  | some (.inr E, u) => kx E u
def gbi {ρ : Type} (e : Int32) (k : Int32 → Option ρ) : Option ρ := k e
def gbm {ρ : Type} (σ : Mem) (k : Mem → Option ρ) : Option ρ := k σ
def gbn {ρ : Type} (q : Nat) (k : Nat → Option ρ) : Option ρ := k q
def gfix {γ : Type} (z : γ) (F : γ → γ) : Nat → γ
  | 0 => z
  | n + 1 => F (gfix z F n)
abbrev GC : Type := Program × Launch × Env × Room × State × MethodId × Array Value × List Frame × Method × Code
abbrev GA : Type := va_G × (Nat → Nat) × Nat × (Nat → ClassId)
def gA (Γ : GA) : Nat → Prop := fun q => Γ.2.2.1 ≤ q
def gty (q : Nat) : FieldType := match gSh[q]? with
  | some (2, _, _) => .boolean
  | some (3, _, _) => .long
  | some (4, _, _) => .object "PaneScreen$Pane"
  | _ => .int
def gai (q : Nat) : Nat := match gSh[q]? with
  | some (0, _, _) => 1
  | _ => q
def gT (Γ : GA) : List (ClassId × FieldType) := (List.range gSh.length).map (fun q => (Γ.2.2.2 (gai q), gty q))
theorem gT_at (Γ : GA) {q : Nat} (h : q < gSh.length) : (gT Γ)[q]? = some (Γ.2.2.2 (gai q), gty q) := by
  simp [gT, List.getElem?_map, List.getElem?_range h]
def gfv (ad : Nat → Nat) (g : Nat → Int32) : Nat → List Nat → List Value
  | _, [] => []
  | k, 0 :: t => .int (g k) :: gfv ad g (k + 1) t
  | k, (p + 1) :: t => .ref (ad p) :: gfv ad g (k + 1) t
theorem gfv_len (ad : Nat → Nat) (g : Nat → Int32) : ∀ (fl : List Nat) (k : Nat), (gfv ad g k fl).length = fl.length
  | [], _ => rfl
  | 0 :: t, k => by simp [gfv, gfv_len ad g t (k + 1)]
  | (p + 1) :: t, k => by simp [gfv, gfv_len ad g t (k + 1)]
theorem gfv_get (ad : Nat → Nat) (g : Nat → Int32) : ∀ (fl : List Nat) (k f : Nat), fl[f]? = some 0 → (gfv ad g k fl)[f]? = some (.int (g (k + f)))
  | [], _, _, h => by simp at h
  | 0 :: t, k, 0, _ => by simp [gfv]
  | (p + 1) :: t, k, 0, h => by simp at h
  | 0 :: t, k, f + 1, h => by
    have h' : t[f]? = some 0 := by simpa using h
    have := gfv_get ad g t (k + 1) f h'
    simp only [gfv, List.getElem?_cons_succ, this]; congr 2; congr 1; omega
  | (p + 1) :: t, k, f + 1, h => by
    have h' : t[f]? = some 0 := by simpa using h
    have := gfv_get ad g t (k + 1) f h'
    simp only [gfv, List.getElem?_cons_succ, this]; congr 2; congr 1; omega
theorem gfv_ref (ad : Nat → Nat) (g : Nat → Int32) {q : Nat} : ∀ (fl : List Nat) (k f : Nat), fl[f]? = some (q + 1) → (gfv ad g k fl)[f]? = some (.ref (ad q))
  | [], _, _, h => by simp at h
  | 0 :: t, k, 0, h => by simp at h
  | (p + 1) :: t, k, 0, h => by
    have h' : p = q := by simpa using h
    subst h'; simp [gfv]
  | 0 :: t, k, f + 1, h => by
    have h' : t[f]? = some (q + 1) := by simpa using h
    simp only [gfv, List.getElem?_cons_succ, gfv_ref ad g t (k + 1) f h']
  | (p + 1) :: t, k, f + 1, h => by
    have h' : t[f]? = some (q + 1) := by simpa using h
    simp only [gfv, List.getElem?_cons_succ, gfv_ref ad g t (k + 1) f h']
theorem gfv_ext (ad : Nat → Nat) (g g' : Nat → Int32) : ∀ (fl : List Nat) (k : Nat), (∀ j, k ≤ j → g j = g' j) → gfv ad g k fl = gfv ad g' k fl
  | [], _, _ => rfl
  | 0 :: t, k, h => by simp only [gfv]; rw [h k (Nat.le_refl k), gfv_ext ad g g' t (k + 1) (fun j hj => h j (by omega))]
  | (p + 1) :: t, k, h => by simp only [gfv]; rw [gfv_ext ad g g' t (k + 1) (fun j hj => h j (by omega))]
theorem gfv_set (ad : Nat → Nat) (v : Int32) : ∀ (fl : List Nat) (g : Nat → Int32) (k f : Nat), fl[f]? = some 0 → (gfv ad g k fl).set f (.int v) = gfv ad (upd g (k + f) v) k fl
  | [], _, _, _, h => by simp at h
  | 0 :: t, g, k, 0, _ => by
    show Value.int v :: gfv ad g (k + 1) t = Value.int (upd g k v k) :: gfv ad (upd g k v) (k + 1) t
    rw [gfv_ext ad g (upd g k v) t (k + 1) (fun j hj => by simp [upd, show j ≠ k by omega])]
    simp [upd]
  | (p + 1) :: t, g, k, 0, h => by simp at h
  | 0 :: t, g, k, f + 1, h => by
    have h' : t[f]? = some 0 := by simpa using h
    simp only [gfv, List.set_cons_succ, gfv_set ad v t g (k + 1) f h', show k + 1 + f = k + (f + 1) by omega]
    simp [upd]
  | (p + 1) :: t, g, k, f + 1, h => by
    have h' : t[f]? = some 0 := by simpa using h
    simp only [gfv, List.set_cons_succ, gfv_set ad v t g (k + 1) f h', show k + 1 + f = k + (f + 1) by omega]
/-- the cell at place q -/
def gce (Γ : GA) (σ : Mem) (q : Nat) : va_E := match gSh[q]? with
  | some (0, ci, fl) => .inr (ci, gfv Γ.2.1 (σ q) 0 fl)
  | some (1, n, _) => .inl (Γ.2.2.2 q, n, .inl (σ q))
  | some (2, n, _) => .inl (Γ.2.2.2 q, n, .inl (σ q))
  | some (3, n, _) => .inl (Γ.2.2.2 q, n, .inr (.inl (fun i => (σ q i).toInt64)))
  | some (_, n, _) => .inl (Γ.2.2.2 q, n, .inr (.inr (.inr (.inr (fun i => some (Γ.2.1 (gPB + i)))))))
  | none => .inr (0, [])
def gwd (Γ : GA) (σ : Mem) : va_W := (List.range gSh.length).map (fun q => (Γ.2.1 q, gce Γ σ q))
theorem gwd_at (Γ : GA) (σ : Mem) {q : Nat} (h : q < gSh.length) : (gwd Γ σ)[q]? = some (Γ.2.1 q, gce Γ σ q) := by
  simp [gwd, List.getElem?_map, List.getElem?_range h]
theorem gwd_len (Γ : GA) (σ : Mem) : (gwd Γ σ).length = gSh.length := by simp [gwd]
theorem gsh_lt {q : Nat} {e : Nat × Nat × List Nat} (h : gSh[q]? = some e) : q < gSh.length := by
  rcases Nat.lt_or_ge q gSh.length with h1 | h1
  · exact h1
  · rw [List.getElem?_eq_none h1] at h; cases h
theorem gT_1 (Γ : GA) {q n : Nat} {fl : List Nat} (h : gSh[q]? = some (1, n, fl)) : (gT Γ)[q]? = some (Γ.2.2.2 q, .int) := by rw [gT_at Γ (gsh_lt h)]; simp only [gai, gty, h]
theorem gT_2 (Γ : GA) {q n : Nat} {fl : List Nat} (h : gSh[q]? = some (2, n, fl)) : (gT Γ)[q]? = some (Γ.2.2.2 q, .boolean) := by rw [gT_at Γ (gsh_lt h)]; simp only [gai, gty, h]
theorem gT_3 (Γ : GA) {q n : Nat} {fl : List Nat} (h : gSh[q]? = some (3, n, fl)) : (gT Γ)[q]? = some (Γ.2.2.2 q, .long) := by rw [gT_at Γ (gsh_lt h)]; simp only [gai, gty, h]
theorem gT_4 (Γ : GA) {q n : Nat} {fl : List Nat} (h : gSh[q]? = some (4, n, fl)) : (gT Γ)[q]? = some (Γ.2.2.2 q, .object "PaneScreen$Pane") := by rw [gT_at Γ (gsh_lt h)]; simp only [gai, gty, h]
theorem gwd_set (Γ : GA) {σ σ' : Mem} {q : Nat} {e : va_E} (hq : q < gSh.length) (h1 : gce Γ σ' q = e) (h2 : ∀ j, j ≠ q → σ' j = σ j) : (gwd Γ σ).set q (Γ.2.1 q, e) = gwd Γ σ' := by
  apply List.ext_getElem?
  intro i
  by_cases hi : i = q
  · subst hi
    rw [List.getElem?_set_self (by rw [gwd_len]; exact hq), gwd_at Γ σ' hq, h1]
  · rw [List.getElem?_set_ne (Ne.symm hi)]
    rcases Nat.lt_or_ge i gSh.length with hl | hl
    · rw [gwd_at Γ σ hl, gwd_at Γ σ' hl]
      have : gce Γ σ' i = gce Γ σ i := by simp only [gce, h2 i hi]
      rw [this]
    · rw [List.getElem?_eq_none (by rw [gwd_len]; exact hl), List.getElem?_eq_none (by rw [gwd_len]; exact hl)]
theorem gce0 (Γ : GA) (σ : Mem) {q ci : Nat} {fl : List Nat} (h : gSh[q]? = some (0, ci, fl)) : gce Γ σ q = .inr (ci, gfv Γ.2.1 (σ q) 0 fl) := by simp only [gce, h]
theorem gce1 (Γ : GA) (σ : Mem) {q n : Nat} {fl : List Nat} (h : gSh[q]? = some (1, n, fl)) : gce Γ σ q = .inl (Γ.2.2.2 q, n, .inl (σ q)) := by simp only [gce, h]
theorem gce2 (Γ : GA) (σ : Mem) {q n : Nat} {fl : List Nat} (h : gSh[q]? = some (2, n, fl)) : gce Γ σ q = .inl (Γ.2.2.2 q, n, .inl (σ q)) := by simp only [gce, h]
theorem gce3 (Γ : GA) (σ : Mem) {q n : Nat} {fl : List Nat} (h : gSh[q]? = some (3, n, fl)) : gce Γ σ q = .inl (Γ.2.2.2 q, n, .inr (.inl (fun i => (σ q i).toInt64))) := by simp only [gce, h]
theorem gce4 (Γ : GA) (σ : Mem) {q n : Nat} {fl : List Nat} (h : gSh[q]? = some (4, n, fl)) : gce Γ σ q = .inl (Γ.2.2.2 q, n, .inr (.inr (.inr (.inr (fun i => some (Γ.2.1 (gPB + i))))))) := by simp only [gce, h]
/-- words of a throw that a warmed state keeps, though they are no good words -/
def gDec : List MethodName := [⟨"java/lang/RuntimeException", "<init>", "()V"⟩, ⟨"java/lang/Exception", "<init>", "()V"⟩, ⟨"java/lang/Throwable", "<init>", "()V"⟩]
def gExc : List String := ["java/lang/IllegalArgumentException", "java/lang/IllegalStateException", "java/util/NoSuchElementException", "java/lang/IndexOutOfBoundsException"]
def gNoC : List (String × String) := [("java/lang/IllegalStateException", "java/lang/IllegalArgumentException"), ("java/lang/IllegalArgumentException", "java/util/NoSuchElementException"), ("java/lang/IndexOutOfBoundsException", "java/util/NoSuchElementException"), ("java/lang/IllegalArgumentException", "java/lang/IllegalStateException")]
def gBad (U : State) : Prop := (∀ x ∈ gDec, va_Nw (.declares x) U) ∧ (∀ E ∈ gExc, va_Nw (.castable E E) U) ∧ ∀ z ∈ gNoC, va_Nc z.1 z.2 U
theorem gBad.moved {s U : State} (hA : s.vm.Alike U.vm) (h : gBad s) : gBad U :=
  ⟨fun x hx => va_tabs rfl (rfl : (s.setVm U.vm).vm = U.vm) (by rw [Cond.declares_setVm hA]; exact h.1 x hx), fun E hE => va_tabs rfl (rfl : (s.setVm U.vm).vm = U.vm) (by rw [Cond.castable_setVm hA]; exact h.2.1 E hE), fun z hz => va_Nc.moved hA (h.2.2 z hz)⟩
/-- the world at a state: the cells, apart and new; the classes; the two statics of Throwable -/
def gBW (Γ : GA) (σ : Mem) (U : State) : Prop := va_P Γ.1 gCl (gwd Γ σ) U.heap ∧ va_D (gA Γ) (gwd Γ σ) ∧ va_K Γ.1 gCl (gT Γ) U ∧ Γ.2.2.1 ≤ U.heap.size ∧ vx_Zq Bundle.tN "UNASSIGNED_STACK" Bundle.steD (gA Γ) U U.heap ∧ vx_Zq Bundle.tN "SUPPRESSED_SENTINEL" Bundle.listD (gA Γ) U U.heap ∧ gBad U
theorem gBW.blind {Γ : GA} {σ : Mem} {av : List Value} : FrameBlind (va_Pc av (gBW Γ σ)) := by
  intro a U g mk q
  obtain ⟨q0, qP, qD, qK, qs, qa, qb, qc⟩ := q
  exact ⟨q0, qP, qD, va_K.moved (u := U) (U := U.calling g mk a) (Vm.Alike.refl U.vm) qK, qs, vx_Zq.moved (u := U) (U := U.calling g mk a) (Vm.Alike.refl U.vm) qa, vx_Zq.moved (u := U) (U := U.calling g mk a) (Vm.Alike.refl U.vm) qb, gBad.moved (s := U) (U := U.calling g mk a) (Vm.Alike.refl U.vm) qc⟩
/-- locals: none where nothing is known -/
def gla : Nat → List (Option Value) → List (Nat × Value)
  | _, [] => []
  | k, none :: t => gla (k + 1) t
  | k, some v :: t => (k, v) :: gla (k + 1) t
theorem gla_mem : ∀ (lo : List (Option Value)) (k i : Nat) (v : Value), (i, v) ∈ gla k lo ↔ k ≤ i ∧ lo[i - k]? = some (some v)
  | [], k, i, v => by simp [gla]
  | none :: t, k, i, v => by
    rw [gla, gla_mem t (k + 1) i v]
    rcases Nat.lt_trichotomy i k with h | h | h
    · constructor
      · intro q; omega
      · intro q; omega
    · subst h; constructor
      · intro q; omega
      · intro q; simp at q
    · have : i - k = (i - (k + 1)) + 1 := by omega
      rw [this, List.getElem?_cons_succ]; constructor
      · intro q; exact ⟨by omega, q.2⟩
      · intro q; exact ⟨by omega, q.2⟩
  | some w :: t, k, i, v => by
    rw [gla, List.mem_cons, gla_mem t (k + 1) i v]
    rcases Nat.lt_trichotomy i k with h | h | h
    · constructor
      · rintro (q | q)
        · cases q; omega
        · omega
      · intro q; omega
    · subst h; simp only [Nat.sub_self, List.getElem?_cons_zero, Nat.le_refl, true_and, Option.some.injEq, Prod.mk.injEq]; constructor
      · rintro (q | q)
        · exact q.symm
        · omega
      · intro q; exact Or.inl q.symm
    · have : i - k = (i - (k + 1)) + 1 := by omega
      rw [this, List.getElem?_cons_succ]; constructor
      · rintro (q | q)
        · cases q; omega
        · exact ⟨by omega, q.2⟩
      · intro q; exact Or.inr ⟨by omega, q.2⟩
def gL (ls : Array Slot) (nL : Nat) (lo : List (Option Value)) : Prop := lv_has ls nL (gla 0 lo) ∧ ∀ x ∈ gla 0 lo, x.2.category = 1
def lget : List (Option Value) → Nat → Option Value
  | [], _ => none
  | v :: _, 0 => v
  | _ :: t, n + 1 => lget t n
theorem lget_at : ∀ (lo : List (Option Value)) (i : Nat) {v : Value}, lget lo i = some v → lo[i]? = some (some v)
  | [], _, _, h => by simp [lget] at h
  | x :: t, 0, v, h => by simp only [lget] at h; simp [h]
  | x :: t, n + 1, v, h => by simp only [lget] at h; simpa using lget_at t n h
theorem gL.at {ls : Array Slot} {nL : Nat} {lo : List (Option Value)} (h : gL ls nL lo) {i : Nat} {v : Value} (hi : lget lo i = some v) : ls[i]? = some (.val v) :=
  h.1.2.2 (i, v) ((gla_mem lo 0 i v).2 ⟨Nat.zero_le _, by simpa using lget_at lo i hi⟩)
def lset : List (Option Value) → Nat → Value → List (Option Value)
  | [], _, _ => []
  | _ :: t, 0, v => some v :: t
  | x :: t, n + 1, v => x :: lset t n v
theorem lset_eq : ∀ (lo : List (Option Value)) (i : Nat) (v : Value), lset lo i v = lo.set i (some v)
  | [], _, _ => rfl
  | _ :: _, 0, _ => rfl
  | x :: t, n + 1, v => by simp [lset, lset_eq t n v]
theorem gL.set {ls' : Array Slot} {nL : Nat} {lo lw : List (Option Value)} {i : Nat} {v : Value} (hc : v.category = 1) (hcs : ∀ x ∈ gla 0 lo, x.2.category = 1)
    (h : lv_has ls' nL ((i, v) :: (gla 0 lo).filter (fun q => !(q.1 == i) && !(q.1 + 1 == i && q.2.category == 2)))) (hw : lset lo i v = lw) : gL ls' nL lw := by
  subst hw
  have key : ∀ x ∈ gla 0 (lset lo i v), x = (i, v) ∨ (x ∈ gla 0 lo ∧ x.1 ≠ i) := by
    intro x hx
    obtain ⟨j, w⟩ := x
    have h1 := ((gla_mem _ 0 j w).1 hx).2
    rw [lset_eq, Nat.sub_zero, List.getElem?_set] at h1
    by_cases hj : i = j
    · subst hj
      simp only [if_true] at h1
      split at h1
      · left; cases h1; rfl
      · cases h1
    · rw [if_neg hj] at h1
      exact Or.inr ⟨(gla_mem _ 0 j w).2 ⟨Nat.zero_le _, by simpa using h1⟩, fun q => hj q.symm⟩
  refine ⟨⟨h.1, h.2.1, fun x hx => ?_⟩, fun x hx => ?_⟩
  · apply h.2.2
    rcases key x hx with q | ⟨q1, q2⟩
    · rw [q]; exact List.mem_cons_self
    · refine List.mem_cons_of_mem _ (List.mem_filter.2 ⟨q1, ?_⟩)
      have := hcs x q1
      simp [q2, this]
  · rcases key x hx with q | ⟨q1, q2⟩
    · rw [q]; exact hc
    · exact hcs x q1
/-- what is known of fewer locals -/
def lsub : List (Option Value) → List (Option Value) → Prop
  | [], _ => True
  | none :: t, [] => lsub t []
  | none :: t, _ :: t' => lsub t t'
  | some _ :: _, [] => False
  | some v :: t, x :: t' => x = some v ∧ lsub t t'
theorem lsub_at : ∀ (lw lo : List (Option Value)), lsub lw lo → ∀ (i : Nat) (v : Value), lw[i]? = some (some v) → lo[i]? = some (some v)
  | [], _, _, i, v, h => by simp at h
  | none :: t, [], hs, 0, v, h => by simp at h
  | none :: t, [], hs, i + 1, v, h => by
    have := lsub_at t [] hs i v (by simpa using h)
    simp at this
  | none :: t, _ :: t', hs, 0, v, h => by simp at h
  | none :: t, _ :: t', hs, i + 1, v, h => by
    have := lsub_at t t' hs i v (by simpa using h)
    simpa using this
  | some _ :: _, [], hs, _, _, _ => False.elim hs
  | some w :: t, x :: t', hs, 0, v, h => by
    have h' : w = v := by simpa using h
    simp [hs.1, h']
  | some w :: t, x :: t', hs, i + 1, v, h => by
    have := lsub_at t t' hs.2 i v (by simpa using h)
    simpa using this
theorem gL.sub {ls : Array Slot} {nL : Nat} {lo lw : List (Option Value)} (h : gL ls nL lo) (hs : lsub lw lo) : gL ls nL lw := by
  have key : ∀ x ∈ gla 0 lw, x ∈ gla 0 lo := by
    intro x hx
    obtain ⟨j, w⟩ := x
    have h1 := ((gla_mem _ 0 j w).1 hx).2
    exact (gla_mem _ 0 j w).2 ⟨Nat.zero_le _, lsub_at lw lo hs _ _ h1⟩
  exact ⟨⟨h.1.1, h.1.2.1, fun x hx => h.1.2.2 x (key x hx)⟩, fun x hx => h.2 x (key x hx)⟩

/-- what a walk keeps -/
def Gx (κ : GC) (Γ : GA) (nL : Nat) (cc : ByteArray) (own : String) (rm : Room) (rt : Option FieldType) : Prop :=
  κ.1.tables.exec = Jvm.exec ∧ κ.2.2.2.2.2.2.2.2.2.code = cc ∧ (∀ w ∈ TW, w.before κ.2.2.2.2.2.2.1 κ.2.2.2.2.1 = true) ∧ κ.2.2.2.2.1.vm.findClass own = some κ.2.2.2.2.2.1.cls ∧ va_K Γ.1 gCl (gT Γ) κ.2.2.2.2.1 ∧ Γ.2.2.1 ≤ κ.2.2.2.2.1.heap.size ∧ κ.2.2.2.2.2.2.2.2.2.maxLocals = nL ∧ κ.2.2.2.2.2.2.2.2.1.locks = false ∧ κ.2.2.2.1 = rm ∧ κ.2.2.2.2.2.2.2.2.1.sig.returnType = rt ∧ vx_Zq Bundle.tN "UNASSIGNED_STACK" Bundle.steD (gA Γ) κ.2.2.2.2.1 κ.2.2.2.2.1.heap ∧ vx_Zq Bundle.tN "SUPPRESSED_SENTINEL" Bundle.listD (gA Γ) κ.2.2.2.2.1 κ.2.2.2.2.1.heap ∧ gBad κ.2.2.2.2.1
def GG {ρ : Type} (κ : GC) (Γ : GA) (nL : Nat) (QF : Option ρ → State → Prop) (cells slots : Nat) (σ : Mem) (lo : List (Option Value)) (pc : Nat) (st : List Value) (o : Option ρ) : Prop :=
  o ≠ none → ∀ (H : Heap) (locs : List Loc) (ls : Array Slot), va_P Γ.1 gCl (gwd Γ σ) H → va_D (gA Γ) (gwd Γ σ) → va_S (gA Γ) κ.2.2.2.2.1.heap H locs → gL ls nL lo → W κ.1 κ.2.1 κ.2.2.1 κ.2.2.2.1 κ.2.2.2.2.1 κ.2.2.2.2.2.1 κ.2.2.2.2.2.2.1 κ.2.2.2.2.2.2.2.1 κ.2.2.2.2.2.2.2.2.1 κ.2.2.2.2.2.2.2.2.2 H locs cells slots (QF o) (F0 κ.2.2.2.2.2.1 pc ls st)
variable {ρ : Type} {κ : GC} {Γ : GA} {nL cells slots : Nat} {QF : Option ρ → State → Prop} {σ : Mem} {lo lw : List (Option Value)} {pc n : Nat} {rest : List Value} {o : Option ρ} {cc : ByteArray} {own : String} {rm : Room} {rt : Option FieldType}
theorem g_none {st : List Value} : GG κ Γ nL QF cells slots σ lo pc st none := fun h => absurd rfl h
theorem g_sub {st : List Value} (hs : lsub lw lo) (k : GG κ Γ nL QF cells slots σ lw pc st o) : GG κ Γ nL QF cells slots σ lo pc st o := fun h0 H locs ls hP hD hS hl => k h0 H locs ls hP hD hS (hl.sub hs)
theorem g_eq {st : List Value} {o' : Option ρ} (h : o' = o) (k : GG κ Γ nL QF cells slots σ lo pc st o') : GG κ Γ nL QF cells slots σ lo pc st o := h ▸ k
theorem g_top {e : Int32} {ok : Int32 → Option ρ} (k : ∀ x, GG κ Γ nL QF cells slots σ lo pc (.int x :: rest) (ok x)) : GG κ Γ nL QF cells slots σ lo pc (.int e :: rest) (gbi e ok) := k e
theorem g_mem {st : List Value} {ok : Mem → Option ρ} (k : ∀ u, GG κ Γ nL QF cells slots u lo pc st (ok u)) : GG κ Γ nL QF cells slots σ lo pc st (gbm σ ok) := k σ
theorem g_pane {st : List Value} {q : Nat} {dc : Decidable (gpn q = true)} (k : gPn q → GG κ Γ nL QF cells slots σ lo pc st o) : GG κ Γ nL QF cells slots σ lo pc st (@ite _ (gpn q = true) dc o none) := by
  by_cases h : gpn q = true
  · rw [if_pos h]; exact k (gpn_of h)
  · rw [if_neg h]; exact g_none
theorem g_widen {st : List Value} {c1 s1 : Nat} (h1 : cells ≤ c1) (h2 : slots ≤ s1) (k : GG κ Γ nL QF c1 s1 σ lo pc st o) : GG κ Γ nL QF cells slots σ lo pc st o := fun h0 H locs ls hP hD hS hl => W.widen h1 h2 (k h0 H locs ls hP hD hS hl)
theorem g_iconst (hX : Gx κ Γ nL cc own rm rt) {z : Int} (v : Int32) (hd : decode cc pc = .ok (.iconst z, 1)) (hn : pc + 1 = n) (hv : Int32.ofInt z = v) (k : GG κ Γ nL QF cells slots σ lo n (.int v :: rest) o) : GG κ Γ nL QF cells slots σ lo pc (rest) o := by
  subst hn; exact fun h0 H locs ls hP hD hS hl => lv_iconst hX.1 hX.2.1 hd hv (k h0 H locs ls hP hD hS hl)
theorem g_bipush (hX : Gx κ Γ nL cc own rm rt) {z : Int} (v : Int32) (hd : decode cc pc = .ok (.bipush z, 2)) (hn : pc + 2 = n) (hv : (Int8.ofInt z).toInt32 = v) (k : GG κ Γ nL QF cells slots σ lo n (.int v :: rest) o) : GG κ Γ nL QF cells slots σ lo pc (rest) o := by
  subst hn; exact fun h0 H locs ls hP hD hS hl => lv_bipush hX.1 hX.2.1 hd hv (k h0 H locs ls hP hD hS hl)
theorem g_sipush (hX : Gx κ Γ nL cc own rm rt) {z : Int} (v : Int32) (hd : decode cc pc = .ok (.sipush z, 3)) (hn : pc + 3 = n) (hv : (Int16.ofInt z).toInt32 = v) (k : GG κ Γ nL QF cells slots σ lo n (.int v :: rest) o) : GG κ Γ nL QF cells slots σ lo pc (rest) o := by
  subst hn; exact fun h0 H locs ls hP hD hS hl => lv_sipush hX.1 hX.2.1 hd hv (k h0 H locs ls hP hD hS hl)
theorem g_lconst (hX : Gx κ Γ nL cc own rm rt) {z : Fin 2} (v : Int64) (hd : decode cc pc = .ok (.lconst z, 1)) (hn : pc + 1 = n) (hv : Int64.ofNat (z : Nat) = v) (k : GG κ Γ nL QF cells slots σ lo n (.long v :: rest) o) : GG κ Γ nL QF cells slots σ lo pc (rest) o := by
  subst hn; exact fun h0 H locs ls hP hD hS hl => lv_lconst hX.1 hX.2.1 hd hv (k h0 H locs ls hP hD hS hl)
theorem g_iload (hX : Gx κ Γ nL cc own rm rt) {i : Nat} {x : Int32} (hd : decode cc pc = .ok (.iload i, 2)) (hn : pc + 2 = n) (hj : lget lo i = some (.int x)) (k : GG κ Γ nL QF cells slots σ lo n (.int x :: rest) o) : GG κ Γ nL QF cells slots σ lo pc (rest) o := by
  subst hn; exact fun h0 H locs ls hP hD hS hl => lv_iload hX.1 hX.2.1 hd (hl.at hj) (k h0 H locs ls hP hD hS hl)
theorem g_iload_n (hX : Gx κ Γ nL cc own rm rt) {k4 : Fin 4} (i : Nat) {x : Int32} (hd : decode cc pc = .ok (.iload_n k4, 1)) (hn : pc + 1 = n) (hi : (k4 : Nat) = i) (hj : lget lo i = some (.int x)) (k : GG κ Γ nL QF cells slots σ lo n (.int x :: rest) o) : GG κ Γ nL QF cells slots σ lo pc (rest) o := by
  subst hn; exact fun h0 H locs ls hP hD hS hl => lv_iload_n hX.1 hX.2.1 hd hi (hl.at hj) (k h0 H locs ls hP hD hS hl)
theorem g_istore (hX : Gx κ Γ nL cc own rm rt) {i : Nat} {x : Int32} (lw : List (Option Value)) (hd : decode cc pc = .ok (.istore i, 2)) (hn : pc + 2 = n)  (hi2 : i < nL) (hl2 : lset lo i (.int x) = lw) (k : GG κ Γ nL QF cells slots σ lw n rest o) : GG κ Γ nL QF cells slots σ lo pc (.int x :: rest) o := by
  subst hn; exact fun h0 H locs ls hP hD hS hl => lv_istore hX.1 hX.2.1 hd  hl.1 hi2 rfl (fun ls1 hl1 => k h0 H locs ls1 hP hD hS (gL.set rfl hl.2 hl1 hl2))
theorem g_istore_n (hX : Gx κ Γ nL cc own rm rt) {k4 : Fin 4} (i : Nat) {x : Int32} (lw : List (Option Value)) (hd : decode cc pc = .ok (.istore_n k4, 1)) (hn : pc + 1 = n) (hi : (k4 : Nat) = i) (hi2 : i < nL) (hl2 : lset lo i (.int x) = lw) (k : GG κ Γ nL QF cells slots σ lw n rest o) : GG κ Γ nL QF cells slots σ lo pc (.int x :: rest) o := by
  subst hn; exact fun h0 H locs ls hP hD hS hl => lv_istore_n hX.1 hX.2.1 hd hi hl.1 hi2 rfl (fun ls1 hl1 => k h0 H locs ls1 hP hD hS (gL.set rfl hl.2 hl1 hl2))
theorem g_aload (hX : Gx κ Γ nL cc own rm rt) {i : Nat} {x : Nat} (hd : decode cc pc = .ok (.aload i, 2)) (hn : pc + 2 = n) (hj : lget lo i = some (.ref x)) (k : GG κ Γ nL QF cells slots σ lo n (.ref x :: rest) o) : GG κ Γ nL QF cells slots σ lo pc (rest) o := by
  subst hn; exact fun h0 H locs ls hP hD hS hl => lv_aload hX.1 hX.2.1 hd (hl.at hj) (k h0 H locs ls hP hD hS hl)
theorem g_aload_n (hX : Gx κ Γ nL cc own rm rt) {k4 : Fin 4} (i : Nat) {x : Nat} (hd : decode cc pc = .ok (.aload_n k4, 1)) (hn : pc + 1 = n) (hi : (k4 : Nat) = i) (hj : lget lo i = some (.ref x)) (k : GG κ Γ nL QF cells slots σ lo n (.ref x :: rest) o) : GG κ Γ nL QF cells slots σ lo pc (rest) o := by
  subst hn; exact fun h0 H locs ls hP hD hS hl => lv_aload_n hX.1 hX.2.1 hd hi (hl.at hj) (k h0 H locs ls hP hD hS hl)
theorem g_astore (hX : Gx κ Γ nL cc own rm rt) {i : Nat} {x : Nat} (lw : List (Option Value)) (hd : decode cc pc = .ok (.astore i, 2)) (hn : pc + 2 = n)  (hi2 : i < nL) (hl2 : lset lo i (.ref x) = lw) (k : GG κ Γ nL QF cells slots σ lw n rest o) : GG κ Γ nL QF cells slots σ lo pc (.ref x :: rest) o := by
  subst hn; exact fun h0 H locs ls hP hD hS hl => lv_astore hX.1 hX.2.1 hd  hl.1 hi2 rfl (fun ls1 hl1 => k h0 H locs ls1 hP hD hS (gL.set rfl hl.2 hl1 hl2))
theorem g_astore_n (hX : Gx κ Γ nL cc own rm rt) {k4 : Fin 4} (i : Nat) {x : Nat} (lw : List (Option Value)) (hd : decode cc pc = .ok (.astore_n k4, 1)) (hn : pc + 1 = n) (hi : (k4 : Nat) = i) (hi2 : i < nL) (hl2 : lset lo i (.ref x) = lw) (k : GG κ Γ nL QF cells slots σ lw n rest o) : GG κ Γ nL QF cells slots σ lo pc (.ref x :: rest) o := by
  subst hn; exact fun h0 H locs ls hP hD hS hl => lv_astore_n hX.1 hX.2.1 hd hi hl.1 hi2 rfl (fun ls1 hl1 => k h0 H locs ls1 hP hD hS (gL.set rfl hl.2 hl1 hl2))
theorem gla_get {i : Nat} {v : Value} (h : lget lo i = some v) : ∃ j : Nat, (gla 0 lo)[j]? = some (i, v) := by
  have h1 : (i, v) ∈ gla 0 lo := (gla_mem lo 0 i v).2 ⟨Nat.zero_le _, by simpa using lget_at lo i h⟩
  exact List.getElem?_of_mem h1
theorem g_iinc (hX : Gx κ Γ nL cc own rm rt) {i : Nat} {z : Int} {x : Int32} (w v : Int32) (lw : List (Option Value)) (hd : decode cc pc = .ok (.iinc i z, 3)) (hn : pc + 3 = n) (hj : lget lo i = some (.int x)) (hv : Int32.ofInt z = w) (hv2 : x + w = v) (hi2 : i < nL) (hl2 : lset lo i (.int v) = lw) (k : GG κ Γ nL QF cells slots σ lw n rest o) : GG κ Γ nL QF cells slots σ lo pc rest o := by
  subst hn; subst hv; obtain ⟨j, hj1⟩ := gla_get hj; exact fun h0 H locs ls hP hD hS hl => lv_iinc hX.1 hX.2.1 hd hl.1 hj1 hv2 hi2 rfl (fun ls1 hl1 => k h0 H locs ls1 hP hD hS (gL.set rfl hl.2 hl1 hl2))
theorem g_iadd (hX : Gx κ Γ nL cc own rm rt) {x y : Int32} (hd : decode cc pc = .ok (.iadd, 1)) (hn : pc + 1 = n)  (k : GG κ Γ nL QF cells slots σ lo n (.int (x + y) :: rest) o) : GG κ Γ nL QF cells slots σ lo pc (.int y :: .int x :: rest) o := by
  subst hn; exact fun h0 H locs ls hP hD hS hl => lv_iadd hX.1 hX.2.1 hd  (k h0 H locs ls hP hD hS hl)
theorem g_isub (hX : Gx κ Γ nL cc own rm rt) {x y : Int32} (hd : decode cc pc = .ok (.isub, 1)) (hn : pc + 1 = n)  (k : GG κ Γ nL QF cells slots σ lo n (.int (x - y) :: rest) o) : GG κ Γ nL QF cells slots σ lo pc (.int y :: .int x :: rest) o := by
  subst hn; exact fun h0 H locs ls hP hD hS hl => lv_isub hX.1 hX.2.1 hd  (k h0 H locs ls hP hD hS hl)
theorem g_imul (hX : Gx κ Γ nL cc own rm rt) {x y : Int32} (hd : decode cc pc = .ok (.imul, 1)) (hn : pc + 1 = n)  (k : GG κ Γ nL QF cells slots σ lo n (.int (x * y) :: rest) o) : GG κ Γ nL QF cells slots σ lo pc (.int y :: .int x :: rest) o := by
  subst hn; exact fun h0 H locs ls hP hD hS hl => lv_imul hX.1 hX.2.1 hd  (k h0 H locs ls hP hD hS hl)
theorem g_iand (hX : Gx κ Γ nL cc own rm rt) {x y : Int32} (hd : decode cc pc = .ok (.iand, 1)) (hn : pc + 1 = n)  (k : GG κ Γ nL QF cells slots σ lo n (.int (x &&& y) :: rest) o) : GG κ Γ nL QF cells slots σ lo pc (.int y :: .int x :: rest) o := by
  subst hn; exact fun h0 H locs ls hP hD hS hl => lv_iand hX.1 hX.2.1 hd  (k h0 H locs ls hP hD hS hl)
theorem g_ixor (hX : Gx κ Γ nL cc own rm rt) {x y : Int32} (hd : decode cc pc = .ok (.ixor, 1)) (hn : pc + 1 = n)  (k : GG κ Γ nL QF cells slots σ lo n (.int (x ^^^ y) :: rest) o) : GG κ Γ nL QF cells slots σ lo pc (.int y :: .int x :: rest) o := by
  subst hn; exact fun h0 H locs ls hP hD hS hl => lv_ixor hX.1 hX.2.1 hd  (k h0 H locs ls hP hD hS hl)
theorem g_ineg (hX : Gx κ Γ nL cc own rm rt) {x : Int32} (hd : decode cc pc = .ok (.ineg, 1)) (hn : pc + 1 = n)  (k : GG κ Γ nL QF cells slots σ lo n (.int (-x) :: rest) o) : GG κ Γ nL QF cells slots σ lo pc (.int x :: rest) o := by
  subst hn; exact fun h0 H locs ls hP hD hS hl => lv_ineg hX.1 hX.2.1 hd  (k h0 H locs ls hP hD hS hl)
theorem g_idiv (hX : Gx κ Γ nL cc own rm rt) {x y : Int32} {dc : Decidable (y = 0)} (hd : decode cc pc = .ok (.idiv, 1)) (hn : pc + 1 = n) (k : GG κ Γ nL QF cells slots σ lo n (.int (x / y) :: rest) o) : GG κ Γ nL QF cells slots σ lo pc (.int y :: .int x :: rest) (@ite _ (y = 0) dc none o) := by
  subst hn; intro h0 H locs ls hP hD hS hl
  by_cases h : y = 0
  · exact absurd (if_pos h) h0
  · rw [if_neg h] at h0 ⊢; exact lv_idiv hX.1 hX.2.1 hd h (k h0 H locs ls hP hD hS hl)
theorem g_idivK (hX : Gx κ Γ nL cc own rm rt) {x y : Int32} (hy : ¬ y = 0) (hd : decode cc pc = .ok (.idiv, 1)) (hn : pc + 1 = n) (k : GG κ Γ nL QF cells slots σ lo n (.int (x / y) :: rest) o) : GG κ Γ nL QF cells slots σ lo pc (.int y :: .int x :: rest) o := by
  subst hn; exact fun h0 H locs ls hP hD hS hl => lv_idiv hX.1 hX.2.1 hd hy (k h0 H locs ls hP hD hS hl)
theorem g_irem (hX : Gx κ Γ nL cc own rm rt) {x y : Int32} {dc : Decidable (y = 0)} (hd : decode cc pc = .ok (.irem, 1)) (hn : pc + 1 = n) (k : GG κ Γ nL QF cells slots σ lo n (.int (x - x / y * y) :: rest) o) : GG κ Γ nL QF cells slots σ lo pc (.int y :: .int x :: rest) (@ite _ (y = 0) dc none o) := by
  subst hn; intro h0 H locs ls hP hD hS hl
  by_cases h : y = 0
  · exact absurd (if_pos h) h0
  · rw [if_neg h] at h0 ⊢; exact lv_irem hX.1 hX.2.1 hd h (k h0 H locs ls hP hD hS hl)
theorem g_iremK (hX : Gx κ Γ nL cc own rm rt) {x y : Int32} (hy : ¬ y = 0) (hd : decode cc pc = .ok (.irem, 1)) (hn : pc + 1 = n) (k : GG κ Γ nL QF cells slots σ lo n (.int (x - x / y * y) :: rest) o) : GG κ Γ nL QF cells slots σ lo pc (.int y :: .int x :: rest) o := by
  subst hn; exact fun h0 H locs ls hP hD hS hl => lv_irem hX.1 hX.2.1 hd hy (k h0 H locs ls hP hD hS hl)
theorem g_dup (hX : Gx κ Γ nL cc own rm rt) {va : Value} (hd : decode cc pc = .ok (.dup, 1)) (hn : pc + 1 = n) (hva : va.category = 1) (k : GG κ Γ nL QF cells slots σ lo n (va :: va :: rest) o) : GG κ Γ nL QF cells slots σ lo pc (va :: rest) o := by
  subst hn; exact fun h0 H locs ls hP hD hS hl => lv_dup hX.1 hX.2.1 hd hva (k h0 H locs ls hP hD hS hl)
theorem g_pop (hX : Gx κ Γ nL cc own rm rt) {va : Value} (hd : decode cc pc = .ok (.pop, 1)) (hn : pc + 1 = n) (hva : va.category = 1) (k : GG κ Γ nL QF cells slots σ lo n (rest) o) : GG κ Γ nL QF cells slots σ lo pc (va :: rest) o := by
  subst hn; exact fun h0 H locs ls hP hD hS hl => lv_pop hX.1 hX.2.1 hd hva (k h0 H locs ls hP hD hS hl)
theorem g_i2l (hX : Gx κ Γ nL cc own rm rt) {x : Int32} (hd : decode cc pc = .ok (.i2l, 1)) (hn : pc + 1 = n)  (k : GG κ Γ nL QF cells slots σ lo n (.long x.toInt64 :: rest) o) : GG κ Γ nL QF cells slots σ lo pc (.int x :: rest) o := by
  subst hn; exact fun h0 H locs ls hP hD hS hl => lv_i2l hX.1 hX.2.1 hd rfl (k h0 H locs ls hP hD hS hl)
theorem g_lcmp (hX : Gx κ Γ nL cc own rm rt) {x y : Int64} (hd : decode cc pc = .ok (.lcmp, 1)) (hn : pc + 1 = n)  (k : GG κ Γ nL QF cells slots σ lo n (.int (lg_cmp x y) :: rest) o) : GG κ Γ nL QF cells slots σ lo pc (.long y :: .long x :: rest) o := by
  subst hn; exact fun h0 H locs ls hP hD hS hl => W.lcmp hX.1 hX.2.1 hd  (k h0 H locs ls hP hD hS hl)
theorem g_icmp_eq (hX : Gx κ Γ nL cc own rm rt) {x y : Int32} {off : Int} {dc : Decidable (x = y)} {ot of : Option ρ} (tgt : Nat) (hd : decode cc pc = .ok (.if_icmp .eq off, 3)) (hn : pc + 3 = n) (ht : (pc : Int) + off = (tgt : Int)) (kt : GG κ Γ nL QF cells slots σ lo tgt rest ot) (kf : GG κ Γ nL QF cells slots σ lo n rest of) : GG κ Γ nL QF cells slots σ lo pc (.int y :: .int x :: rest) (@ite _ (x = y) dc ot of) := by
  subst hn; intro h0 H locs ls hP hD hS hl
  exact lv_icmp_eq hX.1 hX.2.1 hd ht (fun h => by rw [if_pos h] at h0 ⊢; exact kt h0 H locs ls hP hD hS hl) (fun h => by rw [if_neg h] at h0 ⊢; exact kf h0 H locs ls hP hD hS hl)
theorem g_if_eq (hX : Gx κ Γ nL cc own rm rt) {x : Int32} {off : Int} {dc : Decidable (x = 0)} {ot of : Option ρ} (tgt : Nat) (hd : decode cc pc = .ok (.ifCond .eq off, 3)) (hn : pc + 3 = n) (ht : (pc : Int) + off = (tgt : Int)) (kt : GG κ Γ nL QF cells slots σ lo tgt rest ot) (kf : GG κ Γ nL QF cells slots σ lo n rest of) : GG κ Γ nL QF cells slots σ lo pc (.int x :: rest) (@ite _ (x = 0) dc ot of) := by
  subst hn; intro h0 H locs ls hP hD hS hl
  exact lv_if_eq hX.1 hX.2.1 hd ht (fun h => by rw [if_pos h] at h0 ⊢; exact kt h0 H locs ls hP hD hS hl) (fun h => by rw [if_neg h] at h0 ⊢; exact kf h0 H locs ls hP hD hS hl)
theorem g_icmp_ne (hX : Gx κ Γ nL cc own rm rt) {x y : Int32} {off : Int} {dc : Decidable (x = y)} {ot of : Option ρ} (tgt : Nat) (hd : decode cc pc = .ok (.if_icmp .ne off, 3)) (hn : pc + 3 = n) (ht : (pc : Int) + off = (tgt : Int)) (kt : GG κ Γ nL QF cells slots σ lo tgt rest ot) (kf : GG κ Γ nL QF cells slots σ lo n rest of) : GG κ Γ nL QF cells slots σ lo pc (.int y :: .int x :: rest) (@ite _ (x = y) dc of ot) := by
  subst hn; intro h0 H locs ls hP hD hS hl
  exact lv_icmp_ne hX.1 hX.2.1 hd ht (fun h => by rw [if_neg h] at h0 ⊢; exact kt h0 H locs ls hP hD hS hl) (fun h => by rw [if_pos h] at h0 ⊢; exact kf h0 H locs ls hP hD hS hl)
theorem g_if_ne (hX : Gx κ Γ nL cc own rm rt) {x : Int32} {off : Int} {dc : Decidable (x = 0)} {ot of : Option ρ} (tgt : Nat) (hd : decode cc pc = .ok (.ifCond .ne off, 3)) (hn : pc + 3 = n) (ht : (pc : Int) + off = (tgt : Int)) (kt : GG κ Γ nL QF cells slots σ lo tgt rest ot) (kf : GG κ Γ nL QF cells slots σ lo n rest of) : GG κ Γ nL QF cells slots σ lo pc (.int x :: rest) (@ite _ (x = 0) dc of ot) := by
  subst hn; intro h0 H locs ls hP hD hS hl
  exact lv_if_ne hX.1 hX.2.1 hd ht (fun h => by rw [if_neg h] at h0 ⊢; exact kt h0 H locs ls hP hD hS hl) (fun h => by rw [if_pos h] at h0 ⊢; exact kf h0 H locs ls hP hD hS hl)
theorem g_icmp_lt (hX : Gx κ Γ nL cc own rm rt) {x y : Int32} {off : Int} {dc : Decidable (x < y)} {ot of : Option ρ} (tgt : Nat) (hd : decode cc pc = .ok (.if_icmp .lt off, 3)) (hn : pc + 3 = n) (ht : (pc : Int) + off = (tgt : Int)) (kt : GG κ Γ nL QF cells slots σ lo tgt rest ot) (kf : GG κ Γ nL QF cells slots σ lo n rest of) : GG κ Γ nL QF cells slots σ lo pc (.int y :: .int x :: rest) (@ite _ (x < y) dc ot of) := by
  subst hn; intro h0 H locs ls hP hD hS hl
  exact lv_icmp_lt hX.1 hX.2.1 hd ht (fun h => by rw [if_pos h] at h0 ⊢; exact kt h0 H locs ls hP hD hS hl) (fun h => by rw [if_neg h] at h0 ⊢; exact kf h0 H locs ls hP hD hS hl)
theorem g_if_lt (hX : Gx κ Γ nL cc own rm rt) {x : Int32} {off : Int} {dc : Decidable (x < 0)} {ot of : Option ρ} (tgt : Nat) (hd : decode cc pc = .ok (.ifCond .lt off, 3)) (hn : pc + 3 = n) (ht : (pc : Int) + off = (tgt : Int)) (kt : GG κ Γ nL QF cells slots σ lo tgt rest ot) (kf : GG κ Γ nL QF cells slots σ lo n rest of) : GG κ Γ nL QF cells slots σ lo pc (.int x :: rest) (@ite _ (x < 0) dc ot of) := by
  subst hn; intro h0 H locs ls hP hD hS hl
  exact lv_if_lt hX.1 hX.2.1 hd ht (fun h => by rw [if_pos h] at h0 ⊢; exact kt h0 H locs ls hP hD hS hl) (fun h => by rw [if_neg h] at h0 ⊢; exact kf h0 H locs ls hP hD hS hl)
theorem g_icmp_ge (hX : Gx κ Γ nL cc own rm rt) {x y : Int32} {off : Int} {dc : Decidable (y ≤ x)} {ot of : Option ρ} (tgt : Nat) (hd : decode cc pc = .ok (.if_icmp .ge off, 3)) (hn : pc + 3 = n) (ht : (pc : Int) + off = (tgt : Int)) (kt : GG κ Γ nL QF cells slots σ lo tgt rest ot) (kf : GG κ Γ nL QF cells slots σ lo n rest of) : GG κ Γ nL QF cells slots σ lo pc (.int y :: .int x :: rest) (@ite _ (y ≤ x) dc ot of) := by
  subst hn; intro h0 H locs ls hP hD hS hl
  exact lv_icmp_ge hX.1 hX.2.1 hd ht (fun h => by rw [if_pos h] at h0 ⊢; exact kt h0 H locs ls hP hD hS hl) (fun h => by rw [if_neg h] at h0 ⊢; exact kf h0 H locs ls hP hD hS hl)
theorem g_if_ge (hX : Gx κ Γ nL cc own rm rt) {x : Int32} {off : Int} {dc : Decidable (0 ≤ x)} {ot of : Option ρ} (tgt : Nat) (hd : decode cc pc = .ok (.ifCond .ge off, 3)) (hn : pc + 3 = n) (ht : (pc : Int) + off = (tgt : Int)) (kt : GG κ Γ nL QF cells slots σ lo tgt rest ot) (kf : GG κ Γ nL QF cells slots σ lo n rest of) : GG κ Γ nL QF cells slots σ lo pc (.int x :: rest) (@ite _ (0 ≤ x) dc ot of) := by
  subst hn; intro h0 H locs ls hP hD hS hl
  exact lv_if_ge hX.1 hX.2.1 hd ht (fun h => by rw [if_pos h] at h0 ⊢; exact kt h0 H locs ls hP hD hS hl) (fun h => by rw [if_neg h] at h0 ⊢; exact kf h0 H locs ls hP hD hS hl)
theorem g_icmp_gt (hX : Gx κ Γ nL cc own rm rt) {x y : Int32} {off : Int} {dc : Decidable (y < x)} {ot of : Option ρ} (tgt : Nat) (hd : decode cc pc = .ok (.if_icmp .gt off, 3)) (hn : pc + 3 = n) (ht : (pc : Int) + off = (tgt : Int)) (kt : GG κ Γ nL QF cells slots σ lo tgt rest ot) (kf : GG κ Γ nL QF cells slots σ lo n rest of) : GG κ Γ nL QF cells slots σ lo pc (.int y :: .int x :: rest) (@ite _ (y < x) dc ot of) := by
  subst hn; intro h0 H locs ls hP hD hS hl
  exact lv_icmp_gt hX.1 hX.2.1 hd ht (fun h => by rw [if_pos h] at h0 ⊢; exact kt h0 H locs ls hP hD hS hl) (fun h => by rw [if_neg h] at h0 ⊢; exact kf h0 H locs ls hP hD hS hl)
theorem g_if_gt (hX : Gx κ Γ nL cc own rm rt) {x : Int32} {off : Int} {dc : Decidable (0 < x)} {ot of : Option ρ} (tgt : Nat) (hd : decode cc pc = .ok (.ifCond .gt off, 3)) (hn : pc + 3 = n) (ht : (pc : Int) + off = (tgt : Int)) (kt : GG κ Γ nL QF cells slots σ lo tgt rest ot) (kf : GG κ Γ nL QF cells slots σ lo n rest of) : GG κ Γ nL QF cells slots σ lo pc (.int x :: rest) (@ite _ (0 < x) dc ot of) := by
  subst hn; intro h0 H locs ls hP hD hS hl
  exact lv_if_gt hX.1 hX.2.1 hd ht (fun h => by rw [if_pos h] at h0 ⊢; exact kt h0 H locs ls hP hD hS hl) (fun h => by rw [if_neg h] at h0 ⊢; exact kf h0 H locs ls hP hD hS hl)
theorem g_icmp_le (hX : Gx κ Γ nL cc own rm rt) {x y : Int32} {off : Int} {dc : Decidable (x ≤ y)} {ot of : Option ρ} (tgt : Nat) (hd : decode cc pc = .ok (.if_icmp .le off, 3)) (hn : pc + 3 = n) (ht : (pc : Int) + off = (tgt : Int)) (kt : GG κ Γ nL QF cells slots σ lo tgt rest ot) (kf : GG κ Γ nL QF cells slots σ lo n rest of) : GG κ Γ nL QF cells slots σ lo pc (.int y :: .int x :: rest) (@ite _ (x ≤ y) dc ot of) := by
  subst hn; intro h0 H locs ls hP hD hS hl
  exact lv_icmp_le hX.1 hX.2.1 hd ht (fun h => by rw [if_pos h] at h0 ⊢; exact kt h0 H locs ls hP hD hS hl) (fun h => by rw [if_neg h] at h0 ⊢; exact kf h0 H locs ls hP hD hS hl)
theorem g_if_le (hX : Gx κ Γ nL cc own rm rt) {x : Int32} {off : Int} {dc : Decidable (x ≤ 0)} {ot of : Option ρ} (tgt : Nat) (hd : decode cc pc = .ok (.ifCond .le off, 3)) (hn : pc + 3 = n) (ht : (pc : Int) + off = (tgt : Int)) (kt : GG κ Γ nL QF cells slots σ lo tgt rest ot) (kf : GG κ Γ nL QF cells slots σ lo n rest of) : GG κ Γ nL QF cells slots σ lo pc (.int x :: rest) (@ite _ (x ≤ 0) dc ot of) := by
  subst hn; intro h0 H locs ls hP hD hS hl
  exact lv_if_le hX.1 hX.2.1 hd ht (fun h => by rw [if_pos h] at h0 ⊢; exact kt h0 H locs ls hP hD hS hl) (fun h => by rw [if_neg h] at h0 ⊢; exact kf h0 H locs ls hP hD hS hl)
theorem g_goto (hX : Gx κ Γ nL cc own rm rt) {off : Int} (tgt : Nat) (hd : decode cc pc = .ok (.goto off, 3)) (ht : (pc : Int) + off = (tgt : Int)) (k : GG κ Γ nL QF cells slots σ lo tgt rest o) : GG κ Γ nL QF cells slots σ lo pc rest o := fun h0 H locs ls hP hD hS hl => lv_goto hX.1 hX.2.1 hd ht (k h0 H locs ls hP hD hS hl)
end GJ
end
section
/-! Rows of GG: fields, arrays, switches, Math. -/
section GJ2
variable {ρ : Type} {κ : GC} {Γ : GA} {nL cells slots : Nat} {QF : Option ρ → State → Prop} {σ : Mem} {lo lw : List (Option Value)} {pc n : Nat} {rest : List Value} {o : Option ρ} {cc : ByteArray} {own : String} {rm : Room} {rt : Option FieldType}
/-- a field that is read: its word, its class, its place -/
def gF (own : String) (index ci f : Nat) : Prop := ∃ (ref C : String) (T : u_T) (N : Nat), gCl[ci]? = some (C, T, N) ∧ f < N ∧ Cond.fieldLink own index ref (T f).2.1 (T f).2.2.1 ∈ TW ∧ (T f).1 = ref ∧ ∀ w ∈ u_ws C T N, w ∈ TW
/-- a field that is written -/
def gFP (own : String) (index ci f : Nat) (ty : FieldType) : Prop := ∃ (ref C : String) (T : u_T) (N : Nat) (ty0 : Nat → FieldType), gCl[ci]? = some (C, T, N) ∧ f < N ∧ Cond.fieldLink own index ref (T f).2.1 (T f).2.2.1 ∈ TW ∧ (T f).1 = ref ∧ (∀ w ∈ u_ws C T N, w ∈ TW) ∧ (∀ k, k < N → parseFieldDescriptor (T k).2.2.1 = some (ty0 k)) ∧ (∀ a, a < N → ∀ b, b < N → a ≠ b → (T a).2.1 ≠ (T b).2.1) ∧ (T f).2.2.2 = false ∧ parseFieldDescriptor (T f).2.2.1 = some ty
theorem gwd_obj (Γ : GA) (σ : Mem) {q ci : Nat} {fl : List Nat} (hs : gSh[q]? = some (0, ci, fl)) : (gwd Γ σ)[q]? = some (Γ.2.1 q, .inr (ci, gfv Γ.2.1 (σ q) 0 fl)) := by rw [gwd_at Γ σ (gsh_lt hs), gce0 Γ σ hs]
theorem gwd_int (Γ : GA) (σ : Mem) {q N : Nat} {fl : List Nat} (hs : gSh[q]? = some (1, N, fl)) : (gwd Γ σ)[q]? = some (Γ.2.1 q, .inl (Γ.2.2.2 q, N, .inl (σ q))) := by rw [gwd_at Γ σ (gsh_lt hs), gce1 Γ σ hs]
theorem gwd_boo (Γ : GA) (σ : Mem) {q N : Nat} {fl : List Nat} (hs : gSh[q]? = some (2, N, fl)) : (gwd Γ σ)[q]? = some (Γ.2.1 q, .inl (Γ.2.2.2 q, N, .inl (σ q))) := by rw [gwd_at Γ σ (gsh_lt hs), gce2 Γ σ hs]
theorem gwd_lng (Γ : GA) (σ : Mem) {q N : Nat} {fl : List Nat} (hs : gSh[q]? = some (3, N, fl)) : (gwd Γ σ)[q]? = some (Γ.2.1 q, .inl (Γ.2.2.2 q, N, .inr (.inl (fun i => (σ q i).toInt64)))) := by rw [gwd_at Γ σ (gsh_lt hs), gce3 Γ σ hs]
theorem gwd_pan (Γ : GA) (σ : Mem) {q N : Nat} {fl : List Nat} (hs : gSh[q]? = some (4, N, fl)) : (gwd Γ σ)[q]? = some (Γ.2.1 q, .inl (Γ.2.2.2 q, N, .inr (.inr (.inr (.inr (fun i => some (Γ.2.1 (gPB + i)))))))) := by rw [gwd_at Γ σ (gsh_lt hs), gce4 Γ σ hs]
theorem gwd_put0 (Γ : GA) (σ : Mem) {q ci f : Nat} {fl : List Nat} (v : Int32) (hs : gSh[q]? = some (0, ci, fl)) (hf : fl[f]? = some 0) : (gwd Γ σ).set q (Γ.2.1 q, .inr (ci, (gfv Γ.2.1 (σ q) 0 fl).set f (.int v))) = gwd Γ (m2 σ q f v) := by
  rw [gfv_set Γ.2.1 v fl (σ q) 0 f hf, Nat.zero_add]
  exact gwd_set Γ (gsh_lt hs) (by rw [gce0 Γ _ hs, m2_self]) (fun j hj => m2_ne σ f v hj)
theorem gwd_put1 (Γ : GA) (σ : Mem) {q N : Nat} {fl : List Nat} (k : Nat) (v : Int32) (hs : gSh[q]? = some (1, N, fl)) : (gwd Γ σ).set q (Γ.2.1 q, .inl (Γ.2.2.2 q, N, .inl (upd (σ q) k v))) = gwd Γ (m2 σ q k v) :=
  gwd_set Γ (gsh_lt hs) (by rw [gce1 Γ _ hs, m2_self]) (fun j hj => m2_ne σ k v hj)
theorem gwd_put2 (Γ : GA) (σ : Mem) {q N : Nat} {fl : List Nat} (k : Nat) (v : Int32) (hs : gSh[q]? = some (2, N, fl)) : (gwd Γ σ).set q (Γ.2.1 q, .inl (Γ.2.2.2 q, N, .inl (upd (σ q) k v))) = gwd Γ (m2 σ q k v) :=
  gwd_set Γ (gsh_lt hs) (by rw [gce2 Γ _ hs, m2_self]) (fun j hj => m2_ne σ k v hj)
theorem gwd_put3 (Γ : GA) (σ : Mem) {q N : Nat} {fl : List Nat} (k : Nat) (v : Int32) (hs : gSh[q]? = some (3, N, fl)) : (gwd Γ σ).set q (Γ.2.1 q, .inl (Γ.2.2.2 q, N, .inr (.inl (vp_updL (fun i => (σ q i).toInt64) k v.toInt64)))) = gwd Γ (m2 σ q k v) := by
  refine gwd_set Γ (gsh_lt hs) ?_ (fun j hj => m2_ne σ k v hj)
  rw [gce3 Γ _ hs, m2_self]
  have : (fun i => (upd (σ q) k v i).toInt64) = vp_updL (fun i => (σ q i).toInt64) k v.toInt64 := by
    funext i; simp only [upd, vp_updL]; split <;> rfl
  rw [this]
/-- a whole array at once -/
def mA (σ : Mem) (q : Nat) (g : Nat → Int32) : Mem := fun j => if j = q then g else σ j
theorem mA_self (σ : Mem) (q : Nat) (g : Nat → Int32) : mA σ q g q = g := by simp [mA]
theorem mA_ne (σ : Mem) {q j : Nat} (g : Nat → Int32) (h : j ≠ q) : mA σ q g j = σ j := by simp [mA, h]
theorem g_geti (hX : Gx κ Γ nL cc own rm rt) {q ci index f : Nat} {fl : List Nat} (hF : gF own index ci f) (hd : decode cc pc = .ok (.getfield index, 3)) (hn : pc + 3 = n) (hs : gSh[q]? = some (0, ci, fl)) (hf : fl[f]? = some 0) (k : GG κ Γ nL QF cells slots σ lo n (.int (σ q f) :: rest) o) : GG κ Γ nL QF cells slots σ lo pc (.ref (Γ.2.1 q) :: rest) o := by
  subst hn; obtain ⟨ref, C, T, N, h1, h2, h3, h4, h5⟩ := hF
  have hv : (gfv Γ.2.1 (σ q) 0 fl)[f]? = some (.int (σ q f)) := by have h := gfv_get Γ.2.1 (σ q) fl 0 f hf; rwa [Nat.zero_add] at h
  exact fun h0 H locs ls hP hD hS hl => va_get hX.1 hX.2.1 hX.2.2.1 h5 hX.2.2.2.1 hX.2.2.2.2.1 hP q (gwd_obj Γ σ hs) h1 f h2 (hX.2.2.1 _ h3) (fun x9 h9 => by rw [← h4]; exact h9) hv hd (k h0 H locs ls hP hD hS hl)
theorem g_geta (hX : Gx κ Γ nL cc own rm rt) {q ci index f : Nat} {fl : List Nat} (p9 : Nat) (hF : gF own index ci f) (hd : decode cc pc = .ok (.getfield index, 3)) (hn : pc + 3 = n) (hs : gSh[q]? = some (0, ci, fl)) (hf : fl[f]? = some (p9 + 1)) (k : GG κ Γ nL QF cells slots σ lo n (.ref (Γ.2.1 p9) :: rest) o) : GG κ Γ nL QF cells slots σ lo pc (.ref (Γ.2.1 q) :: rest) o := by
  subst hn; obtain ⟨ref, C, T, N, h1, h2, h3, h4, h5⟩ := hF
  exact fun h0 H locs ls hP hD hS hl => va_get hX.1 hX.2.1 hX.2.2.1 h5 hX.2.2.2.1 hX.2.2.2.2.1 hP q (gwd_obj Γ σ hs) h1 f h2 (hX.2.2.1 _ h3) (fun x9 h9 => by rw [← h4]; exact h9) (gfv_ref Γ.2.1 (σ q) fl 0 f hf) hd (k h0 H locs ls hP hD hS hl)
theorem g_puti (hX : Gx κ Γ nL cc own rm rt) {q ci index f : Nat} {fl : List Nat} {v : Int32} (hF : gFP own index ci f .int) (hd : decode cc pc = .ok (.putfield index, 3)) (hn : pc + 3 = n) (hs : gSh[q]? = some (0, ci, fl)) (hf : fl[f]? = some 0)  (k : GG κ Γ nL QF cells slots (m2 σ q f v) lo n rest o) : GG κ Γ nL QF cells slots σ lo pc (.int v :: .ref (Γ.2.1 q) :: rest) o := by
  subst hn; obtain ⟨ref, C, T, N, ty0, h1, h2, h3, h4, h5, h6, h7, h8, h9⟩ := hF
  have hlen : f < (gfv Γ.2.1 (σ q) 0 fl).length := by
    rw [gfv_len]; rcases Nat.lt_or_ge f fl.length with h | h
    · exact h
    · rw [List.getElem?_eq_none h] at hf; cases hf
  intro h0 H locs ls hP hD hS hl
  refine va_put hX.1 hX.2.1 hX.2.2.1 h5 ty0 h6 h7 hX.2.2.2.1 hX.2.2.2.2.1 hP hD hS q (gwd_obj Γ σ hs) h1 f h2 (hX.2.2.1 _ h3) (fun x9 h9 => by rw [← h4]; exact h9) h8 h9 rfl rfl hlen hd (fun H1 locs1 hP1 hD1 hS1 => ?_)
  rw [gwd_put0 Γ σ v hs hf] at hP1 hD1
  exact k h0 H1 locs1 ls hP1 hD1 hS1 hl
theorem g_putz (hX : Gx κ Γ nL cc own rm rt) {q ci index f : Nat} {fl : List Nat} {v : Int32} (hF : gFP own index ci f .boolean) (hd : decode cc pc = .ok (.putfield index, 3)) (hn : pc + 3 = n) (hs : gSh[q]? = some (0, ci, fl)) (hf : fl[f]? = some 0) (hv : narrow .boolean (.int v) = .int v) (hv2 : fits .boolean (.int v) = true) (k : GG κ Γ nL QF cells slots (m2 σ q f v) lo n rest o) : GG κ Γ nL QF cells slots σ lo pc (.int v :: .ref (Γ.2.1 q) :: rest) o := by
  subst hn; obtain ⟨ref, C, T, N, ty0, h1, h2, h3, h4, h5, h6, h7, h8, h9⟩ := hF
  have hlen : f < (gfv Γ.2.1 (σ q) 0 fl).length := by
    rw [gfv_len]; rcases Nat.lt_or_ge f fl.length with h | h
    · exact h
    · rw [List.getElem?_eq_none h] at hf; cases hf
  intro h0 H locs ls hP hD hS hl
  refine va_put hX.1 hX.2.1 hX.2.2.1 h5 ty0 h6 h7 hX.2.2.2.1 hX.2.2.2.2.1 hP hD hS q (gwd_obj Γ σ hs) h1 f h2 (hX.2.2.1 _ h3) (fun x9 h9 => by rw [← h4]; exact h9) h8 h9 hv hv2 hlen hd (fun H1 locs1 hP1 hD1 hS1 => ?_)
  rw [gwd_put0 Γ σ v hs hf] at hP1 hD1
  exact k h0 H1 locs1 ls hP1 hD1 hS1 hl
/-! arrays -/
theorem g_iald (hX : Gx κ Γ nL cc own rm rt) {q N : Nat} {i : Int32} {dc : Decidable (gin i N = true)} (hd : decode cc pc = .ok (.iaload, 1)) (hn : pc + 1 = n) (hs : gSh[q]? = some (1, N, [])) (k : GG κ Γ nL QF cells slots σ lo n (.int (σ q i.toNatClampNeg) :: rest) o) : GG κ Γ nL QF cells slots σ lo pc (.int i :: .ref (Γ.2.1 q) :: rest) (@ite _ (gin i N = true) dc o none) := by
  subst hn; intro h0 H locs ls hP hD hS hl
  by_cases h : gin i N = true
  · rw [if_pos h] at h0 ⊢
    exact va_iald hX.1 hX.2.1 hX.2.2.2.2.1 hP q q (gwd_int Γ σ hs) (gT_1 Γ hs) (gin_in h) hd (k h0 H locs ls hP hD hS hl)
  · exact absurd (if_neg h) h0
theorem g_zald (hX : Gx κ Γ nL cc own rm rt) {q N : Nat} {i : Int32} {dc : Decidable (gin i N = true)} (hd : decode cc pc = .ok (.baload, 1)) (hn : pc + 1 = n) (hs : gSh[q]? = some (2, N, [])) (k : GG κ Γ nL QF cells slots σ lo n (.int (σ q i.toNatClampNeg) :: rest) o) : GG κ Γ nL QF cells slots σ lo pc (.int i :: .ref (Γ.2.1 q) :: rest) (@ite _ (gin i N = true) dc o none) := by
  subst hn; intro h0 H locs ls hP hD hS hl
  by_cases h : gin i N = true
  · rw [if_pos h] at h0 ⊢
    exact va_zald hX.1 hX.2.1 hX.2.2.2.2.1 hP q q (gwd_boo Γ σ hs) (gT_2 Γ hs) (gin_in h) hd (k h0 H locs ls hP hD hS hl)
  · exact absurd (if_neg h) h0
theorem g_iast (hX : Gx κ Γ nL cc own rm rt) {q N : Nat} {i x : Int32} {dc : Decidable (gin i N = true)} (hd : decode cc pc = .ok (.iastore, 1)) (hn : pc + 1 = n) (hs : gSh[q]? = some (1, N, []))  (k : GG κ Γ nL QF cells slots (m2 σ q i.toNatClampNeg x) lo n rest o) : GG κ Γ nL QF cells slots σ lo pc (.int x :: .int i :: .ref (Γ.2.1 q) :: rest) (@ite _ (gin i N = true) dc o none) := by
  subst hn; intro h0 H locs ls hP hD hS hl
  by_cases h : gin i N = true
  · rw [if_pos h] at h0 ⊢
    refine va_iast hX.1 hX.2.1 hX.2.2.2.2.1 hP hD hS q q (gwd_int Γ σ hs) (gT_1 Γ hs) (gin_in h) hd (fun H1 locs1 hP1 hD1 hS1 => ?_)
    rw [gwd_put1 Γ σ i.toNatClampNeg x hs] at hP1 hD1
    exact k h0 H1 locs1 ls hP1 hD1 hS1 hl
  · exact absurd (if_neg h) h0
theorem g_zast (hX : Gx κ Γ nL cc own rm rt) {q N : Nat} {i x : Int32} {dc : Decidable (gin i N = true)} (hd : decode cc pc = .ok (.bastore, 1)) (hn : pc + 1 = n) (hs : gSh[q]? = some (2, N, [])) (hv : vp_nar .boolean x = x) (k : GG κ Γ nL QF cells slots (m2 σ q i.toNatClampNeg x) lo n rest o) : GG κ Γ nL QF cells slots σ lo pc (.int x :: .int i :: .ref (Γ.2.1 q) :: rest) (@ite _ (gin i N = true) dc o none) := by
  subst hn; intro h0 H locs ls hP hD hS hl
  by_cases h : gin i N = true
  · rw [if_pos h] at h0 ⊢
    refine va_zast hX.1 hX.2.1 hX.2.2.2.2.1 hP hD hS q q (gwd_boo Γ σ hs) (gT_2 Γ hs) (gin_in h) hd (fun H1 locs1 hP1 hD1 hS1 => ?_)
    rw [hv, gwd_put2 Γ σ i.toNatClampNeg x hs] at hP1 hD1
    exact k h0 H1 locs1 ls hP1 hD1 hS1 hl
  · exact absurd (if_neg h) h0
theorem g_laldK (hX : Gx κ Γ nL cc own rm rt) {q N : Nat} {i : Int32} (hi : gin i N = true) (hd : decode cc pc = .ok (.laload, 1)) (hn : pc + 1 = n) (hs : gSh[q]? = some (3, N, [])) (k : GG κ Γ nL QF cells slots σ lo n (.long (σ q i.toNatClampNeg).toInt64 :: rest) o) : GG κ Γ nL QF cells slots σ lo pc (.int i :: .ref (Γ.2.1 q) :: rest) o := by
  subst hn; intro h0 H locs ls hP hD hS hl
  exact va_lald hX.1 hX.2.1 hX.2.2.2.2.1 hP q q (gwd_lng Γ σ hs) (gT_3 Γ hs) (gin_in hi) hd (k h0 H locs ls hP hD hS hl)
theorem g_lastK (hX : Gx κ Γ nL cc own rm rt) {q N : Nat} {i : Int32} {y : Int64} (x : Int32) (hy : x.toInt64 = y) (hi : gin i N = true) (hd : decode cc pc = .ok (.lastore, 1)) (hn : pc + 1 = n) (hs : gSh[q]? = some (3, N, [])) (k : GG κ Γ nL QF cells slots (m2 σ q i.toNatClampNeg x) lo n rest o) : GG κ Γ nL QF cells slots σ lo pc (.long y :: .int i :: .ref (Γ.2.1 q) :: rest) o := by
  subst hn; subst hy; intro h0 H locs ls hP hD hS hl
  refine va_last hX.1 hX.2.1 hX.2.2.2.2.1 hP hD hS q q (gwd_lng Γ σ hs) (gT_3 Γ hs) (gin_in hi) hd (fun H1 locs1 hP1 hD1 hS1 => ?_)
  rw [gwd_put3 Γ σ i.toNatClampNeg x hs] at hP1 hD1
  exact k h0 H1 locs1 ls hP1 hD1 hS1 hl
theorem g_aald (hX : Gx κ Γ nL cc own rm rt) {q N : Nat} {i : Int32} {dc : Decidable (gin i N = true)} (hd : decode cc pc = .ok (.aaload, 1)) (hn : pc + 1 = n) (hs : gSh[q]? = some (4, N, [])) (k : GG κ Γ nL QF cells slots σ lo n (.ref (Γ.2.1 (gPB + i.toNatClampNeg)) :: rest) o) : GG κ Γ nL QF cells slots σ lo pc (.int i :: .ref (Γ.2.1 q) :: rest) (@ite _ (gin i N = true) dc o none) := by
  subst hn; intro h0 H locs ls hP hD hS hl
  by_cases h : gin i N = true
  · rw [if_pos h] at h0 ⊢
    exact va_aldq hX.1 hX.2.1 hX.2.2.2.2.1 hP q q (gwd_pan Γ σ hs) (gT_4 Γ hs) (gin_in h) hd (k h0 H locs ls hP hD hS hl)
  · exact absurd (if_neg h) h0
theorem g_aaldB (hX : Gx κ Γ nL cc own rm rt) {q : Nat} {i : Int32} {dc : Decidable (gin i 8 = true)} {ok : Nat → Option ρ} (hd : decode cc pc = .ok (.aaload, 1)) (hn : pc + 1 = n) (hs : gSh[q]? = some (4, 8, [])) (k : ∀ p9, gPn p9 → GG κ Γ nL QF cells slots σ lo n (.ref (Γ.2.1 p9) :: rest) (ok p9)) : GG κ Γ nL QF cells slots σ lo pc (.int i :: .ref (Γ.2.1 q) :: rest) (@ite _ (gin i 8 = true) dc (gbn (gPB + i.toNatClampNeg) ok) none) := by
  by_cases h : gin i 8 = true
  · refine g_aald hX hd hn hs (k _ (gPn_at _ ?_))
    have := gin_in h
    unfold vp_in at this
    omega
  · rw [if_neg h]; exact g_none
/-! a switch -/
def gsw (x : Int32) : Int → List (Nat × Option ρ) → Option ρ → Option ρ
  | _, [], od => od
  | lo, (_, oi) :: t, od => if x.toInt = lo then oi else gsw x (lo + 1) t od
def gall (κ : GC) (Γ : GA) (nL : Nat) (QF : Option ρ → State → Prop) (cells slots : Nat) (σ : Mem) (lo : List (Option Value)) (rest : List Value) : List (Nat × Option ρ) → Prop
  | [] => True
  | (t, oi) :: r => GG κ Γ nL QF cells slots σ lo t rest oi ∧ gall κ Γ nL QF cells slots σ lo rest r
theorem gall_at {os : List (Nat × Option ρ)} (h : gall κ Γ nL QF cells slots σ lo rest os) : ∀ (i t : Nat) (oi : Option ρ), os[i]? = some (t, oi) → GG κ Γ nL QF cells slots σ lo t rest oi := by
  induction os with
  | nil => intro i t oi hi; simp at hi
  | cons a r ih =>
    obtain ⟨t0, o0⟩ := a
    intro i t oi hi
    cases i with
    | zero => simp at hi; obtain ⟨rfl, rfl⟩ := hi; exact h.1
    | succ j => exact ih h.2 j t oi (by simpa using hi)
theorem gsw_out (x : Int32) (od : Option ρ) : ∀ (os : List (Nat × Option ρ)) (a : Int), (x.toInt < a ∨ a + os.length ≤ x.toInt) → gsw x a os od = od
  | [], _, _ => rfl
  | (_, oi) :: t, a, h => by
    have h1 : ¬ x.toInt = a := by rcases h with h | h
                                  · omega
                                  · simp only [List.length_cons] at h; omega
    rw [gsw, if_neg h1]
    exact gsw_out x od t (a + 1) (by rcases h with h | h
                                     · left; omega
                                     · right; simp only [List.length_cons] at h; omega)
theorem gsw_in (x : Int32) (od : Option ρ) : ∀ (os : List (Nat × Option ρ)) (a : Int) (i t : Nat) (oi : Option ρ), os[i]? = some (t, oi) → x.toInt = a + i → gsw x a os od = oi
  | [], _, i, _, _, h, _ => by simp at h
  | (t0, o0) :: r, a, 0, t, oi, h, hx => by
    simp at h; obtain ⟨rfl, rfl⟩ := h
    rw [gsw, if_pos (by omega)]
  | (t0, o0) :: r, a, i + 1, t, oi, h, hx => by
    rw [gsw, if_neg (by omega)]
    exact gsw_in x od r (a + 1) i t oi (by simpa using h) (by omega)
theorem g_table (hX : Gx κ Γ nL cc own rm rt) {dflt a hi : Int} {offs : Array Int} {len : Nat} {x : Int32} {od : Option ρ} (os : List (Nat × Option ρ)) (td : Nat) (hd : decode cc pc = .ok (.tableswitch dflt a hi offs, len)) (hhi : hi + 1 = a + os.length) (hos : offs.toList.map (fun f => (pc : Int) + f) = os.map (fun z => (z.1 : Int))) (htd : (pc : Int) + dflt = (td : Int)) (kd : GG κ Γ nL QF cells slots σ lo td rest od) (ks : gall κ Γ nL QF cells slots σ lo rest os) : GG κ Γ nL QF cells slots σ lo pc (.int x :: rest) (gsw x a os od) := by
  intro h0 H locs ls hP hD hS hl
  by_cases hr : x.toInt < a ∨ hi < x.toInt
  · have e1 : gsw x a os od = od := gsw_out x od os a (by rcases hr with h | h
                                                          · exact Or.inl h
                                                          · right; omega)
    rw [e1] at h0 ⊢
    exact lv_tableOut hX.1 hX.2.1 hd hr htd (kd h0 H locs ls hP hD hS hl)
  · have hr1 : ¬ x.toInt < a := fun h => hr (Or.inl h)
    have hr2 : ¬ hi < x.toInt := fun h => hr (Or.inr h)
    have hlt : (x.toInt - a).toNat < os.length := by omega
    obtain ⟨⟨t, oi⟩, hoi⟩ : ∃ z, os[(x.toInt - a).toNat]? = some z := ⟨_, List.getElem?_eq_getElem hlt⟩
    have e1 : gsw x a os od = oi := gsw_in x od os a _ t oi hoi (by omega)
    have hlen : offs.toList.length = os.length := by have := congrArg List.length hos; simpa using this
    obtain ⟨f, hf⟩ : ∃ f, offs.toList[(x.toInt - a).toNat]? = some f := ⟨_, List.getElem?_eq_getElem (by omega)⟩
    have hft : (pc : Int) + f = (t : Int) := by
      have h1 := congrArg (fun l => l[(x.toInt - a).toNat]?) hos
      simp only [List.getElem?_map, hf, hoi, Option.map_some, Option.some.injEq] at h1
      exact h1
    have hf2 : offs[(x.toInt - a).toNat]? = some f := by rw [← Array.getElem?_toList]; exact hf
    rw [e1] at h0 ⊢
    exact lv_tableIn hX.1 hX.2.1 hd hr1 hr2 hf2 hft (gall_at ks _ t oi hoi h0 H locs ls hP hD hS hl)
/-! Math, System.arraycopy -/
def mmax (x y : Int32) : Int32 := if x < y then y else x
theorem g_mmax (hX : Gx κ Γ nL cc own rm rt) {x y : Int32} {index : Nat} (hl1 : Cond.methodLink own index Lib.Math.max.name ∈ TW) (hl2 : Cond.static Lib.Math.max.name ∈ TW) (hl3 : Cond.initialized "java/lang/Math" ∈ TW) (hl4 : Cond.code Lib.Math.max.name Lib.Math.max.code 2 (some .int) ∈ TW) (hd : decode cc pc = .ok (.invokestatic index, 3)) (hn : pc + 3 = n) (hR : 1 ≤ rm.frames) (hR2 : (rest.map fun v => v.category).sum + 13 ≤ rm.locals) (hc : cells ≤ rm.cells) (hs : slots ≤ rm.slots) (k : GG κ Γ nL QF cells slots σ lo n (.int (mmax x y) :: rest) o) : GG κ Γ nL QF cells slots σ lo pc (.int y :: .int x :: rest) o := by
  subst hn
  have hRm := hX.2.2.2.2.2.2.2.2.1
  intro h0 H locs ls hP hD hS hl
  refine va_mmax hX.1 hX.2.1 (by rw [hX.2.2.2.2.2.2.1]; exact hl.1.1.symm) hX.2.2.2.1 (hX.2.2.1 _ hl1) (hX.2.2.1 _ hl2) (hX.2.2.1 _ hl3) (hX.2.2.1 _ hl4) (by rw [hRm]; exact hR) (by rw [hRm]; exact hR2) (by rw [hRm]; exact hc) (by rw [hRm]; exact hs) hd (k h0 H locs ls hP hD hS hl)
def mmin (x y : Int32) : Int32 := if y < x then y else x
theorem g_mmin (hX : Gx κ Γ nL cc own rm rt) {x y : Int32} {index : Nat} (hl1 : Cond.methodLink own index Lib.Math.min.name ∈ TW) (hl2 : Cond.static Lib.Math.min.name ∈ TW) (hl3 : Cond.initialized "java/lang/Math" ∈ TW) (hl4 : Cond.code Lib.Math.min.name Lib.Math.min.code 2 (some .int) ∈ TW) (hd : decode cc pc = .ok (.invokestatic index, 3)) (hn : pc + 3 = n) (hR : 1 ≤ rm.frames) (hR2 : (rest.map fun v => v.category).sum + 13 ≤ rm.locals) (hc : cells ≤ rm.cells) (hs : slots ≤ rm.slots) (k : GG κ Γ nL QF cells slots σ lo n (.int (mmin x y) :: rest) o) : GG κ Γ nL QF cells slots σ lo pc (.int y :: .int x :: rest) o := by
  subst hn
  have hRm := hX.2.2.2.2.2.2.2.2.1
  intro h0 H locs ls hP hD hS hl
  refine va_mmin hX.1 hX.2.1 (by rw [hX.2.2.2.2.2.2.1]; exact hl.1.1.symm) hX.2.2.2.1 (hX.2.2.1 _ hl1) (hX.2.2.1 _ hl2) (hX.2.2.1 _ hl3) (hX.2.2.1 _ hl4) (by rw [hRm]; exact hR) (by rw [hRm]; exact hR2) (by rw [hRm]; exact hc) (by rw [hRm]; exact hs) hd (k h0 H locs ls hP hD hS hl)
def mabs (x : Int32) : Int32 := if 0 ≤ x then x else 0 - x
theorem g_mabs (hX : Gx κ Γ nL cc own rm rt) {x : Int32} {index : Nat} (hl1 : Cond.methodLink own index Lib.Math.abs.name ∈ TW) (hl2 : Cond.static Lib.Math.abs.name ∈ TW) (hl3 : Cond.initialized "java/lang/Math" ∈ TW) (hl4 : Cond.code Lib.Math.abs.name Lib.Math.abs.code 1 (some .int) ∈ TW) (hd : decode cc pc = .ok (.invokestatic index, 3)) (hn : pc + 3 = n) (hR : 1 ≤ rm.frames) (hR2 : (rest.map fun v => v.category).sum + 13 ≤ rm.locals) (hc : cells ≤ rm.cells) (hs : slots ≤ rm.slots) (k : GG κ Γ nL QF cells slots σ lo n (.int (mabs x) :: rest) o) : GG κ Γ nL QF cells slots σ lo pc (.int x :: rest) o := by
  subst hn
  have hRm := hX.2.2.2.2.2.2.2.2.1
  intro h0 H locs ls hP hD hS hl
  refine va_mabs hX.1 hX.2.1 (by rw [hX.2.2.2.2.2.2.1]; exact hl.1.1.symm) hX.2.2.2.1 (hX.2.2.1 _ hl1) (hX.2.2.1 _ hl2) (hX.2.2.1 _ hl3) (hX.2.2.1 _ hl4) (by rw [hRm]; exact hR) (by rw [hRm]; exact hR2) (by rw [hRm]; exact hc) (by rw [hRm]; exact hs) hd (k h0 H locs ls hP hD hS hl)
theorem g_copyK (hX : Gx κ Γ nL cc own rm rt) {q0 q1 N : Nat} {sp dp nn : Int32} {index : Nat} (hl1 : Cond.methodLink own index arraycopyName ∈ TW) (hl2 : Cond.native arraycopyName ∈ TW) (hl3 : Cond.static arraycopyName ∈ TW) (hl4 : Cond.initialized "java/lang/System" ∈ TW) (hd : decode cc pc = .ok (.invokestatic index, 3)) (hn : pc + 3 = n) (hs0 : gSh[q0]? = some (1, N, [])) (hs1 : gSh[q1]? = some (1, N, [])) (h1 : ¬ sp < 0) (h2 : ¬ dp < 0) (h3 : ¬ nn < 0) (h4 : sp.toNatClampNeg + nn.toNatClampNeg ≤ N) (h5 : dp.toNatClampNeg + nn.toNatClampNeg ≤ N)
    (hR : 1 ≤ rm.frames) (hR2 : (rest.map fun v => v.category).sum + (nativeFrameWords "java/lang/System" "arraycopy" 5 + 11) ≤ rm.locals) (k : GG κ Γ nL QF cells slots (mA σ q1 (va_cpy (σ q0) (σ q1) sp.toNatClampNeg dp.toNatClampNeg nn.toNatClampNeg)) lo n rest o) : GG κ Γ nL QF cells slots σ lo pc (.int nn :: .int dp :: .ref (Γ.2.1 q1) :: .int sp :: .ref (Γ.2.1 q0) :: rest) o := by
  subst hn
  have hRm := hX.2.2.2.2.2.2.2.2.1
  intro h0 H locs ls hP hD hS hl
  refine va_copyi hX.1 hX.2.1 (by rw [hX.2.2.2.2.2.2.1]; exact hl.1.1.symm) hX.2.2.2.1 (hX.2.2.1 _ hl1) (hX.2.2.1 _ hl2) (hX.2.2.1 _ hl3) (hX.2.2.1 _ hl4) hX.2.2.2.2.1 hP hD hS q0 q1 q0 q1 (ty := .int) (gwd_int Γ σ hs0) (gwd_int Γ σ hs1) (gT_1 Γ hs0) (gT_1 Γ hs1) rfl h1 h2 h3 h4 h5 (fun _ _ => rfl) (by rw [hRm]; exact hR) (by rw [hRm]; exact hR2) hd (fun H1 locs1 hP1 hD1 hS1 => ?_)
  have e1 : ∀ g : Nat → Int32, (gwd Γ σ).set q1 (Γ.2.1 q1, .inl (Γ.2.2.2 q1, N, .inl g)) = gwd Γ (mA σ q1 g) := fun g => gwd_set Γ (gsh_lt hs1) (by rw [gce1 Γ _ hs1, mA_self]) (fun j hj => mA_ne σ g hj)
  rw [e1] at hP1 hD1
  exact k h0 H1 locs1 ls hP1 hD1 hS1 hl
end GJ2
end
section
/-! Contracts, calls, returns, throws. -/
section GJ3
variable {ρ : Type} {κ : GC} {Γ : GA} {nL cells slots : Nat} {QF : Option ρ → State → Prop} {σ : Mem} {lo lw : List (Option Value)} {pc n : Nat} {rest : List Value} {o : Option ρ} {cc : ByteArray} {own : String} {rm : Room} {rt : Option FieldType}
theorem gBW.mk (hX : Gx κ Γ nL cc own rm rt) {H : Heap} {locs : List Loc} {U : State} (hP : va_P Γ.1 gCl (gwd Γ σ) H) (hD : va_D (gA Γ) (gwd Γ σ)) (hS : va_S (gA Γ) κ.2.2.2.2.1.heap H locs) (hU : U.heap = H) (hA : κ.2.2.2.2.1.vm.Alike U.vm) : gBW Γ σ U := by
  subst hU
  exact ⟨hP, hD, va_K.moved hA hX.2.2.2.2.1, Nat.le_trans hX.2.2.2.2.2.1 hS.1, vx_Zq.moved hA (hX.2.2.2.2.2.2.2.2.2.2.1.kept (fun a h1 h2 => hS.2.1 a h1 h2)), vx_Zq.moved hA (hX.2.2.2.2.2.2.2.2.2.2.2.1.kept (fun a h1 h2 => hS.2.1 a h1 h2)), gBad.moved hA hX.2.2.2.2.2.2.2.2.2.2.2.2⟩
abbrev gws (y : MethodName) (bc : ByteArray) (mL : Nat) (yrt : Option FieldType) : List Cond := Cond.code y bc mL yrt :: TW
def gqi (Γ : GA) (o : Option (Int32 × Mem)) : Array Value → State → Outcome → State → Prop := va_Qi (fun r u => o = some (r, u)) (gBW Γ) (gA Γ)
def gqv (Γ : GA) (o : Option Mem) : Array Value → State → Outcome → State → Prop := va_Qv (fun u => o = some u) (gBW Γ) (gA Γ)
def gxi (Γ : GA) (o : Option ((Int32 ⊕ String) × Mem)) : Array Value → State → Outcome → State → Prop := va_Qi (fun r u => o = some (.inl r, u)) (gBW Γ) (gA Γ)
def gxv (Γ : GA) (o : Option ((Unit ⊕ String) × Mem)) : Array Value → State → Outcome → State → Prop := va_Qv (fun u => o = some (.inl (), u)) (gBW Γ) (gA Γ)
def gxr (Γ : GA) (o : Option ((Nat ⊕ String) × Mem)) : Array Value → State → Outcome → State → Prop := va_Qr (fun u : Nat × Mem => o = some (.inl u.1, u.2)) (fun u a t => a = Γ.2.1 u.1 ∧ gBW Γ u.2 t) (gA Γ)
def gxc {α : Type} (Γ : GA) (o : Option ((α ⊕ String) × Mem)) : String → State → State → Prop := vx_X (fun _ : Mem => True) (fun E u t => o = some (.inr E, u) ∧ gBW Γ u t) (gA Γ)
def gM {α : Type} (qc : GA → Option α → Array Value → State → Outcome → State → Prop) (l : Launch) (y : MethodName) (bc : ByteArray) (mL : Nat) (yrt : Option FieldType) (rm : Room) (av : List Value) (Γ : GA) (σ : Mem) (o : Option α) : Prop :=
  o ≠ none → Met l y (gws y bc mL yrt) rm (va_Pc av (gBW Γ σ)) (qc Γ o) rm.cells rm.slots (gA Γ)
def gX {α : Type} (qc : GA → Option ((α ⊕ String) × Mem) → Array Value → State → Outcome → State → Prop) (l : Launch) (y : MethodName) (bc : ByteArray) (mL : Nat) (yrt : Option FieldType) (rm : Room) (av : List Value) (Γ : GA) (σ : Mem) (o : Option ((α ⊕ String) × Mem)) : Prop :=
  o ≠ none → vx_Met l y (gws y bc mL yrt) rm (va_Pc av (gBW Γ σ)) (qc Γ o) (gxc Γ o) rm.cells rm.slots (gA Γ)
def gQ {α : Type} (qc : GA → Option α → Array Value → State → Outcome → State → Prop) (κ : GC) (Γ : GA) (rm : Room) : Option α → State → Prop := fun o => MQ κ.2.2.2.2.2.2.2.1 (qc Γ o) κ.2.2.2.2.2.2.1 κ.2.2.2.2.1 rm.cells rm.slots (gA Γ)
def gQX {α : Type} (qc : GA → Option ((α ⊕ String) × Mem) → Array Value → State → Outcome → State → Prop) (κ : GC) (Γ : GA) (rm : Room) : Option ((α ⊕ String) × Mem) → State → Prop := fun o => vx_MQ κ.2.2.2.2.2.2.2.1 (qc Γ o) (gxc Γ o) κ.2.2.2.2.2.2.1 κ.2.2.2.2.1 rm.cells rm.slots (gA Γ)
theorem gL.entry {av : List Value} {mL : Nat} {lo0 : List (Option Value)} {ls : Array Slot} (h : lv_has ls mL (lv_args 0 av)) (hla : gla 0 lo0 = lv_args 0 av) (hca : (gla 0 lo0).all (fun x => x.2.category == 1) = true) : gL ls mL lo0 :=
  ⟨by rw [hla]; exact h, fun x hx => by simpa using List.all_eq_true.1 hca x hx⟩
theorem gM.of {α : Type} {qc : GA → Option α → Array Value → State → Outcome → State → Prop} {l : Launch} {y : MethodName} {bc : ByteArray} {mL : Nat} {yrt : Option FieldType} {rm : Room} {av : List Value} {Γ : GA} {σ : Mem} {o : Option α} (lo0 : List (Option Value)) (hy : plainName y.cls = true) (hlen : (lg_sl av).length ≤ mL) (hla : gla 0 lo0 = lv_args 0 av) (hca : (gla 0 lo0).all (fun x => x.2.category == 1) = true)
    (body : ∀ κ : GC, Gx κ Γ mL bc y.cls rm yrt → κ.2.1 = l → GG κ Γ mL (gQ qc κ Γ rm) 0 0 σ lo0 0 [] o) : gM qc l y bc mL yrt rm av Γ σ o := by
  intro ho
  refine Met.ofW (cc := bc) (maxL := mL) (ret := yrt) hy rfl ?_
  intro p e s m args below meth c s₁ B hml hv
  obtain ⟨rfl, hP, hD, hK, hsz, hz1, hz2, hbd⟩ := hv
  have hts := atoms_spec (ws := gws y bc mL yrt) B.pre
  have hl := lv_entry av (n := mL) hlen
  rw [lg_entry_eq]
  exact body (p, l, e, rm, s, m, av.toArray, below, meth, c) ⟨B.exec, B.bytes, fun w hw => hts w (List.mem_cons_of_mem _ hw), findClass_of_methodNamed B.named, hK, hsz, hml, B.notSynchronized, rfl, B.returns, hz1, hz2, hbd⟩ rfl ho s.heap [] _ hP hD va_S.rf (gL.entry hl hla hca)
theorem gX.of {α : Type} {qc : GA → Option ((α ⊕ String) × Mem) → Array Value → State → Outcome → State → Prop} {l : Launch} {y : MethodName} {bc : ByteArray} {mL : Nat} {yrt : Option FieldType} {rm : Room} {av : List Value} {Γ : GA} {σ : Mem} {o : Option ((α ⊕ String) × Mem)} (lo0 : List (Option Value)) (hy : plainName y.cls = true) (hlen : (lg_sl av).length ≤ mL) (hla : gla 0 lo0 = lv_args 0 av) (hca : (gla 0 lo0).all (fun x => x.2.category == 1) = true)
    (body : ∀ κ : GC, Gx κ Γ mL bc y.cls rm yrt → κ.2.1 = l → (∀ x ∈ κ.2.2.2.2.2.2.2.2.2.exceptionTable.toList, False) → GG κ Γ mL (gQX qc κ Γ rm) 0 0 σ lo0 0 [] o) : gX qc l y bc mL yrt rm av Γ σ o := by
  intro ho
  refine vx_ofW (cc := bc) (maxL := mL) (ret := yrt) hy rfl ?_
  intro p e s m args below meth c s₁ B hml hE hv
  obtain ⟨rfl, hP, hD, hK, hsz, hz1, hz2, hbd⟩ := hv
  have hts := atoms_spec (ws := gws y bc mL yrt) B.pre
  have hl := lv_entry av (n := mL) hlen
  rw [lg_entry_eq]
  exact body (p, l, e, rm, s, m, av.toArray, below, meth, c) ⟨B.exec, B.bytes, fun w hw => hts w (List.mem_cons_of_mem _ hw), findClass_of_methodNamed B.named, hK, hsz, hml, B.notSynchronized, rfl, B.returns, hz1, hz2, hbd⟩ rfl hE ho s.heap [] _ hP hD va_S.rf (gL.entry hl hla hca)
/-! returns -/
theorem g_iret (hX : Gx κ Γ nL cc own rm (some .int)) {v : Int32} (hd : decode cc pc = .ok (.ireturn, 1)) (hc : cells ≤ rm.cells) (hs : slots ≤ rm.slots) : GG κ Γ nL (gQ gqi κ Γ rm) cells slots σ lo pc [.int v] (some (v, σ)) := by
  intro h0 H locs ls hP hD hS hl
  exact W.widen hc hs (W.iret hX.1 hX.2.1 hX.2.2.2.2.2.2.2.2.2.1 (fun t ht hW => ⟨⟨v, σ, rfl, rfl, gBW.mk hX hP hD hS ht hW.alike⟩, hS.F ht⟩) hS.2.2 hd hX.2.2.2.2.2.2.2.1)
theorem g_iretz (hX : Gx κ Γ nL cc own rm (some .boolean)) {v : Int32} (hv : narrow .boolean (.int v) = .int v) (hd : decode cc pc = .ok (.ireturn, 1)) (hc : cells ≤ rm.cells) (hs : slots ≤ rm.slots) : GG κ Γ nL (gQ gqi κ Γ rm) cells slots σ lo pc [.int v] (some (v, σ)) := by
  intro h0 H locs ls hP hD hS hl
  exact W.widen hc hs (W.zret hX.1 hX.2.1 hX.2.2.2.2.2.2.2.2.2.1 hv (fun t ht hW => ⟨⟨v, σ, rfl, rfl, gBW.mk hX hP hD hS ht hW.alike⟩, hS.F ht⟩) hS.2.2 hd hX.2.2.2.2.2.2.2.1)
theorem g_iretZ (hX : Gx κ Γ nL cc own rm (some .boolean)) {v : Int32} {dc : Decidable (v &&& 1 = v)} (hd : decode cc pc = .ok (.ireturn, 1)) (hc : cells ≤ rm.cells) (hs : slots ≤ rm.slots) : GG κ Γ nL (gQ gqi κ Γ rm) cells slots σ lo pc [.int v] (@ite _ (v &&& 1 = v) dc (some (v, σ)) none) := by
  by_cases h : v &&& 1 = v
  · rw [if_pos h]; exact g_iretz hX (by simp only [narrow, h]) hd hc hs
  · rw [if_neg h]; exact g_none
theorem g_ixret (hX : Gx κ Γ nL cc own rm (some .int)) {v : Int32} (hd : decode cc pc = .ok (.ireturn, 1)) (hc : cells ≤ rm.cells) (hs : slots ≤ rm.slots) : GG κ Γ nL (gQX gxi κ Γ rm) cells slots σ lo pc [.int v] (some (.inl v, σ)) := by
  intro h0 H locs ls hP hD hS hl
  exact W.widen hc hs (vx_ret (W.iret hX.1 hX.2.1 hX.2.2.2.2.2.2.2.2.2.1 (fun t ht hW => ⟨⟨v, σ, rfl, rfl, gBW.mk hX hP hD hS ht hW.alike⟩, hS.F ht⟩) hS.2.2 hd hX.2.2.2.2.2.2.2.1))
theorem g_ixretz (hX : Gx κ Γ nL cc own rm (some .boolean)) {v : Int32} (hv : narrow .boolean (.int v) = .int v) (hd : decode cc pc = .ok (.ireturn, 1)) (hc : cells ≤ rm.cells) (hs : slots ≤ rm.slots) : GG κ Γ nL (gQX gxi κ Γ rm) cells slots σ lo pc [.int v] (some (.inl v, σ)) := by
  intro h0 H locs ls hP hD hS hl
  exact W.widen hc hs (vx_ret (W.zret hX.1 hX.2.1 hX.2.2.2.2.2.2.2.2.2.1 hv (fun t ht hW => ⟨⟨v, σ, rfl, rfl, gBW.mk hX hP hD hS ht hW.alike⟩, hS.F ht⟩) hS.2.2 hd hX.2.2.2.2.2.2.2.1))
theorem g_ixretZ (hX : Gx κ Γ nL cc own rm (some .boolean)) {v : Int32} {dc : Decidable (v &&& 1 = v)} (hd : decode cc pc = .ok (.ireturn, 1)) (hc : cells ≤ rm.cells) (hs : slots ≤ rm.slots) : GG κ Γ nL (gQX gxi κ Γ rm) cells slots σ lo pc [.int v] (@ite _ (v &&& 1 = v) dc (some (.inl v, σ)) none) := by
  by_cases h : v &&& 1 = v
  · rw [if_pos h]; exact g_ixretz hX (by simp only [narrow, h]) hd hc hs
  · rw [if_neg h]; exact g_none
theorem g_vret (hX : Gx κ Γ nL cc own rm none) (hd : decode cc pc = .ok (.return_, 1)) (hc : cells ≤ rm.cells) (hs : slots ≤ rm.slots) : GG κ Γ nL (gQ gqv κ Γ rm) cells slots σ lo pc [] (some σ) := by
  intro h0 H locs ls hP hD hS hl
  exact W.widen hc hs (W.vret hX.1 hX.2.1 hX.2.2.2.2.2.2.2.2.2.1 (fun t ht hW => ⟨⟨σ, rfl, rfl, gBW.mk hX hP hD hS ht hW.alike⟩, hS.F ht⟩) hS.2.2 hd hX.2.2.2.2.2.2.2.1)
theorem g_vxret (hX : Gx κ Γ nL cc own rm none) (hd : decode cc pc = .ok (.return_, 1)) (hc : cells ≤ rm.cells) (hs : slots ≤ rm.slots) : GG κ Γ nL (gQX gxv κ Γ rm) cells slots σ lo pc [] (some (.inl (), σ)) := by
  intro h0 H locs ls hP hD hS hl
  exact W.widen hc hs (vx_ret (W.vret hX.1 hX.2.1 hX.2.2.2.2.2.2.2.2.2.1 (fun t ht hW => ⟨⟨σ, rfl, rfl, gBW.mk hX hP hD hS ht hW.alike⟩, hS.F ht⟩) hS.2.2 hd hX.2.2.2.2.2.2.2.1))
theorem g_axret {ct : String} (hX : Gx κ Γ nL cc own rm (some (.object ct))) {q : Nat} (hd : decode cc pc = .ok (.areturn, 1)) (hc : cells ≤ rm.cells) (hs : slots ≤ rm.slots) : GG κ Γ nL (gQX gxr κ Γ rm) cells slots σ lo pc [.ref (Γ.2.1 q)] (some (.inl q, σ)) := by
  intro h0 H locs ls hP hD hS hl
  exact W.widen hc hs (vx_ret (W.aret hX.1 hX.2.1 hX.2.2.2.2.2.2.2.2.2.1 (Or.inl ⟨_, rfl⟩) (Or.inr ⟨_, rfl⟩) (fun t ht hW => ⟨⟨(q, σ), _, rfl, rfl, rfl, gBW.mk hX hP hD hS ht hW.alike⟩, hS.F ht⟩) hS.2.2 hd hX.2.2.2.2.2.2.2.1))
/-! throws -/
/-- a throw's words -/
def gB (cls : String) : List Cond := .castable cls cls :: gDec.map (fun x => .declares x)
def gNames : List String := ["java/lang/RuntimeException", "java/lang/Exception"]
def gTh (own : String) (ik ic : Nat) (cls : String) : Prop := cls ∈ gExc ∧ Bundle.fit cls = true ∧ (∀ n ∈ gNames, Bundle.fit n = true) ∧ Cond.classLink own ik cls ∈ TW ∧ Cond.initialized cls ∈ TW ∧ (∀ w ∈ (vx_at0 own ic cls gNames).filter goodWord, w ∈ TW) ∧ (∀ w ∈ (vx_at0 own ic cls gNames).filter (fun w => !goodWord w), w ∈ gB cls) ∧ ∀ w ∈ Cond.classLink own ik cls :: Cond.initialized cls :: vx_at0 own ic cls gNames, vx_ot w = true
theorem g_throw {α : Type} {qC : GA → Option ((α ⊕ String) × Mem) → Array Value → State → Outcome → State → Prop} (hX : Gx κ Γ nL cc own rm rt) (hE : ∀ x ∈ κ.2.2.2.2.2.2.2.2.2.exceptionTable.toList, False) (hT : κ.2.1.stackTraces = false) {ik ic : Nat} {cls : String} (hw : gTh own ik ic cls) (d0 : decode cc pc = .ok (.new ik, 3)) (d3 : decode cc (pc + 3) = .ok (.dup, 1)) (d4 : decode cc (pc + 4) = .ok (.invokespecial ic, 3)) (d7 : decode cc (pc + 7) = .ok (.athrow, 1))
    (hR : 5 < rm.frames) (hR2 : (rest.map fun v => v.category).sum + 81 ≤ rm.locals) (hc : cells + 1 ≤ rm.cells) (hs : slots + 6 ≤ rm.slots) : GG κ Γ nL (gQX qC κ Γ rm) cells slots σ lo pc rest (some (.inr cls, σ)) := by
  obtain ⟨hx, h1, h2, h3, h4, h5, h6, h7⟩ := hw
  have hRm := hX.2.2.2.2.2.2.2.2.1
  have hbd := hX.2.2.2.2.2.2.2.2.2.2.2.2
  intro h0 H locs ls hP hD hS hl
  have hB : ∀ w ∈ gB cls, w.before κ.2.2.2.2.2.2.1 κ.2.2.2.2.1 = true := by
    intro w hw
    rcases List.mem_cons.1 hw with q | q
    · rw [q]; exact va_Nw.use rfl (hbd.2.1 cls hx)
    · obtain ⟨x, hx1, rfl⟩ := List.mem_map.1 q
      exact va_Nw.use rfl (hbd.1 x hx1)
  refine vx_throw0 hX.1 hX.2.1 hT hX.2.2.2.1 h1 h2 (hX.2.2.1 _ h3) (hX.2.2.1 _ h4) (vx_hat (B := gB cls) (fun w hw => hX.2.2.1 w (h5 w hw)) h6 hB) h7 hX.2.2.2.2.2.2.2.2.2.2.1 hX.2.2.2.2.2.2.2.2.2.2.2.1 hS (by rw [hX.2.2.2.2.2.2.1]; exact hl.1.1) d0 d3 d4 d7 (fun x hx => (hE x hx).elim) (by rw [hRm]; exact hR) (by rw [hRm]; exact hR2) (by rw [hRm]; exact Nat.le_trans hc (Nat.le_refl _)) (by rw [hRm]; exact hs) hX.2.2.2.2.2.2.2.1 (fun t hA hz hk => ?_) hS.2.2 hc hs
  refine ⟨σ, trivial, ⟨rfl, ?_⟩, Nat.le_trans hS.1 hz, fun q hq hnA => by rw [hk q (Nat.lt_of_lt_of_le hq hS.1)]; exact hS.2.1 q hq hnA⟩
  have hS1 : va_S (gA Γ) κ.2.2.2.2.1.heap t.heap locs := ⟨Nat.le_trans hS.1 hz, fun q hq hnA => by rw [hk q (Nat.lt_of_lt_of_le hq hS.1)]; exact hS.2.1 q hq hnA, hS.2.2⟩
  exact gBW.mk hX (hP.kept (fun k q hq => hk q.1 (vx_lt hP hq))) hD hS1 rfl hA
/-! calls -/
/-- a call's words: a virtual method of the class C, a static one -/
def gWV (own : String) (index : Nat) (y : MethodName) (bc : ByteArray) (mL : Nat) (yrt : Option FieldType) (nA : Nat) : Prop := GoodIn TW (wsV own index y.cls y (gws y bc mL yrt)) ∧ y.cls ≠ "java/lang/invoke/MethodHandle" ∧ y.cls ≠ "java/lang/invoke/VarHandle" ∧ (parseMethodDescriptor y.desc).map (fun d => d.parameters.length) = some nA
def gWS (own : String) (index : Nat) (y : MethodName) (bc : ByteArray) (mL : Nat) (yrt : Option FieldType) (nA : Nat) : Prop := GoodIn TW (va_wsS own index y (gws y bc mL yrt)) ∧ y.cls ≠ "java/lang/invoke/MethodHandle" ∧ y.cls ≠ "java/lang/invoke/VarHandle" ∧ (parseMethodDescriptor y.desc).map (fun d => d.parameters.length) = some nA
theorem gGood {ws : List Cond} {y : MethodName} {bc : ByteArray} {mL : Nat} {yrt : Option FieldType} (hT : ∀ w ∈ TW, goodWord w = true) (h : ∀ w ∈ ws, w ∈ TW) (hc : Cond.code y bc mL yrt ∈ TW) : GoodIn TW (ws ++ gws y bc mL yrt) := by
  intro w hw
  have h1 : w ∈ TW := by
    rcases List.mem_append.1 hw with q | q
    · exact h w q
    · rcases List.mem_cons.1 q with q | q
      · rw [q]; exact hc
      · exact q
  exact ⟨h1, good_of_word (hT w h1)⟩
theorem gRecv (hX : Gx κ Γ nL cc own rm rt) {H : Heap} {q ci : Nat} {fl : List Nat} {C : String} (hP : va_P Γ.1 gCl (gwd Γ σ) H) (hs : gSh[q]? = some (0, ci, fl)) (hc : (gCl[ci]?).map (fun z => z.1) = some C) : ∃ cell : Cell, H[Γ.2.1 q]? = some cell ∧ cell.vm.isStatics = false ∧ κ.2.2.2.2.1.vm.findClass C = some cell.cls := by
  rcases h : gCl[ci]? with _ | z
  · rw [h] at hc; cases hc
  · rw [h] at hc
    have e : z.1 = C := by simpa using hc
    rw [← e]
    exact va_recv hX.2.2.2.2.1 hP h (gwd_obj Γ σ hs)
theorem g_cVi (hX : Gx κ Γ nL cc own rm rt) {y : MethodName} {bc : ByteArray} {mL : Nat} {yrt : Option FieldType} {yrm : Room} {index nA : Nat} {st : List Value} {q ci : Nat} {fl : List Nat} (As : List Value) (hst : As.reverse ++ .ref (Γ.2.1 q) :: rest = st) {of : Option (Int32 × Mem)} {ok : Int32 → Mem → Option ρ} (c1 s1 : Nat) (hM : gM gqi κ.2.1 y bc mL yrt yrm (.ref (Γ.2.1 q) :: As) Γ σ of) (hW : gWV own index y bc mL yrt nA) (hA : As.length = nA) (hs : gSh[q]? = some (0, ci, fl)) (hcl : (gCl[ci]?).map (fun z => z.1) = some y.cls) (hd : decode cc pc = .ok (.invokevirtual index, 3)) (hn : pc + 3 = n) (hR : yrm.frames + 1 ≤ rm.frames ∧ 8 + (mL + 11) + yrm.locals ≤ rm.locals) (hC : cells + yrm.cells ≤ rm.cells ∧ slots + yrm.slots ≤ rm.slots) (hw : (rest.map fun v => v.category).sum ≤ 8) (hc1 : cells + yrm.cells = c1) (hs1 : slots + yrm.slots = s1) (k : ∀ r u, GG κ Γ nL QF c1 s1 u lo n (.int r :: rest) (ok r u)) : GG κ Γ nL QF cells slots σ lo pc st (gb of ok) := by
  subst hn; subst hst; subst hc1; subst hs1
  have hRm := hX.2.2.2.2.2.2.2.2.1
  intro h0 H locs ls hP hD hS hl
  have ho : of ≠ none := by rintro rfl; exact h0 rfl
  refine va_calli (va_runV (As := As) (rest := rest) ⟨hX.1, hX.2.1, hX.2.2.2.2.2.2.1, hX.2.2.2.1, hX.2.2.1⟩ (hM ho) (cwV nA hX.2.2.1 hW.1 rfl rfl rfl ⟨rfl, hW.2.1, hW.2.2.1, hW.2.2.2⟩ (by rw [hRm]; exact hR)) ⟨gBW.blind, gRecv hX hP hs hcl, fun U hU hW => ⟨rfl, gBW.mk hX hP hD hS hU hW.alike⟩⟩ rfl hA hl.1.1 rfl (lv_room hw) hd (by rw [hRm]; exact hC)) hS (fun q _ h => h) (fun q h => h) (fun r u t H1 locs1 ht hvm hp hB hz hk hS1 => ?_)
  have e1 : gb of ok = (ok r u) := by rw [hp]; rfl
  rw [e1] at h0 ⊢
  exact k r u h0 H1 locs1 ls (ht ▸ hB.1) hB.2.1 hS1 hl
theorem g_cVv (hX : Gx κ Γ nL cc own rm rt) {y : MethodName} {bc : ByteArray} {mL : Nat} {yrt : Option FieldType} {yrm : Room} {index nA : Nat} {st : List Value} {q ci : Nat} {fl : List Nat} (As : List Value) (hst : As.reverse ++ .ref (Γ.2.1 q) :: rest = st) {of : Option Mem} {ok : Mem → Option ρ} (c1 s1 : Nat) (hM : gM gqv κ.2.1 y bc mL yrt yrm (.ref (Γ.2.1 q) :: As) Γ σ of) (hW : gWV own index y bc mL yrt nA) (hA : As.length = nA) (hs : gSh[q]? = some (0, ci, fl)) (hcl : (gCl[ci]?).map (fun z => z.1) = some y.cls) (hd : decode cc pc = .ok (.invokevirtual index, 3)) (hn : pc + 3 = n) (hR : yrm.frames + 1 ≤ rm.frames ∧ 8 + (mL + 11) + yrm.locals ≤ rm.locals) (hC : cells + yrm.cells ≤ rm.cells ∧ slots + yrm.slots ≤ rm.slots) (hw : (rest.map fun v => v.category).sum ≤ 8) (hc1 : cells + yrm.cells = c1) (hs1 : slots + yrm.slots = s1) (k : ∀ u, GG κ Γ nL QF c1 s1 u lo n rest (ok u)) : GG κ Γ nL QF cells slots σ lo pc st (gbv of ok) := by
  subst hn; subst hst; subst hc1; subst hs1
  have hRm := hX.2.2.2.2.2.2.2.2.1
  intro h0 H locs ls hP hD hS hl
  have ho : of ≠ none := by rintro rfl; exact h0 rfl
  refine va_callv (va_runV (As := As) (rest := rest) ⟨hX.1, hX.2.1, hX.2.2.2.2.2.2.1, hX.2.2.2.1, hX.2.2.1⟩ (hM ho) (cwV nA hX.2.2.1 hW.1 rfl rfl rfl ⟨rfl, hW.2.1, hW.2.2.1, hW.2.2.2⟩ (by rw [hRm]; exact hR)) ⟨gBW.blind, gRecv hX hP hs hcl, fun U hU hW => ⟨rfl, gBW.mk hX hP hD hS hU hW.alike⟩⟩ rfl hA hl.1.1 rfl (lv_room hw) hd (by rw [hRm]; exact hC)) hS (fun q _ h => h) (fun q h => h) (fun u t H1 locs1 ht hvm hp hB hz hk hS1 => ?_)
  have e1 : gbv of ok = (ok u) := by rw [hp]; rfl
  rw [e1] at h0 ⊢
  exact k u h0 H1 locs1 ls (ht ▸ hB.1) hB.2.1 hS1 hl
theorem g_cSi (hX : Gx κ Γ nL cc own rm rt) {y : MethodName} {bc : ByteArray} {mL : Nat} {yrt : Option FieldType} {yrm : Room} {index nA : Nat} {st : List Value}  (As : List Value) (hst : As.reverse ++ rest = st) {of : Option (Int32 × Mem)} {ok : Int32 → Mem → Option ρ} (c1 s1 : Nat) (hM : gM gqi κ.2.1 y bc mL yrt yrm As Γ σ of) (hW : gWS own index y bc mL yrt nA) (hA : As.length = nA)  (hd : decode cc pc = .ok (.invokestatic index, 3)) (hn : pc + 3 = n) (hR : yrm.frames + 1 ≤ rm.frames ∧ 8 + (mL + 11) + yrm.locals ≤ rm.locals) (hC : cells + yrm.cells ≤ rm.cells ∧ slots + yrm.slots ≤ rm.slots) (hw : (rest.map fun v => v.category).sum ≤ 8) (hc1 : cells + yrm.cells = c1) (hs1 : slots + yrm.slots = s1) (k : ∀ r u, GG κ Γ nL QF c1 s1 u lo n (.int r :: rest) (ok r u)) : GG κ Γ nL QF cells slots σ lo pc st (gb of ok) := by
  subst hn; subst hst; subst hc1; subst hs1
  have hRm := hX.2.2.2.2.2.2.2.2.1
  intro h0 H locs ls hP hD hS hl
  have ho : of ≠ none := by rintro rfl; exact h0 rfl
  refine va_calli (va_runS (As := As) (rest := rest) ⟨hX.1, hX.2.1, hX.2.2.2.2.2.2.1, hX.2.2.2.1, hX.2.2.1⟩ (hM ho) (va_cwS nA hX.2.2.1 hW.1 rfl rfl rfl hW.2 (by rw [hRm]; exact hR)) ⟨gBW.blind, fun U hU hW => ⟨rfl, gBW.mk hX hP hD hS hU hW.alike⟩⟩ rfl hA hl.1.1 rfl (lv_room hw) hd (by rw [hRm]; exact hC)) hS (fun q _ h => h) (fun q h => h) (fun r u t H1 locs1 ht hvm hp hB hz hk hS1 => ?_)
  have e1 : gb of ok = (ok r u) := by rw [hp]; rfl
  rw [e1] at h0 ⊢
  exact k r u h0 H1 locs1 ls (ht ▸ hB.1) hB.2.1 hS1 hl
theorem g_cSv (hX : Gx κ Γ nL cc own rm rt) {y : MethodName} {bc : ByteArray} {mL : Nat} {yrt : Option FieldType} {yrm : Room} {index nA : Nat} {st : List Value}  (As : List Value) (hst : As.reverse ++ rest = st) {of : Option Mem} {ok : Mem → Option ρ} (c1 s1 : Nat) (hM : gM gqv κ.2.1 y bc mL yrt yrm As Γ σ of) (hW : gWS own index y bc mL yrt nA) (hA : As.length = nA)  (hd : decode cc pc = .ok (.invokestatic index, 3)) (hn : pc + 3 = n) (hR : yrm.frames + 1 ≤ rm.frames ∧ 8 + (mL + 11) + yrm.locals ≤ rm.locals) (hC : cells + yrm.cells ≤ rm.cells ∧ slots + yrm.slots ≤ rm.slots) (hw : (rest.map fun v => v.category).sum ≤ 8) (hc1 : cells + yrm.cells = c1) (hs1 : slots + yrm.slots = s1) (k : ∀ u, GG κ Γ nL QF c1 s1 u lo n rest (ok u)) : GG κ Γ nL QF cells slots σ lo pc st (gbv of ok) := by
  subst hn; subst hst; subst hc1; subst hs1
  have hRm := hX.2.2.2.2.2.2.2.2.1
  intro h0 H locs ls hP hD hS hl
  have ho : of ≠ none := by rintro rfl; exact h0 rfl
  refine va_callv (va_runS (As := As) (rest := rest) ⟨hX.1, hX.2.1, hX.2.2.2.2.2.2.1, hX.2.2.2.1, hX.2.2.1⟩ (hM ho) (va_cwS nA hX.2.2.1 hW.1 rfl rfl rfl hW.2 (by rw [hRm]; exact hR)) ⟨gBW.blind, fun U hU hW => ⟨rfl, gBW.mk hX hP hD hS hU hW.alike⟩⟩ rfl hA hl.1.1 rfl (lv_room hw) hd (by rw [hRm]; exact hC)) hS (fun q _ h => h) (fun q h => h) (fun u t H1 locs1 ht hvm hp hB hz hk hS1 => ?_)
  have e1 : gbv of ok = (ok u) := by rw [hp]; rfl
  rw [e1] at h0 ⊢
  exact k u h0 H1 locs1 ls (ht ▸ hB.1) hB.2.1 hS1 hl
/-! calls of methods that may throw, in a method that lets it through -/
theorem vx_callr {p : Program} {l : Launch} {e : Env} {R : Room} {s : State} {m : MethodId} {args : Array Value} {below : List Frame} {meth : Method} {c : Code} {H : Heap} {locs : List Loc} {cells slots : Nat} {Q : State → Prop} {mc ms : Nat} {free : Addr → Prop} {A0 A1 : Nat → Prop} {H0 : Heap} {a : Array Value} {pc : Nat} {ls : Array Slot} {st0 rest : List Value} {S SX : Type} {post : S → Prop} {px : SX → Prop} {B : S → Nat → State → Prop} {BX : String → SX → State → Prop} {AX : Nat → Prop} (hr : vx_Run p l e R s m args below meth c H locs cells slots mc ms (F0 m pc ls st0) rest (va_Qr post B A1 a) (vx_X px BX AX) free) (hS : va_S A0 H0 H locs) (hA : ∀ q, q < H.size → A1 q → A0 q) (hf : ∀ q, free q → A0 q) (hAX : ∀ q, q < H.size → AX q → A0 q)
    (kx : ∀ (E : String) (ce : Cell) (q9 : Addr) (u : SX) (t : State) (H1 : Heap) (locs1 : List Loc), t.heap = H1 → s.vm.Alike t.vm → px u → BX E u t → H.size ≤ H1.size → (∀ q : Nat, q < H.size → ¬ AX q → H1[q]? = H[q]?) → va_S A0 H0 H1 locs1 → H1[q9]? = some ce → ce.vm = .none → s.vm.findClass E = some ce.cls → vx_W p l e R s m args below meth c H1 locs1 (cells + mc) (slots + ms) Q (F0 m pc ls rest) q9)
    (kk : ∀ (u : S) (ra : Nat) (t : State) (H1 : Heap) (locs1 : List Loc), t.heap = H1 → s.vm.Alike t.vm → post u → B u ra t → H.size ≤ H1.size → (∀ q : Nat, q < H.size → ¬ A1 q → H1[q]? = H[q]?) → va_S A0 H0 H1 locs1 → W p l e R s m args below meth c H1 locs1 (cells + mc) (slots + ms) Q (F0 m (pc + 3) ls (.ref ra :: rest))) : W p l e R s m args below meth c H locs cells slots Q (F0 m pc ls st0) := by
  intro T hT X
  rcases hr T hT X with ⟨v, st₀, t, T', L, h0, X', hL, e1, e2, ⟨⟨u, ra, hv, hp, hb⟩, hF⟩, st⟩ | ⟨q, st₀, t, T', L, E, ce, h0, X', hL, e1, e2, ⟨u, hp, hb, hF⟩, hce, hcv, hcl, st⟩
  · cases hv
    obtain ⟨k1, k2, k3⟩ := vx_keep h0 e1 hS hA hf hL hF
    obtain ⟨t2, a1, b1⟩ := kk u ra t T'.heap (locs ++ L) e1.symm (by rw [← e2]; exact X'.warmed.alike) hp hb k1 k2 k3 T' rfl X'
    exact ⟨t2, st t2 a1, b1⟩
  · obtain ⟨k1, k2, k3⟩ := vx_keep h0 e1 hS hAX hf hL hF
    obtain ⟨t2, a1, b1⟩ := kx E ce q u t T'.heap (locs ++ L) e1.symm (by rw [← e2]; exact X'.warmed.alike) hp hb k1 k2 k3 (by rw [e1]; exact hce) hcv hcl T' rfl X'
    exact ⟨t2, st.trans a1, b1⟩
theorem g_xVv {α : Type} {qC : GA → Option ((α ⊕ String) × Mem) → Array Value → State → Outcome → State → Prop} (hX : Gx κ Γ nL cc own rm rt) (hE : ∀ x ∈ κ.2.2.2.2.2.2.2.2.2.exceptionTable.toList, False) {y : MethodName} {bc : ByteArray} {mL : Nat} {yrt : Option FieldType} {yrm : Room} {index nA : Nat} {st : List Value} {q ci : Nat} {fl : List Nat} (As : List Value) (hst : As.reverse ++ .ref (Γ.2.1 q) :: rest = st) {of : Option ((Unit ⊕ String) × Mem)} {ok : Unit → Mem → Option ((α ⊕ String) × Mem)} (c1 s1 : Nat) (hM : gX gxv κ.2.1 y bc mL yrt yrm (.ref (Γ.2.1 q) :: As) Γ σ of) (hW : gWV own index y bc mL yrt nA) (hA : As.length = nA) (hs : gSh[q]? = some (0, ci, fl)) (hcl : (gCl[ci]?).map (fun z => z.1) = some y.cls) (hd : decode cc pc = .ok (.invokevirtual index, 3)) (hn : pc + 3 = n) (hR : yrm.frames + 1 ≤ rm.frames ∧ 8 + (mL + 11) + yrm.locals ≤ rm.locals) (hC : cells + yrm.cells ≤ rm.cells ∧ slots + yrm.slots ≤ rm.slots) (hw : (rest.map fun v => v.category).sum ≤ 8) (hc1 : cells + yrm.cells = c1) (hs1 : slots + yrm.slots = s1) (k : ∀ _r u, GG κ Γ nL (gQX qC κ Γ rm) c1 s1 u lo n rest (ok _r u)) : GG κ Γ nL (gQX qC κ Γ rm) cells slots σ lo pc st (gbx of ok (fun E u => some (.inr E, u))) := by
  subst hn; subst hst; subst hc1; subst hs1
  have hRm := hX.2.2.2.2.2.2.2.2.1
  intro h0 H locs ls hP hD hS hl
  have ho : of ≠ none := by rintro rfl; exact h0 rfl
  refine vx_callv (vx_runV (As := As) (rest := rest) ⟨hX.1, hX.2.1, hX.2.2.2.2.2.2.1, hX.2.2.2.1, hX.2.2.1⟩ (hM ho) (cwV nA hX.2.2.1 hW.1 rfl rfl rfl ⟨rfl, hW.2.1, hW.2.2.1, hW.2.2.2⟩ (by rw [hRm]; exact hR)) ⟨gBW.blind, gRecv hX hP hs hcl, fun U hU hW => ⟨rfl, gBW.mk hX hP hD hS hU hW.alike⟩⟩ rfl hA hl.1.1 rfl (lv_room hw) hd (by rw [hRm]; exact hC)) hS (fun q _ h => h) (fun q h => h) (fun q _ h => h) (fun E ce q9 u t H1 locs1 ht hvm _ hB hz hk hS1 hce hcv hcl9 => ?_) (fun u t H1 locs1 ht hvm hp hB hz hk hS1 => ?_)
  · obtain ⟨hp, hB⟩ := hB
    have e1 : gbx of ok (fun E u => some (.inr E, u)) = some (.inr E, u) := by rw [hp]; rfl
    rw [e1]
    exact vx_out (fun x hx => (hE x hx).elim) hX.2.2.2.2.2.2.2.1 hce hcv hcl9 (fun t2 ht2 hv2 => ⟨u, trivial, ⟨rfl, gBW.mk hX (ht ▸ hB.1) hB.2.1 hS1 ht2 hv2⟩, hS1.F ht2⟩) hS1.2.2 hC.1 hC.2
  · have e1 : gbx of ok (fun E u => some (.inr E, u)) = ok () u := by rw [hp]; rfl
    rw [e1] at h0 ⊢
    exact k () u h0 H1 locs1 ls (ht ▸ hB.1) hB.2.1 hS1 hl
theorem g_xSv {α : Type} {qC : GA → Option ((α ⊕ String) × Mem) → Array Value → State → Outcome → State → Prop} (hX : Gx κ Γ nL cc own rm rt) (hE : ∀ x ∈ κ.2.2.2.2.2.2.2.2.2.exceptionTable.toList, False) {y : MethodName} {bc : ByteArray} {mL : Nat} {yrt : Option FieldType} {yrm : Room} {index nA : Nat} {st : List Value}  (As : List Value) (hst : As.reverse ++ rest = st) {of : Option ((Unit ⊕ String) × Mem)} {ok : Unit → Mem → Option ((α ⊕ String) × Mem)} (c1 s1 : Nat) (hM : gX gxv κ.2.1 y bc mL yrt yrm As Γ σ of) (hW : gWS own index y bc mL yrt nA) (hA : As.length = nA)  (hd : decode cc pc = .ok (.invokestatic index, 3)) (hn : pc + 3 = n) (hR : yrm.frames + 1 ≤ rm.frames ∧ 8 + (mL + 11) + yrm.locals ≤ rm.locals) (hC : cells + yrm.cells ≤ rm.cells ∧ slots + yrm.slots ≤ rm.slots) (hw : (rest.map fun v => v.category).sum ≤ 8) (hc1 : cells + yrm.cells = c1) (hs1 : slots + yrm.slots = s1) (k : ∀ _r u, GG κ Γ nL (gQX qC κ Γ rm) c1 s1 u lo n rest (ok _r u)) : GG κ Γ nL (gQX qC κ Γ rm) cells slots σ lo pc st (gbx of ok (fun E u => some (.inr E, u))) := by
  subst hn; subst hst; subst hc1; subst hs1
  have hRm := hX.2.2.2.2.2.2.2.2.1
  intro h0 H locs ls hP hD hS hl
  have ho : of ≠ none := by rintro rfl; exact h0 rfl
  refine vx_callv (vx_runS (As := As) (rest := rest) ⟨hX.1, hX.2.1, hX.2.2.2.2.2.2.1, hX.2.2.2.1, hX.2.2.1⟩ (hM ho) (va_cwS nA hX.2.2.1 hW.1 rfl rfl rfl hW.2 (by rw [hRm]; exact hR)) ⟨gBW.blind, fun U hU hW => ⟨rfl, gBW.mk hX hP hD hS hU hW.alike⟩⟩ rfl hA hl.1.1 rfl (lv_room hw) hd (by rw [hRm]; exact hC)) hS (fun q _ h => h) (fun q h => h) (fun q _ h => h) (fun E ce q9 u t H1 locs1 ht hvm _ hB hz hk hS1 hce hcv hcl9 => ?_) (fun u t H1 locs1 ht hvm hp hB hz hk hS1 => ?_)
  · obtain ⟨hp, hB⟩ := hB
    have e1 : gbx of ok (fun E u => some (.inr E, u)) = some (.inr E, u) := by rw [hp]; rfl
    rw [e1]
    exact vx_out (fun x hx => (hE x hx).elim) hX.2.2.2.2.2.2.2.1 hce hcv hcl9 (fun t2 ht2 hv2 => ⟨u, trivial, ⟨rfl, gBW.mk hX (ht ▸ hB.1) hB.2.1 hS1 ht2 hv2⟩, hS1.F ht2⟩) hS1.2.2 hC.1 hC.2
  · have e1 : gbx of ok (fun E u => some (.inr E, u)) = ok () u := by rw [hp]; rfl
    rw [e1] at h0 ⊢
    exact k () u h0 H1 locs1 ls (ht ▸ hB.1) hB.2.1 hS1 hl
theorem g_xVr {α : Type} {qC : GA → Option ((α ⊕ String) × Mem) → Array Value → State → Outcome → State → Prop} (hX : Gx κ Γ nL cc own rm rt) (hE : ∀ x ∈ κ.2.2.2.2.2.2.2.2.2.exceptionTable.toList, False) {y : MethodName} {bc : ByteArray} {mL : Nat} {yrt : Option FieldType} {yrm : Room} {index nA : Nat} {st : List Value} {q ci : Nat} {fl : List Nat} (As : List Value) (hst : As.reverse ++ .ref (Γ.2.1 q) :: rest = st) {of : Option ((Nat ⊕ String) × Mem)} {ok : Nat → Mem → Option ((α ⊕ String) × Mem)} (c1 s1 : Nat) (hM : gX gxr κ.2.1 y bc mL yrt yrm (.ref (Γ.2.1 q) :: As) Γ σ of) (hW : gWV own index y bc mL yrt nA) (hA : As.length = nA) (hs : gSh[q]? = some (0, ci, fl)) (hcl : (gCl[ci]?).map (fun z => z.1) = some y.cls) (hd : decode cc pc = .ok (.invokevirtual index, 3)) (hn : pc + 3 = n) (hR : yrm.frames + 1 ≤ rm.frames ∧ 8 + (mL + 11) + yrm.locals ≤ rm.locals) (hC : cells + yrm.cells ≤ rm.cells ∧ slots + yrm.slots ≤ rm.slots) (hw : (rest.map fun v => v.category).sum ≤ 8) (hc1 : cells + yrm.cells = c1) (hs1 : slots + yrm.slots = s1) (k : ∀ r u, GG κ Γ nL (gQX qC κ Γ rm) c1 s1 u lo n (.ref (Γ.2.1 r) :: rest) (ok r u)) : GG κ Γ nL (gQX qC κ Γ rm) cells slots σ lo pc st (gbx of ok (fun E u => some (.inr E, u))) := by
  subst hn; subst hst; subst hc1; subst hs1
  have hRm := hX.2.2.2.2.2.2.2.2.1
  intro h0 H locs ls hP hD hS hl
  have ho : of ≠ none := by rintro rfl; exact h0 rfl
  refine vx_callr (vx_runV (As := As) (rest := rest) ⟨hX.1, hX.2.1, hX.2.2.2.2.2.2.1, hX.2.2.2.1, hX.2.2.1⟩ (hM ho) (cwV nA hX.2.2.1 hW.1 rfl rfl rfl ⟨rfl, hW.2.1, hW.2.2.1, hW.2.2.2⟩ (by rw [hRm]; exact hR)) ⟨gBW.blind, gRecv hX hP hs hcl, fun U hU hW => ⟨rfl, gBW.mk hX hP hD hS hU hW.alike⟩⟩ rfl hA hl.1.1 rfl (lv_room hw) hd (by rw [hRm]; exact hC)) hS (fun q _ h => h) (fun q h => h) (fun q _ h => h) (fun E ce q9 u t H1 locs1 ht hvm _ hB hz hk hS1 hce hcv hcl9 => ?_) (fun ⟨r, u⟩ ra t H1 locs1 ht hvm hp hB hz hk hS1 => ?_)
  · obtain ⟨hp, hB⟩ := hB
    have e1 : gbx of ok (fun E u => some (.inr E, u)) = some (.inr E, u) := by rw [hp]; rfl
    rw [e1]
    exact vx_out (fun x hx => (hE x hx).elim) hX.2.2.2.2.2.2.2.1 hce hcv hcl9 (fun t2 ht2 hv2 => ⟨u, trivial, ⟨rfl, gBW.mk hX (ht ▸ hB.1) hB.2.1 hS1 ht2 hv2⟩, hS1.F ht2⟩) hS1.2.2 hC.1 hC.2
  · obtain ⟨hra, hB⟩ := hB
    subst hra
    have e1 : gbx of ok (fun E u => some (.inr E, u)) = ok r u := by rw [hp]; rfl
    rw [e1] at h0 ⊢
    exact k r u h0 H1 locs1 ls (ht ▸ hB.1) hB.2.1 hS1 hl
end GJ3
end
section
/-! Words of fields, calls, Math, throws. -/
theorem lays_S : ∀ w ∈ u_ws "PaneScreen" F_S 8, w ∈ TW := by
  intro w h
  obtain ⟨k, hk, rfl⟩ := List.mem_map.1 h
  have hk := List.mem_range.1 hk
  match k, hk with
  | 0, _ => exact w_0
  | 1, _ => exact w_1
  | 2, _ => exact w_2
  | 3, _ => exact w_3
  | 4, _ => exact w_4
  | 5, _ => exact w_5
  | 6, _ => exact w_6
  | 7, _ => exact w_7
  | n + 8, h => exact absurd h (by omega)
theorem lays_D : ∀ w ∈ u_ws "PaneScreen$Damage" F_D 5, w ∈ TW := by
  intro w h
  obtain ⟨k, hk, rfl⟩ := List.mem_map.1 h
  have hk := List.mem_range.1 hk
  match k, hk with
  | 0, _ => exact w_8
  | 1, _ => exact w_9
  | 2, _ => exact w_10
  | 3, _ => exact w_11
  | 4, _ => exact w_12
  | n + 5, h => exact absurd h (by omega)
theorem lays_E : ∀ w ∈ u_ws "PaneScreen$EventLine" F_E 10, w ∈ TW := by
  intro w h
  obtain ⟨k, hk, rfl⟩ := List.mem_map.1 h
  have hk := List.mem_range.1 hk
  match k, hk with
  | 0, _ => exact w_13
  | 1, _ => exact w_14
  | 2, _ => exact w_15
  | 3, _ => exact w_16
  | 4, _ => exact w_17
  | 5, _ => exact w_18
  | 6, _ => exact w_19
  | 7, _ => exact w_20
  | 8, _ => exact w_21
  | 9, _ => exact w_22
  | n + 10, h => exact absurd h (by omega)
theorem lays_O : ∀ w ∈ u_ws "PaneScreen$Order" F_O 2, w ∈ TW := by
  intro w h
  obtain ⟨k, hk, rfl⟩ := List.mem_map.1 h
  have hk := List.mem_range.1 hk
  match k, hk with
  | 0, _ => exact w_23
  | 1, _ => exact w_24
  | n + 2, h => exact absurd h (by omega)
theorem lays_P : ∀ w ∈ u_ws "PaneScreen$Pane" F_P 8, w ∈ TW := by
  intro w h
  obtain ⟨k, hk, rfl⟩ := List.mem_map.1 h
  have hk := List.mem_range.1 hk
  match k, hk with
  | 0, _ => exact w_25
  | 1, _ => exact w_26
  | 2, _ => exact w_27
  | 3, _ => exact w_28
  | 4, _ => exact w_29
  | 5, _ => exact w_30
  | 6, _ => exact w_31
  | 7, _ => exact w_32
  | n + 8, h => exact absurd h (by omega)
theorem lays_T : ∀ w ∈ u_ws "PaneScreen$Store" F_T 3, w ∈ TW := by
  intro w h
  obtain ⟨k, hk, rfl⟩ := List.mem_map.1 h
  have hk := List.mem_range.1 hk
  match k, hk with
  | 0, _ => exact w_33
  | 1, _ => exact w_34
  | 2, _ => exact w_35
  | n + 3, h => exact absurd h (by omega)
theorem lays_M : ∀ w ∈ u_ws "PaneScreenModel" F_M 37, w ∈ TW := by
  intro w h
  obtain ⟨k, hk, rfl⟩ := List.mem_map.1 h
  have hk := List.mem_range.1 hk
  match k, hk with
  | 0, _ => exact w_36
  | 1, _ => exact w_37
  | 2, _ => exact w_38
  | 3, _ => exact w_39
  | 4, _ => exact w_40
  | 5, _ => exact w_41
  | 6, _ => exact w_42
  | 7, _ => exact w_43
  | 8, _ => exact w_44
  | 9, _ => exact w_45
  | 10, _ => exact w_46
  | 11, _ => exact w_47
  | 12, _ => exact w_48
  | 13, _ => exact w_49
  | 14, _ => exact w_50
  | 15, _ => exact w_51
  | 16, _ => exact w_52
  | 17, _ => exact w_53
  | 18, _ => exact w_54
  | 19, _ => exact w_55
  | 20, _ => exact w_56
  | 21, _ => exact w_57
  | 22, _ => exact w_58
  | 23, _ => exact w_59
  | 24, _ => exact w_60
  | 25, _ => exact w_61
  | 26, _ => exact w_62
  | 27, _ => exact w_63
  | 28, _ => exact w_64
  | 29, _ => exact w_65
  | 30, _ => exact w_66
  | 31, _ => exact w_67
  | 32, _ => exact w_68
  | 33, _ => exact w_69
  | 34, _ => exact w_70
  | 35, _ => exact w_71
  | 36, _ => exact w_72
  | n + 37, h => exact absurd h (by omega)
theorem gf_D_9 : gF "PaneScreen$Damage" 9 1 0 := ⟨"PaneScreen$Damage", "PaneScreen$Damage", F_D, 5, rfl, by decide, w_73, rfl, lays_D⟩
theorem gf_D_15 : gF "PaneScreen$Damage" 15 1 1 := ⟨"PaneScreen$Damage", "PaneScreen$Damage", F_D, 5, rfl, by decide, w_74, rfl, lays_D⟩
theorem gf_D_18 : gF "PaneScreen$Damage" 18 1 2 := ⟨"PaneScreen$Damage", "PaneScreen$Damage", F_D, 5, rfl, by decide, w_75, rfl, lays_D⟩
theorem gf_D_21 : gF "PaneScreen$Damage" 21 1 3 := ⟨"PaneScreen$Damage", "PaneScreen$Damage", F_D, 5, rfl, by decide, w_76, rfl, lays_D⟩
theorem gf_D_33 : gF "PaneScreen$Damage" 33 1 4 := ⟨"PaneScreen$Damage", "PaneScreen$Damage", F_D, 5, rfl, by decide, w_77, rfl, lays_D⟩
theorem gf_E_9 : gF "PaneScreen$EventLine" 9 2 0 := ⟨"PaneScreen$EventLine", "PaneScreen$EventLine", F_E, 10, rfl, by decide, w_78, rfl, lays_E⟩
theorem gf_E_15 : gF "PaneScreen$EventLine" 15 2 1 := ⟨"PaneScreen$EventLine", "PaneScreen$EventLine", F_E, 10, rfl, by decide, w_79, rfl, lays_E⟩
theorem gf_E_18 : gF "PaneScreen$EventLine" 18 2 2 := ⟨"PaneScreen$EventLine", "PaneScreen$EventLine", F_E, 10, rfl, by decide, w_80, rfl, lays_E⟩
theorem gf_E_21 : gF "PaneScreen$EventLine" 21 2 3 := ⟨"PaneScreen$EventLine", "PaneScreen$EventLine", F_E, 10, rfl, by decide, w_81, rfl, lays_E⟩
theorem gf_E_28 : gF "PaneScreen$EventLine" 28 2 4 := ⟨"PaneScreen$EventLine", "PaneScreen$EventLine", F_E, 10, rfl, by decide, w_82, rfl, lays_E⟩
theorem gf_E_31 : gF "PaneScreen$EventLine" 31 2 5 := ⟨"PaneScreen$EventLine", "PaneScreen$EventLine", F_E, 10, rfl, by decide, w_83, rfl, lays_E⟩
theorem gf_M_7 : gF "PaneScreenModel" 7 6 1 := ⟨"PaneScreenModel", "PaneScreenModel", F_M, 37, rfl, by decide, w_84, rfl, lays_M⟩
theorem gf_M_13 : gF "PaneScreenModel" 13 6 2 := ⟨"PaneScreenModel", "PaneScreenModel", F_M, 37, rfl, by decide, w_85, rfl, lays_M⟩
theorem gf_M_17 : gF "PaneScreenModel" 17 6 3 := ⟨"PaneScreenModel", "PaneScreenModel", F_M, 37, rfl, by decide, w_86, rfl, lays_M⟩
theorem gf_M_20 : gF "PaneScreenModel" 20 6 4 := ⟨"PaneScreenModel", "PaneScreenModel", F_M, 37, rfl, by decide, w_87, rfl, lays_M⟩
theorem gf_M_23 : gF "PaneScreenModel" 23 6 5 := ⟨"PaneScreenModel", "PaneScreenModel", F_M, 37, rfl, by decide, w_88, rfl, lays_M⟩
theorem gf_M_26 : gF "PaneScreenModel" 26 6 6 := ⟨"PaneScreenModel", "PaneScreenModel", F_M, 37, rfl, by decide, w_89, rfl, lays_M⟩
theorem gf_M_29 : gF "PaneScreenModel" 29 6 7 := ⟨"PaneScreenModel", "PaneScreenModel", F_M, 37, rfl, by decide, w_90, rfl, lays_M⟩
theorem gf_M_32 : gF "PaneScreenModel" 32 6 8 := ⟨"PaneScreenModel", "PaneScreenModel", F_M, 37, rfl, by decide, w_91, rfl, lays_M⟩
theorem gf_M_35 : gF "PaneScreenModel" 35 6 9 := ⟨"PaneScreenModel", "PaneScreenModel", F_M, 37, rfl, by decide, w_92, rfl, lays_M⟩
theorem gf_M_38 : gF "PaneScreenModel" 38 6 10 := ⟨"PaneScreenModel", "PaneScreenModel", F_M, 37, rfl, by decide, w_93, rfl, lays_M⟩
theorem gf_M_41 : gF "PaneScreenModel" 41 6 13 := ⟨"PaneScreenModel", "PaneScreenModel", F_M, 37, rfl, by decide, w_94, rfl, lays_M⟩
theorem gf_M_44 : gF "PaneScreenModel" 44 6 14 := ⟨"PaneScreenModel", "PaneScreenModel", F_M, 37, rfl, by decide, w_95, rfl, lays_M⟩
theorem gf_M_47 : gF "PaneScreenModel" 47 6 15 := ⟨"PaneScreenModel", "PaneScreenModel", F_M, 37, rfl, by decide, w_96, rfl, lays_M⟩
theorem gf_M_51 : gF "PaneScreenModel" 51 6 17 := ⟨"PaneScreenModel", "PaneScreenModel", F_M, 37, rfl, by decide, w_97, rfl, lays_M⟩
theorem gf_M_54 : gF "PaneScreenModel" 54 6 18 := ⟨"PaneScreenModel", "PaneScreenModel", F_M, 37, rfl, by decide, w_98, rfl, lays_M⟩
theorem gf_M_57 : gF "PaneScreenModel" 57 6 19 := ⟨"PaneScreenModel", "PaneScreenModel", F_M, 37, rfl, by decide, w_99, rfl, lays_M⟩
theorem gf_M_60 : gF "PaneScreenModel" 60 6 20 := ⟨"PaneScreenModel", "PaneScreenModel", F_M, 37, rfl, by decide, w_100, rfl, lays_M⟩
theorem gf_M_63 : gF "PaneScreenModel" 63 6 27 := ⟨"PaneScreenModel", "PaneScreenModel", F_M, 37, rfl, by decide, w_101, rfl, lays_M⟩
theorem gf_M_66 : gF "PaneScreenModel" 66 6 28 := ⟨"PaneScreenModel", "PaneScreenModel", F_M, 37, rfl, by decide, w_102, rfl, lays_M⟩
theorem gf_M_69 : gF "PaneScreenModel" 69 6 29 := ⟨"PaneScreenModel", "PaneScreenModel", F_M, 37, rfl, by decide, w_103, rfl, lays_M⟩
theorem gf_M_72 : gF "PaneScreenModel" 72 6 30 := ⟨"PaneScreenModel", "PaneScreenModel", F_M, 37, rfl, by decide, w_104, rfl, lays_M⟩
theorem gf_M_75 : gF "PaneScreenModel" 75 6 0 := ⟨"PaneScreenModel", "PaneScreenModel", F_M, 37, rfl, by decide, w_105, rfl, lays_M⟩
theorem gf_M_78 : gF "PaneScreenModel" 78 6 16 := ⟨"PaneScreenModel", "PaneScreenModel", F_M, 37, rfl, by decide, w_106, rfl, lays_M⟩
theorem gf_M_89 : gF "PaneScreenModel" 89 6 21 := ⟨"PaneScreenModel", "PaneScreenModel", F_M, 37, rfl, by decide, w_107, rfl, lays_M⟩
theorem gf_M_93 : gF "PaneScreenModel" 93 6 22 := ⟨"PaneScreenModel", "PaneScreenModel", F_M, 37, rfl, by decide, w_108, rfl, lays_M⟩
theorem gf_M_96 : gF "PaneScreenModel" 96 6 23 := ⟨"PaneScreenModel", "PaneScreenModel", F_M, 37, rfl, by decide, w_109, rfl, lays_M⟩
theorem gf_M_99 : gF "PaneScreenModel" 99 6 24 := ⟨"PaneScreenModel", "PaneScreenModel", F_M, 37, rfl, by decide, w_110, rfl, lays_M⟩
theorem gf_M_102 : gF "PaneScreenModel" 102 6 25 := ⟨"PaneScreenModel", "PaneScreenModel", F_M, 37, rfl, by decide, w_111, rfl, lays_M⟩
theorem gf_M_120 : gF "PaneScreenModel" 120 6 11 := ⟨"PaneScreenModel", "PaneScreenModel", F_M, 37, rfl, by decide, w_112, rfl, lays_M⟩
theorem gf_M_130 : gF "PaneScreenModel" 130 6 26 := ⟨"PaneScreenModel", "PaneScreenModel", F_M, 37, rfl, by decide, w_113, rfl, lays_M⟩
theorem gf_M_140 : gF "PaneScreenModel" 140 6 12 := ⟨"PaneScreenModel", "PaneScreenModel", F_M, 37, rfl, by decide, w_114, rfl, lays_M⟩
theorem gf_M_168 : gF "PaneScreenModel" 168 6 36 := ⟨"PaneScreenModel", "PaneScreenModel", F_M, 37, rfl, by decide, w_115, rfl, lays_M⟩
theorem gf_M_174 : gF "PaneScreenModel" 174 6 35 := ⟨"PaneScreenModel", "PaneScreenModel", F_M, 37, rfl, by decide, w_116, rfl, lays_M⟩
theorem gf_M_180 : gF "PaneScreenModel" 180 6 31 := ⟨"PaneScreenModel", "PaneScreenModel", F_M, 37, rfl, by decide, w_117, rfl, lays_M⟩
theorem gf_M_183 : gF "PaneScreenModel" 183 6 32 := ⟨"PaneScreenModel", "PaneScreenModel", F_M, 37, rfl, by decide, w_118, rfl, lays_M⟩
theorem gf_M_186 : gF "PaneScreenModel" 186 6 33 := ⟨"PaneScreenModel", "PaneScreenModel", F_M, 37, rfl, by decide, w_119, rfl, lays_M⟩
theorem gf_M_189 : gF "PaneScreenModel" 189 6 34 := ⟨"PaneScreenModel", "PaneScreenModel", F_M, 37, rfl, by decide, w_120, rfl, lays_M⟩
theorem gf_O_9 : gF "PaneScreen$Order" 9 3 0 := ⟨"PaneScreen$Order", "PaneScreen$Order", F_O, 2, rfl, by decide, w_121, rfl, lays_O⟩
theorem gf_O_15 : gF "PaneScreen$Order" 15 3 1 := ⟨"PaneScreen$Order", "PaneScreen$Order", F_O, 2, rfl, by decide, w_122, rfl, lays_O⟩
theorem gf_P_13 : gF "PaneScreen$Pane" 13 4 5 := ⟨"PaneScreen$Pane", "PaneScreen$Pane", F_P, 8, rfl, by decide, w_123, rfl, lays_P⟩
theorem gf_P_17 : gF "PaneScreen$Pane" 17 4 3 := ⟨"PaneScreen$Pane", "PaneScreen$Pane", F_P, 8, rfl, by decide, w_124, rfl, lays_P⟩
theorem gf_P_20 : gF "PaneScreen$Pane" 20 4 4 := ⟨"PaneScreen$Pane", "PaneScreen$Pane", F_P, 8, rfl, by decide, w_125, rfl, lays_P⟩
theorem gf_P_27 : gF "PaneScreen$Pane" 27 4 1 := ⟨"PaneScreen$Pane", "PaneScreen$Pane", F_P, 8, rfl, by decide, w_126, rfl, lays_P⟩
theorem gf_P_30 : gF "PaneScreen$Pane" 30 4 2 := ⟨"PaneScreen$Pane", "PaneScreen$Pane", F_P, 8, rfl, by decide, w_127, rfl, lays_P⟩
theorem gf_S_9 : gF "PaneScreen" 9 0 0 := ⟨"PaneScreen", "PaneScreen", F_S, 8, rfl, by decide, w_128, rfl, lays_S⟩
theorem gf_S_15 : gF "PaneScreen" 15 0 1 := ⟨"PaneScreen", "PaneScreen", F_S, 8, rfl, by decide, w_129, rfl, lays_S⟩
theorem gf_S_23 : gF "PaneScreen" 23 0 2 := ⟨"PaneScreen", "PaneScreen", F_S, 8, rfl, by decide, w_130, rfl, lays_S⟩
theorem gf_S_30 : gF "PaneScreen" 30 0 3 := ⟨"PaneScreen", "PaneScreen", F_S, 8, rfl, by decide, w_131, rfl, lays_S⟩
theorem gf_S_37 : gF "PaneScreen" 37 0 4 := ⟨"PaneScreen", "PaneScreen", F_S, 8, rfl, by decide, w_132, rfl, lays_S⟩
theorem gf_S_44 : gF "PaneScreen" 44 0 5 := ⟨"PaneScreen", "PaneScreen", F_S, 8, rfl, by decide, w_133, rfl, lays_S⟩
theorem gf_S_48 : gF "PaneScreen" 48 0 6 := ⟨"PaneScreen", "PaneScreen", F_S, 8, rfl, by decide, w_134, rfl, lays_S⟩
theorem gf_S_52 : gF "PaneScreen" 52 0 7 := ⟨"PaneScreen", "PaneScreen", F_S, 8, rfl, by decide, w_135, rfl, lays_S⟩
theorem gf_S_95 : gF "PaneScreen" 95 4 5 := ⟨"PaneScreen$Pane", "PaneScreen$Pane", F_P, 8, rfl, by decide, w_136, rfl, lays_P⟩
theorem gf_S_98 : gF "PaneScreen" 98 4 3 := ⟨"PaneScreen$Pane", "PaneScreen$Pane", F_P, 8, rfl, by decide, w_137, rfl, lays_P⟩
theorem gf_S_101 : gF "PaneScreen" 101 4 4 := ⟨"PaneScreen$Pane", "PaneScreen$Pane", F_P, 8, rfl, by decide, w_138, rfl, lays_P⟩
theorem gf_S_130 : gF "PaneScreen" 130 5 0 := ⟨"PaneScreen$Store", "PaneScreen$Store", F_T, 3, rfl, by decide, w_139, rfl, lays_T⟩
theorem gf_S_162 : gF "PaneScreen" 162 5 1 := ⟨"PaneScreen$Store", "PaneScreen$Store", F_T, 3, rfl, by decide, w_140, rfl, lays_T⟩
theorem gf_S_186 : gF "PaneScreen" 186 4 1 := ⟨"PaneScreen$Pane", "PaneScreen$Pane", F_P, 8, rfl, by decide, w_141, rfl, lays_P⟩
theorem gf_S_189 : gF "PaneScreen" 189 4 2 := ⟨"PaneScreen$Pane", "PaneScreen$Pane", F_P, 8, rfl, by decide, w_142, rfl, lays_P⟩
theorem gf_S_196 : gF "PaneScreen" 196 2 4 := ⟨"PaneScreen$EventLine", "PaneScreen$EventLine", F_E, 10, rfl, by decide, w_143, rfl, lays_E⟩
theorem gf_S_205 : gF "PaneScreen" 205 2 6 := ⟨"PaneScreen$EventLine", "PaneScreen$EventLine", F_E, 10, rfl, by decide, w_144, rfl, lays_E⟩
theorem gf_S_208 : gF "PaneScreen" 208 2 7 := ⟨"PaneScreen$EventLine", "PaneScreen$EventLine", F_E, 10, rfl, by decide, w_145, rfl, lays_E⟩
theorem gf_S_211 : gF "PaneScreen" 211 2 8 := ⟨"PaneScreen$EventLine", "PaneScreen$EventLine", F_E, 10, rfl, by decide, w_146, rfl, lays_E⟩
theorem gf_S_214 : gF "PaneScreen" 214 2 9 := ⟨"PaneScreen$EventLine", "PaneScreen$EventLine", F_E, 10, rfl, by decide, w_147, rfl, lays_E⟩
theorem gf_S_220 : gF "PaneScreen" 220 3 1 := ⟨"PaneScreen$Order", "PaneScreen$Order", F_O, 2, rfl, by decide, w_148, rfl, lays_O⟩
theorem gf_S_227 : gF "PaneScreen" 227 1 4 := ⟨"PaneScreen$Damage", "PaneScreen$Damage", F_D, 5, rfl, by decide, w_149, rfl, lays_D⟩
theorem gf_S_228 : gF "PaneScreen" 228 2 5 := ⟨"PaneScreen$EventLine", "PaneScreen$EventLine", F_E, 10, rfl, by decide, w_150, rfl, lays_E⟩
theorem gf_S_231 : gF "PaneScreen" 231 4 0 := ⟨"PaneScreen$Pane", "PaneScreen$Pane", F_P, 8, rfl, by decide, w_151, rfl, lays_P⟩
theorem gf_S_235 : gF "PaneScreen" 235 3 0 := ⟨"PaneScreen$Order", "PaneScreen$Order", F_O, 2, rfl, by decide, w_152, rfl, lays_O⟩
theorem gf_S_250 : gF "PaneScreen" 250 4 6 := ⟨"PaneScreen$Pane", "PaneScreen$Pane", F_P, 8, rfl, by decide, w_153, rfl, lays_P⟩
theorem gf_S_253 : gF "PaneScreen" 253 4 7 := ⟨"PaneScreen$Pane", "PaneScreen$Pane", F_P, 8, rfl, by decide, w_154, rfl, lays_P⟩
theorem gf_T_9 : gF "PaneScreen$Store" 9 5 0 := ⟨"PaneScreen$Store", "PaneScreen$Store", F_T, 3, rfl, by decide, w_155, rfl, lays_T⟩
theorem gf_T_15 : gF "PaneScreen$Store" 15 5 1 := ⟨"PaneScreen$Store", "PaneScreen$Store", F_T, 3, rfl, by decide, w_156, rfl, lays_T⟩
theorem gf_T_18 : gF "PaneScreen$Store" 18 5 2 := ⟨"PaneScreen$Store", "PaneScreen$Store", F_T, 3, rfl, by decide, w_157, rfl, lays_T⟩
theorem gp_D_33 : gFP "PaneScreen$Damage" 33 1 4 .int := ⟨"PaneScreen$Damage", "PaneScreen$Damage", F_D, 5, ty_D, rfl, by decide, w_77, rfl, lays_D, ty_D_ok, nm_D, rfl, ty_D_ok 4 (by decide)⟩
theorem gp_E_24 : gFP "PaneScreen$EventLine" 24 2 6 .int := ⟨"PaneScreen$EventLine", "PaneScreen$EventLine", F_E, 10, ty_E, rfl, by decide, w_158, rfl, lays_E, ty_E_ok, nm_E, rfl, ty_E_ok 6 (by decide)⟩
theorem gp_E_28 : gFP "PaneScreen$EventLine" 28 2 4 .int := ⟨"PaneScreen$EventLine", "PaneScreen$EventLine", F_E, 10, ty_E, rfl, by decide, w_82, rfl, lays_E, ty_E_ok, nm_E, rfl, ty_E_ok 4 (by decide)⟩
theorem gp_E_31 : gFP "PaneScreen$EventLine" 31 2 5 .int := ⟨"PaneScreen$EventLine", "PaneScreen$EventLine", F_E, 10, ty_E, rfl, by decide, w_83, rfl, lays_E, ty_E_ok, nm_E, rfl, ty_E_ok 5 (by decide)⟩
theorem gp_E_34 : gFP "PaneScreen$EventLine" 34 2 7 .int := ⟨"PaneScreen$EventLine", "PaneScreen$EventLine", F_E, 10, ty_E, rfl, by decide, w_159, rfl, lays_E, ty_E_ok, nm_E, rfl, ty_E_ok 7 (by decide)⟩
theorem gp_E_37 : gFP "PaneScreen$EventLine" 37 2 8 .int := ⟨"PaneScreen$EventLine", "PaneScreen$EventLine", F_E, 10, ty_E, rfl, by decide, w_160, rfl, lays_E, ty_E_ok, nm_E, rfl, ty_E_ok 8 (by decide)⟩
theorem gp_E_40 : gFP "PaneScreen$EventLine" 40 2 9 .int := ⟨"PaneScreen$EventLine", "PaneScreen$EventLine", F_E, 10, ty_E, rfl, by decide, w_161, rfl, lays_E, ty_E_ok, nm_E, rfl, ty_E_ok 9 (by decide)⟩
theorem gp_M_47 : gFP "PaneScreenModel" 47 6 15 .int := ⟨"PaneScreenModel", "PaneScreenModel", F_M, 37, ty_M, rfl, by decide, w_96, rfl, lays_M, ty_M_ok, nm_M, rfl, ty_M_ok 15 (by decide)⟩
theorem gp_M_75 : gFP "PaneScreenModel" 75 6 0 .int := ⟨"PaneScreenModel", "PaneScreenModel", F_M, 37, ty_M, rfl, by decide, w_105, rfl, lays_M, ty_M_ok, nm_M, rfl, ty_M_ok 0 (by decide)⟩
theorem gp_M_78 : gFP "PaneScreenModel" 78 6 16 .int := ⟨"PaneScreenModel", "PaneScreenModel", F_M, 37, ty_M, rfl, by decide, w_106, rfl, lays_M, ty_M_ok, nm_M, rfl, ty_M_ok 16 (by decide)⟩
theorem gp_M_89 : gFP "PaneScreenModel" 89 6 21 .boolean := ⟨"PaneScreenModel", "PaneScreenModel", F_M, 37, ty_M, rfl, by decide, w_107, rfl, lays_M, ty_M_ok, nm_M, rfl, ty_M_ok 21 (by decide)⟩
theorem gp_M_93 : gFP "PaneScreenModel" 93 6 22 .int := ⟨"PaneScreenModel", "PaneScreenModel", F_M, 37, ty_M, rfl, by decide, w_108, rfl, lays_M, ty_M_ok, nm_M, rfl, ty_M_ok 22 (by decide)⟩
theorem gp_M_96 : gFP "PaneScreenModel" 96 6 23 .int := ⟨"PaneScreenModel", "PaneScreenModel", F_M, 37, ty_M, rfl, by decide, w_109, rfl, lays_M, ty_M_ok, nm_M, rfl, ty_M_ok 23 (by decide)⟩
theorem gp_M_99 : gFP "PaneScreenModel" 99 6 24 .int := ⟨"PaneScreenModel", "PaneScreenModel", F_M, 37, ty_M, rfl, by decide, w_110, rfl, lays_M, ty_M_ok, nm_M, rfl, ty_M_ok 24 (by decide)⟩
theorem gp_M_102 : gFP "PaneScreenModel" 102 6 25 .int := ⟨"PaneScreenModel", "PaneScreenModel", F_M, 37, ty_M, rfl, by decide, w_111, rfl, lays_M, ty_M_ok, nm_M, rfl, ty_M_ok 25 (by decide)⟩
theorem gp_M_120 : gFP "PaneScreenModel" 120 6 11 .int := ⟨"PaneScreenModel", "PaneScreenModel", F_M, 37, ty_M, rfl, by decide, w_112, rfl, lays_M, ty_M_ok, nm_M, rfl, ty_M_ok 11 (by decide)⟩
theorem gp_M_130 : gFP "PaneScreenModel" 130 6 26 .int := ⟨"PaneScreenModel", "PaneScreenModel", F_M, 37, ty_M, rfl, by decide, w_113, rfl, lays_M, ty_M_ok, nm_M, rfl, ty_M_ok 26 (by decide)⟩
theorem gp_M_140 : gFP "PaneScreenModel" 140 6 12 .int := ⟨"PaneScreenModel", "PaneScreenModel", F_M, 37, ty_M, rfl, by decide, w_114, rfl, lays_M, ty_M_ok, nm_M, rfl, ty_M_ok 12 (by decide)⟩
theorem gp_M_168 : gFP "PaneScreenModel" 168 6 36 .int := ⟨"PaneScreenModel", "PaneScreenModel", F_M, 37, ty_M, rfl, by decide, w_115, rfl, lays_M, ty_M_ok, nm_M, rfl, ty_M_ok 36 (by decide)⟩
theorem gp_M_174 : gFP "PaneScreenModel" 174 6 35 .int := ⟨"PaneScreenModel", "PaneScreenModel", F_M, 37, ty_M, rfl, by decide, w_116, rfl, lays_M, ty_M_ok, nm_M, rfl, ty_M_ok 35 (by decide)⟩
theorem gp_M_180 : gFP "PaneScreenModel" 180 6 31 .boolean := ⟨"PaneScreenModel", "PaneScreenModel", F_M, 37, ty_M, rfl, by decide, w_117, rfl, lays_M, ty_M_ok, nm_M, rfl, ty_M_ok 31 (by decide)⟩
theorem gp_M_183 : gFP "PaneScreenModel" 183 6 32 .int := ⟨"PaneScreenModel", "PaneScreenModel", F_M, 37, ty_M, rfl, by decide, w_118, rfl, lays_M, ty_M_ok, nm_M, rfl, ty_M_ok 32 (by decide)⟩
theorem gp_M_186 : gFP "PaneScreenModel" 186 6 33 .int := ⟨"PaneScreenModel", "PaneScreenModel", F_M, 37, ty_M, rfl, by decide, w_119, rfl, lays_M, ty_M_ok, nm_M, rfl, ty_M_ok 33 (by decide)⟩
theorem gp_M_189 : gFP "PaneScreenModel" 189 6 34 .int := ⟨"PaneScreenModel", "PaneScreenModel", F_M, 37, ty_M, rfl, by decide, w_120, rfl, lays_M, ty_M_ok, nm_M, rfl, ty_M_ok 34 (by decide)⟩
theorem gp_O_15 : gFP "PaneScreen$Order" 15 3 1 .int := ⟨"PaneScreen$Order", "PaneScreen$Order", F_O, 2, ty_O, rfl, by decide, w_122, rfl, lays_O, ty_O_ok, nm_O, rfl, ty_O_ok 1 (by decide)⟩
theorem gp_P_7 : gFP "PaneScreen$Pane" 7 4 0 .boolean := ⟨"PaneScreen$Pane", "PaneScreen$Pane", F_P, 8, ty_P, rfl, by decide, w_162, rfl, lays_P, ty_P_ok, nm_P, rfl, ty_P_ok 0 (by decide)⟩
theorem gp_P_13 : gFP "PaneScreen$Pane" 13 4 5 .int := ⟨"PaneScreen$Pane", "PaneScreen$Pane", F_P, 8, ty_P, rfl, by decide, w_123, rfl, lays_P, ty_P_ok, nm_P, rfl, ty_P_ok 5 (by decide)⟩
theorem gp_P_17 : gFP "PaneScreen$Pane" 17 4 3 .int := ⟨"PaneScreen$Pane", "PaneScreen$Pane", F_P, 8, ty_P, rfl, by decide, w_124, rfl, lays_P, ty_P_ok, nm_P, rfl, ty_P_ok 3 (by decide)⟩
theorem gp_P_20 : gFP "PaneScreen$Pane" 20 4 4 .int := ⟨"PaneScreen$Pane", "PaneScreen$Pane", F_P, 8, ty_P, rfl, by decide, w_125, rfl, lays_P, ty_P_ok, nm_P, rfl, ty_P_ok 4 (by decide)⟩
theorem gp_P_27 : gFP "PaneScreen$Pane" 27 4 1 .int := ⟨"PaneScreen$Pane", "PaneScreen$Pane", F_P, 8, ty_P, rfl, by decide, w_126, rfl, lays_P, ty_P_ok, nm_P, rfl, ty_P_ok 1 (by decide)⟩
theorem gp_P_30 : gFP "PaneScreen$Pane" 30 4 2 .int := ⟨"PaneScreen$Pane", "PaneScreen$Pane", F_P, 8, ty_P, rfl, by decide, w_127, rfl, lays_P, ty_P_ok, nm_P, rfl, ty_P_ok 2 (by decide)⟩
theorem gp_P_33 : gFP "PaneScreen$Pane" 33 4 6 .int := ⟨"PaneScreen$Pane", "PaneScreen$Pane", F_P, 8, ty_P, rfl, by decide, w_163, rfl, lays_P, ty_P_ok, nm_P, rfl, ty_P_ok 6 (by decide)⟩
theorem gp_P_36 : gFP "PaneScreen$Pane" 36 4 7 .int := ⟨"PaneScreen$Pane", "PaneScreen$Pane", F_P, 8, ty_P, rfl, by decide, w_164, rfl, lays_P, ty_P_ok, nm_P, rfl, ty_P_ok 7 (by decide)⟩
theorem gp_S_48 : gFP "PaneScreen" 48 0 6 .int := ⟨"PaneScreen", "PaneScreen", F_S, 8, ty_S, rfl, by decide, w_134, rfl, lays_S, ty_S_ok, nm_S, rfl, ty_S_ok 6 (by decide)⟩
theorem gp_S_52 : gFP "PaneScreen" 52 0 7 .int := ⟨"PaneScreen", "PaneScreen", F_S, 8, ty_S, rfl, by decide, w_135, rfl, lays_S, ty_S_ok, nm_S, rfl, ty_S_ok 7 (by decide)⟩
theorem gw_D_37 : gWV "PaneScreen$Damage" 37 y_D_put b_D_put 6 none 5 := ⟨gGood TW_good (fun w hw => by
  simp only [List.mem_cons, List.not_mem_nil, or_false] at hw
  rcases hw with rfl | rfl | rfl | rfl
  · exact w_165
  · exact w_166
  · exact w_167
  · exact w_168) w_169, by decide, by decide, by decide +kernel⟩
theorem gw_D_41 : gWV "PaneScreen$Damage" 41 y_D_joinAllWith b_D_joinAllWith 10 none 4 := ⟨gGood TW_good (fun w hw => by
  simp only [List.mem_cons, List.not_mem_nil, or_false] at hw
  rcases hw with rfl | rfl | rfl | rfl
  · exact w_170
  · exact w_171
  · exact w_172
  · exact w_168) w_173, by decide, by decide, by decide +kernel⟩
theorem gw_E_43 : gWV "PaneScreen$EventLine" 43 y_E_copy b_E_copy 3 none 2 := ⟨gGood TW_good (fun w hw => by
  simp only [List.mem_cons, List.not_mem_nil, or_false] at hw
  rcases hw with rfl | rfl | rfl | rfl
  · exact w_174
  · exact w_175
  · exact w_176
  · exact w_177) w_178, by decide, by decide, by decide +kernel⟩
theorem gw_M_81 : gWV "PaneScreenModel" 81 y_M_damage b_M_damage 10 none 4 := ⟨gGood TW_good (fun w hw => by
  simp only [List.mem_cons, List.not_mem_nil, or_false] at hw
  rcases hw with rfl | rfl | rfl | rfl
  · exact w_179
  · exact w_180
  · exact w_181
  · exact w_182) w_183, by decide, by decide, by decide +kernel⟩
theorem gw_M_85 : gWV "PaneScreenModel" 85 y_M_inPicture b_M_inPicture 4 (some .boolean) 3 := ⟨gGood TW_good (fun w hw => by
  simp only [List.mem_cons, List.not_mem_nil, or_false] at hw
  rcases hw with rfl | rfl | rfl | rfl
  · exact w_184
  · exact w_185
  · exact w_186
  · exact w_182) w_187, by decide, by decide, by decide +kernel⟩
theorem gw_M_105 : gWV "PaneScreenModel" 105 y_M_isFree b_M_isFree 4 (some .boolean) 1 := ⟨gGood TW_good (fun w hw => by
  simp only [List.mem_cons, List.not_mem_nil, or_false] at hw
  rcases hw with rfl | rfl | rfl | rfl
  · exact w_188
  · exact w_189
  · exact w_190
  · exact w_182) w_191, by decide, by decide, by decide +kernel⟩
theorem gw_M_109 : gWS "PaneScreenModel" 109 y_M_near b_M_near 1 (some .boolean) 1 := ⟨gGood TW_good (fun w hw => by
  simp only [List.mem_cons, List.not_mem_nil, or_false] at hw
  rcases hw with rfl | rfl | rfl
  · exact w_192
  · exact w_193
  · exact w_182) w_194, by decide, by decide, by decide +kernel⟩
theorem gw_M_112 : gWV "PaneScreenModel" 112 y_M_stretch b_M_stretch 4 (some .int) 1 := ⟨gGood TW_good (fun w hw => by
  simp only [List.mem_cons, List.not_mem_nil, or_false] at hw
  rcases hw with rfl | rfl | rfl | rfl
  · exact w_195
  · exact w_196
  · exact w_197
  · exact w_182) w_198, by decide, by decide, by decide +kernel⟩
theorem gw_M_116 : gWV "PaneScreenModel" 116 y_M_firstClosed b_M_firstClosed 2 (some .int) 0 := ⟨gGood TW_good (fun w hw => by
  simp only [List.mem_cons, List.not_mem_nil, or_false] at hw
  rcases hw with rfl | rfl | rfl | rfl
  · exact w_199
  · exact w_200
  · exact w_201
  · exact w_182) w_202, by decide, by decide, by decide +kernel⟩
theorem gw_M_123 : gWV "PaneScreenModel" 123 y_M_damageFrame b_M_damageFrame 2 none 1 := ⟨gGood TW_good (fun w hw => by
  simp only [List.mem_cons, List.not_mem_nil, or_false] at hw
  rcases hw with rfl | rfl | rfl | rfl
  · exact w_203
  · exact w_204
  · exact w_205
  · exact w_182) w_206, by decide, by decide, by decide +kernel⟩
theorem gw_M_127 : gWV "PaneScreenModel" 127 y_M_isOpen b_M_isOpen 2 (some .boolean) 1 := ⟨gGood TW_good (fun w hw => by
  simp only [List.mem_cons, List.not_mem_nil, or_false] at hw
  rcases hw with rfl | rfl | rfl | rfl
  · exact w_207
  · exact w_208
  · exact w_209
  · exact w_182) w_210, by decide, by decide, by decide +kernel⟩
theorem gw_M_133 : gWV "PaneScreenModel" 133 y_M_moveEvent b_M_moveEvent 3 none 2 := ⟨gGood TW_good (fun w hw => by
  simp only [List.mem_cons, List.not_mem_nil, or_false] at hw
  rcases hw with rfl | rfl | rfl | rfl
  · exact w_211
  · exact w_212
  · exact w_213
  · exact w_182) w_214, by decide, by decide, by decide +kernel⟩
theorem gw_M_137 : gWV "PaneScreenModel" 137 y_M_foremost b_M_foremost 3 (some .int) 0 := ⟨gGood TW_good (fun w hw => by
  simp only [List.mem_cons, List.not_mem_nil, or_false] at hw
  rcases hw with rfl | rfl | rfl | rfl
  · exact w_215
  · exact w_216
  · exact w_217
  · exact w_182) w_218, by decide, by decide, by decide +kernel⟩
theorem gw_M_143 : gWV "PaneScreenModel" 143 y_M_lift b_M_lift 5 (some .boolean) 2 := ⟨gGood TW_good (fun w hw => by
  simp only [List.mem_cons, List.not_mem_nil, or_false] at hw
  rcases hw with rfl | rfl | rfl | rfl
  · exact w_219
  · exact w_220
  · exact w_221
  · exact w_182) w_222, by decide, by decide, by decide +kernel⟩
theorem gw_M_147 : gWS "PaneScreenModel" 147 y_M_colour b_M_colour 1 (some .boolean) 1 := ⟨gGood TW_good (fun w hw => by
  simp only [List.mem_cons, List.not_mem_nil, or_false] at hw
  rcases hw with rfl | rfl | rfl
  · exact w_223
  · exact w_224
  · exact w_182) w_225, by decide, by decide, by decide +kernel⟩
theorem gw_M_150 : gWV "PaneScreenModel" 150 y_M_paint b_M_paint 5 (some .boolean) 4 := ⟨gGood TW_good (fun w hw => by
  simp only [List.mem_cons, List.not_mem_nil, or_false] at hw
  rcases hw with rfl | rfl | rfl | rfl
  · exact w_226
  · exact w_227
  · exact w_228
  · exact w_182) w_229, by decide, by decide, by decide +kernel⟩
theorem gw_M_154 : gWV "PaneScreenModel" 154 y_M_damageChanged b_M_damageChanged 2 none 1 := ⟨gGood TW_good (fun w hw => by
  simp only [List.mem_cons, List.not_mem_nil, or_false] at hw
  rcases hw with rfl | rfl | rfl | rfl
  · exact w_230
  · exact w_231
  · exact w_232
  · exact w_182) w_233, by decide, by decide, by decide +kernel⟩
theorem gw_M_157 : gWS "PaneScreenModel" 157 y_M_div b_M_div 3 (some .int) 2 := ⟨gGood TW_good (fun w hw => by
  simp only [List.mem_cons, List.not_mem_nil, or_false] at hw
  rcases hw with rfl | rfl | rfl
  · exact w_234
  · exact w_235
  · exact w_182) w_236, by decide, by decide, by decide +kernel⟩
theorem gw_M_161 : gWV "PaneScreenModel" 161 y_M_isDamaged b_M_isDamaged 5 (some .boolean) 2 := ⟨gGood TW_good (fun w hw => by
  simp only [List.mem_cons, List.not_mem_nil, or_false] at hw
  rcases hw with rfl | rfl | rfl | rfl
  · exact w_237
  · exact w_238
  · exact w_239
  · exact w_182) w_240, by decide, by decide, by decide +kernel⟩
theorem gw_M_165 : gWV "PaneScreenModel" 165 y_M_owner b_M_owner 6 (some .int) 2 := ⟨gGood TW_good (fun w hw => by
  simp only [List.mem_cons, List.not_mem_nil, or_false] at hw
  rcases hw with rfl | rfl | rfl | rfl
  · exact w_241
  · exact w_242
  · exact w_243
  · exact w_182) w_244, by decide, by decide, by decide +kernel⟩
theorem gw_M_171 : gWS "PaneScreenModel" 171 y_M_onScreen b_M_onScreen 2 (some .boolean) 2 := ⟨gGood TW_good (fun w hw => by
  simp only [List.mem_cons, List.not_mem_nil, or_false] at hw
  rcases hw with rfl | rfl | rfl
  · exact w_245
  · exact w_246
  · exact w_182) w_247, by decide, by decide, by decide +kernel⟩
theorem gw_M_177 : gWV "PaneScreenModel" 177 y_M_tell b_M_tell 5 none 4 := ⟨gGood TW_good (fun w hw => by
  simp only [List.mem_cons, List.not_mem_nil, or_false] at hw
  rcases hw with rfl | rfl | rfl | rfl
  · exact w_248
  · exact w_249
  · exact w_250
  · exact w_182) w_251, by decide, by decide, by decide +kernel⟩
theorem gw_M_192 : gWV "PaneScreenModel" 192 y_M_openOnes b_M_openOnes 3 (some .int) 0 := ⟨gGood TW_good (fun w hw => by
  simp only [List.mem_cons, List.not_mem_nil, or_false] at hw
  rcases hw with rfl | rfl | rfl | rfl
  · exact w_252
  · exact w_253
  · exact w_254
  · exact w_182) w_255, by decide, by decide, by decide +kernel⟩
theorem gw_M_195 : gWV "PaneScreenModel" 195 y_M_freeCells b_M_freeCells 7 (some .int) 1 := ⟨gGood TW_good (fun w hw => by
  simp only [List.mem_cons, List.not_mem_nil, or_false] at hw
  rcases hw with rfl | rfl | rfl | rfl
  · exact w_256
  · exact w_257
  · exact w_258
  · exact w_182) w_259, by decide, by decide, by decide +kernel⟩
theorem gw_P_23 : gWV "PaneScreen$Pane" 23 y_P_putPen b_P_putPen 3 none 2 := ⟨gGood TW_good (fun w hw => by
  simp only [List.mem_cons, List.not_mem_nil, or_false] at hw
  rcases hw with rfl | rfl | rfl | rfl
  · exact w_260
  · exact w_261
  · exact w_262
  · exact w_263) w_264, by decide, by decide, by decide +kernel⟩
theorem gw_P_39 : gWV "PaneScreen$Pane" 39 y_P_has b_P_has 3 (some .boolean) 2 := ⟨gGood TW_good (fun w hw => by
  simp only [List.mem_cons, List.not_mem_nil, or_false] at hw
  rcases hw with rfl | rfl | rfl | rfl
  · exact w_265
  · exact w_266
  · exact w_267
  · exact w_263) w_268, by decide, by decide, by decide +kernel⟩
theorem gw_S_55 : gWS "PaneScreen" 55 y_S_requireNear b_S_requireNear 2 none 2 := ⟨gGood TW_good (fun w hw => by
  simp only [List.mem_cons, List.not_mem_nil, or_false] at hw
  rcases hw with rfl | rfl | rfl
  · exact w_269
  · exact w_270
  · exact w_271) w_272, by decide, by decide, by decide +kernel⟩
theorem gw_S_59 : gWS "PaneScreen" 59 y_S_requireSize b_S_requireSize 2 none 2 := ⟨gGood TW_good (fun w hw => by
  simp only [List.mem_cons, List.not_mem_nil, or_false] at hw
  rcases hw with rfl | rfl | rfl
  · exact w_273
  · exact w_274
  · exact w_271) w_275, by decide, by decide, by decide +kernel⟩
theorem gw_S_62 : gWV "PaneScreen" 62 y_S_leastClosed b_S_leastClosed 2 (some .int) 0 := ⟨gGood TW_good (fun w hw => by
  simp only [List.mem_cons, List.not_mem_nil, or_false] at hw
  rcases hw with rfl | rfl | rfl | rfl
  · exact w_276
  · exact w_277
  · exact w_278
  · exact w_271) w_279, by decide, by decide, by decide +kernel⟩
theorem gw_S_66 : gWV "PaneScreen" 66 y_T_firstFree b_T_firstFree 4 (some .int) 1 := ⟨gGood TW_good (fun w hw => by
  simp only [List.mem_cons, List.not_mem_nil, or_false] at hw
  rcases hw with rfl | rfl | rfl | rfl
  · exact w_280
  · exact w_281
  · exact w_282
  · exact w_283) w_284, by decide, by decide, by decide +kernel⟩
theorem gw_S_73 : gWV "PaneScreen" 73 y_T_take b_T_take 4 none 2 := ⟨gGood TW_good (fun w hw => by
  simp only [List.mem_cons, List.not_mem_nil, or_false] at hw
  rcases hw with rfl | rfl | rfl | rfl
  · exact w_285
  · exact w_286
  · exact w_287
  · exact w_283) w_288, by decide, by decide, by decide +kernel⟩
theorem gw_S_76 : gWV "PaneScreen" 76 y_P_begin b_P_begin 4 none 3 := ⟨gGood TW_good (fun w hw => by
  simp only [List.mem_cons, List.not_mem_nil, or_false] at hw
  rcases hw with rfl | rfl | rfl | rfl
  · exact w_289
  · exact w_290
  · exact w_291
  · exact w_263) w_292, by decide, by decide, by decide +kernel⟩
theorem gw_S_80 : gWV "PaneScreen" 80 y_P_place b_P_place 3 none 2 := ⟨gGood TW_good (fun w hw => by
  simp only [List.mem_cons, List.not_mem_nil, or_false] at hw
  rcases hw with rfl | rfl | rfl | rfl
  · exact w_293
  · exact w_294
  · exact w_295
  · exact w_263) w_296, by decide, by decide, by decide +kernel⟩
theorem gw_S_83 : gWV "PaneScreen" 83 y_O_addInFront b_O_addInFront 3 none 1 := ⟨gGood TW_good (fun w hw => by
  simp only [List.mem_cons, List.not_mem_nil, or_false] at hw
  rcases hw with rfl | rfl | rfl | rfl
  · exact w_297
  · exact w_298
  · exact w_299
  · exact w_300) w_301, by decide, by decide, by decide +kernel⟩
theorem gw_S_87 : gWV "PaneScreen" 87 y_S_damageFrame b_S_damageFrame 2 none 1 := ⟨gGood TW_good (fun w hw => by
  simp only [List.mem_cons, List.not_mem_nil, or_false] at hw
  rcases hw with rfl | rfl | rfl | rfl
  · exact w_302
  · exact w_303
  · exact w_304
  · exact w_271) w_305, by decide, by decide, by decide +kernel⟩
theorem gw_S_91 : gWV "PaneScreen" 91 y_S_openPane b_S_openPane 2 (some (.object "PaneScreen$Pane")) 1 := ⟨gGood TW_good (fun w hw => by
  simp only [List.mem_cons, List.not_mem_nil, or_false] at hw
  rcases hw with rfl | rfl | rfl | rfl
  · exact w_306
  · exact w_307
  · exact w_308
  · exact w_271) w_309, by decide, by decide, by decide +kernel⟩
theorem gw_S_104 : gWV "PaneScreen" 104 y_T_release b_T_release 4 none 2 := ⟨gGood TW_good (fun w hw => by
  simp only [List.mem_cons, List.not_mem_nil, or_false] at hw
  rcases hw with rfl | rfl | rfl | rfl
  · exact w_310
  · exact w_311
  · exact w_312
  · exact w_283) w_313, by decide, by decide, by decide +kernel⟩
theorem gw_S_107 : gWV "PaneScreen" 107 y_P_end b_P_end 1 none 0 := ⟨gGood TW_good (fun w hw => by
  simp only [List.mem_cons, List.not_mem_nil, or_false] at hw
  rcases hw with rfl | rfl | rfl | rfl
  · exact w_314
  · exact w_315
  · exact w_316
  · exact w_263) w_317, by decide, by decide, by decide +kernel⟩
theorem gw_S_110 : gWV "PaneScreen" 110 y_O_remove b_O_remove 4 none 1 := ⟨gGood TW_good (fun w hw => by
  simp only [List.mem_cons, List.not_mem_nil, or_false] at hw
  rcases hw with rfl | rfl | rfl | rfl
  · exact w_318
  · exact w_319
  · exact w_320
  · exact w_300) w_321, by decide, by decide, by decide +kernel⟩
theorem gw_S_113 : gWV "PaneScreen" 113 y_E_removeAllOf b_E_removeAllOf 4 none 1 := ⟨gGood TW_good (fun w hw => by
  simp only [List.mem_cons, List.not_mem_nil, or_false] at hw
  rcases hw with rfl | rfl | rfl | rfl
  · exact w_322
  · exact w_323
  · exact w_324
  · exact w_177) w_325, by decide, by decide, by decide +kernel⟩
theorem gw_S_116 : gWV "PaneScreen" 116 y_O_first b_O_first 1 (some .int) 0 := ⟨gGood TW_good (fun w hw => by
  simp only [List.mem_cons, List.not_mem_nil, or_false] at hw
  rcases hw with rfl | rfl | rfl | rfl
  · exact w_326
  · exact w_327
  · exact w_328
  · exact w_300) w_329, by decide, by decide, by decide +kernel⟩
theorem gw_S_119 : gWV "PaneScreen" 119 y_S_reorder b_S_reorder 5 (some .boolean) 3 := ⟨gGood TW_good (fun w hw => by
  simp only [List.mem_cons, List.not_mem_nil, or_false] at hw
  rcases hw with rfl | rfl | rfl | rfl
  · exact w_330
  · exact w_331
  · exact w_332
  · exact w_271) w_333, by decide, by decide, by decide +kernel⟩
theorem gw_S_123 : gWS "PaneScreen" 123 y_S_requireColour b_S_requireColour 1 none 1 := ⟨gGood TW_good (fun w hw => by
  simp only [List.mem_cons, List.not_mem_nil, or_false] at hw
  rcases hw with rfl | rfl | rfl
  · exact w_334
  · exact w_335
  · exact w_271) w_336, by decide, by decide, by decide +kernel⟩
theorem gw_S_126 : gWV "PaneScreen" 126 y_P_has b_P_has 3 (some .boolean) 2 := ⟨gGood TW_good (fun w hw => by
  simp only [List.mem_cons, List.not_mem_nil, or_false] at hw
  rcases hw with rfl | rfl | rfl | rfl
  · exact w_337
  · exact w_266
  · exact w_267
  · exact w_263) w_268, by decide, by decide, by decide +kernel⟩
theorem gw_S_133 : gWV "PaneScreen" 133 y_P_cell b_P_cell 3 (some .int) 2 := ⟨gGood TW_good (fun w hw => by
  simp only [List.mem_cons, List.not_mem_nil, or_false] at hw
  rcases hw with rfl | rfl | rfl | rfl
  · exact w_338
  · exact w_339
  · exact w_340
  · exact w_263) w_341, by decide, by decide, by decide +kernel⟩
theorem gw_S_137 : gWV "PaneScreen" 137 y_S_damagePart b_S_damagePart 6 none 5 := ⟨gGood TW_good (fun w hw => by
  simp only [List.mem_cons, List.not_mem_nil, or_false] at hw
  rcases hw with rfl | rfl | rfl | rfl
  · exact w_342
  · exact w_343
  · exact w_344
  · exact w_271) w_345, by decide, by decide, by decide +kernel⟩
theorem gw_S_141 : gWS "PaneScreen" 141 y_S_requireExtent b_S_requireExtent 1 none 1 := ⟨gGood TW_good (fun w hw => by
  simp only [List.mem_cons, List.not_mem_nil, or_false] at hw
  rcases hw with rfl | rfl | rfl
  · exact w_346
  · exact w_347
  · exact w_271) w_348, by decide, by decide, by decide +kernel⟩
theorem gw_S_152 : gWV "PaneScreen" 152 y_P_putPen b_P_putPen 3 none 2 := ⟨gGood TW_good (fun w hw => by
  simp only [List.mem_cons, List.not_mem_nil, or_false] at hw
  rcases hw with rfl | rfl | rfl | rfl
  · exact w_349
  · exact w_261
  · exact w_262
  · exact w_263) w_264, by decide, by decide, by decide +kernel⟩
theorem gw_S_155 : gWV "PaneScreen" 155 y_S_drawFromPen b_S_drawFromPen 16 (some .int) 4 := ⟨gGood TW_good (fun w hw => by
  simp only [List.mem_cons, List.not_mem_nil, or_false] at hw
  rcases hw with rfl | rfl | rfl | rfl
  · exact w_350
  · exact w_351
  · exact w_352
  · exact w_271) w_353, by decide, by decide, by decide +kernel⟩
theorem gw_S_159 : gWV "PaneScreen" 159 y_T_keepOld b_T_keepOld 1 none 0 := ⟨gGood TW_good (fun w hw => by
  simp only [List.mem_cons, List.not_mem_nil, or_false] at hw
  rcases hw with rfl | rfl | rfl | rfl
  · exact w_354
  · exact w_355
  · exact w_356
  · exact w_283) w_357, by decide, by decide, by decide +kernel⟩
theorem gw_S_165 : gWV "PaneScreen" 165 y_D_holds b_D_holds 4 (some .boolean) 2 := ⟨gGood TW_good (fun w hw => by
  simp only [List.mem_cons, List.not_mem_nil, or_false] at hw
  rcases hw with rfl | rfl | rfl | rfl
  · exact w_358
  · exact w_359
  · exact w_360
  · exact w_168) w_361, by decide, by decide, by decide +kernel⟩
theorem gw_S_168 : gWV "PaneScreen" 168 y_S_colourBelow b_S_colourBelow 5 (some .int) 2 := ⟨gGood TW_good (fun w hw => by
  simp only [List.mem_cons, List.not_mem_nil, or_false] at hw
  rcases hw with rfl | rfl | rfl | rfl
  · exact w_362
  · exact w_363
  · exact w_364
  · exact w_271) w_365, by decide, by decide, by decide +kernel⟩
theorem gw_S_171 : gWV "PaneScreen" 171 y_D_forget b_D_forget 1 none 0 := ⟨gGood TW_good (fun w hw => by
  simp only [List.mem_cons, List.not_mem_nil, or_false] at hw
  rcases hw with rfl | rfl | rfl | rfl
  · exact w_366
  · exact w_367
  · exact w_368
  · exact w_168) w_369, by decide, by decide, by decide +kernel⟩
theorem gw_S_174 : gWS "PaneScreen" 174 y_S_requireOnScreen b_S_requireOnScreen 2 none 2 := ⟨gGood TW_good (fun w hw => by
  simp only [List.mem_cons, List.not_mem_nil, or_false] at hw
  rcases hw with rfl | rfl | rfl
  · exact w_370
  · exact w_371
  · exact w_271) w_372, by decide, by decide, by decide +kernel⟩
theorem gw_S_180 : gWV "PaneScreen" 180 y_S_ownerOf b_S_ownerOf 5 (some .int) 2 := ⟨gGood TW_good (fun w hw => by
  simp only [List.mem_cons, List.not_mem_nil, or_false] at hw
  rcases hw with rfl | rfl | rfl | rfl
  · exact w_373
  · exact w_374
  · exact w_375
  · exact w_271) w_376, by decide, by decide, by decide +kernel⟩
theorem gw_S_183 : gWV "PaneScreen" 183 y_S_giveFocus b_S_giveFocus 2 none 1 := ⟨gGood TW_good (fun w hw => by
  simp only [List.mem_cons, List.not_mem_nil, or_false] at hw
  rcases hw with rfl | rfl | rfl | rfl
  · exact w_377
  · exact w_378
  · exact w_379
  · exact w_271) w_380, by decide, by decide, by decide +kernel⟩
theorem gw_S_192 : gWV "PaneScreen" 192 y_E_tell b_E_tell 5 none 4 := ⟨gGood TW_good (fun w hw => by
  simp only [List.mem_cons, List.not_mem_nil, or_false] at hw
  rcases hw with rfl | rfl | rfl | rfl
  · exact w_381
  · exact w_382
  · exact w_383
  · exact w_177) w_384, by decide, by decide, by decide +kernel⟩
theorem gw_S_202 : gWV "PaneScreen" 202 y_E_takeFirst b_E_takeFirst 2 none 0 := ⟨gGood TW_good (fun w hw => by
  simp only [List.mem_cons, List.not_mem_nil, or_false] at hw
  rcases hw with rfl | rfl | rfl | rfl
  · exact w_385
  · exact w_386
  · exact w_387
  · exact w_177) w_388, by decide, by decide, by decide +kernel⟩
theorem gw_S_221 : gWV "PaneScreen" 221 y_T_freeCells b_T_freeCells 3 (some .int) 0 := ⟨gGood TW_good (fun w hw => by
  simp only [List.mem_cons, List.not_mem_nil, or_false] at hw
  rcases hw with rfl | rfl | rfl | rfl
  · exact w_389
  · exact w_390
  · exact w_391
  · exact w_283) w_392, by decide, by decide, by decide +kernel⟩
theorem gw_S_224 : gWV "PaneScreen" 224 y_T_longestFree b_T_longestFree 4 (some .int) 0 := ⟨gGood TW_good (fun w hw => by
  simp only [List.mem_cons, List.not_mem_nil, or_false] at hw
  rcases hw with rfl | rfl | rfl | rfl
  · exact w_393
  · exact w_394
  · exact w_395
  · exact w_283) w_396, by decide, by decide, by decide +kernel⟩
theorem gw_S_238 : gWV "PaneScreen" 238 y_P_covers b_P_covers 3 (some .boolean) 2 := ⟨gGood TW_good (fun w hw => by
  simp only [List.mem_cons, List.not_mem_nil, or_false] at hw
  rcases hw with rfl | rfl | rfl | rfl
  · exact w_397
  · exact w_398
  · exact w_399
  · exact w_263) w_400, by decide, by decide, by decide +kernel⟩
theorem gw_S_241 : gWV "PaneScreen" 241 y_D_add b_D_add 9 none 4 := ⟨gGood TW_good (fun w hw => by
  simp only [List.mem_cons, List.not_mem_nil, or_false] at hw
  rcases hw with rfl | rfl | rfl | rfl
  · exact w_401
  · exact w_402
  · exact w_403
  · exact w_168) w_404, by decide, by decide, by decide +kernel⟩
theorem gw_S_244 : gWV "PaneScreen" 244 y_O_last b_O_last 1 (some .int) 0 := ⟨gGood TW_good (fun w hw => by
  simp only [List.mem_cons, List.not_mem_nil, or_false] at hw
  rcases hw with rfl | rfl | rfl | rfl
  · exact w_405
  · exact w_406
  · exact w_407
  · exact w_300) w_408, by decide, by decide, by decide +kernel⟩
theorem gw_S_247 : gWV "PaneScreen" 247 y_O_addBehind b_O_addBehind 2 none 1 := ⟨gGood TW_good (fun w hw => by
  simp only [List.mem_cons, List.not_mem_nil, or_false] at hw
  rcases hw with rfl | rfl | rfl | rfl
  · exact w_409
  · exact w_410
  · exact w_411
  · exact w_300) w_412, by decide, by decide, by decide +kernel⟩
theorem gw_S_259 : gWS "PaneScreen" 259 y_S_stepped b_S_stepped 3 (some .int) 3 := ⟨gGood TW_good (fun w hw => by
  simp only [List.mem_cons, List.not_mem_nil, or_false] at hw
  rcases hw with rfl | rfl | rfl
  · exact w_413
  · exact w_414
  · exact w_271) w_415, by decide, by decide, by decide +kernel⟩
theorem gw_S_263 : gWS "PaneScreen" 263 y_J_floorDiv b_J_floorDiv 3 (some .int) 2 := ⟨gGood TW_good (fun w hw => by
  simp only [List.mem_cons, List.not_mem_nil, or_false] at hw
  rcases hw with rfl | rfl | rfl
  · exact w_416
  · exact w_417
  · exact w_418) w_419, by decide, by decide, by decide +kernel⟩
theorem gm_D_24 : Cond.methodLink "PaneScreen$Damage" 24 Lib.Math.max.name ∈ TW := w_420
theorem gm_D_30 : Cond.methodLink "PaneScreen$Damage" 30 Lib.Math.min.name ∈ TW := w_421
theorem gm_S_144 : Cond.methodLink "PaneScreen" 144 Lib.Math.max.name ∈ TW := w_422
theorem gm_S_149 : Cond.methodLink "PaneScreen" 149 Lib.Math.min.name ∈ TW := w_423
theorem gm_S_256 : Cond.methodLink "PaneScreen" 256 Lib.Math.abs.name ∈ TW := w_424
theorem gm_T_28 : Cond.methodLink "PaneScreen$Store" 28 Lib.Math.max.name ∈ TW := w_425
theorem gms_abs : Cond.static Lib.Math.abs.name ∈ TW := w_426
theorem gmc_abs : Cond.code Lib.Math.abs.name Lib.Math.abs.code 1 (some .int) ∈ TW := w_427
theorem gms_max : Cond.static Lib.Math.max.name ∈ TW := w_428
theorem gmc_max : Cond.code Lib.Math.max.name Lib.Math.max.code 2 (some .int) ∈ TW := w_429
theorem gms_min : Cond.static Lib.Math.min.name ∈ TW := w_430
theorem gmc_min : Cond.code Lib.Math.min.name Lib.Math.min.code 2 (some .int) ∈ TW := w_431
theorem gmi : Cond.initialized "java/lang/Math" ∈ TW := w_418
theorem ga_T_22 : Cond.methodLink "PaneScreen$Store" 22 arraycopyName ∈ TW := w_432
theorem gan : Cond.native arraycopyName ∈ TW := w_433
theorem gas : Cond.static arraycopyName ∈ TW := w_434
theorem gai : Cond.initialized "java/lang/System" ∈ TW := w_435
set_option maxRecDepth 100000 in
theorem gt_S_70 : gTh "PaneScreen" 70 72 "java/lang/IllegalStateException" := ⟨by decide, by decide +kernel, by decide +kernel, w_436, w_437, by decide +kernel, by decide +kernel, by decide +kernel⟩
set_option maxRecDepth 100000 in
theorem gt_S_177 : gTh "PaneScreen" 177 179 "java/lang/IndexOutOfBoundsException" := ⟨by decide, by decide +kernel, by decide +kernel, w_438, w_439, by decide +kernel, by decide +kernel, by decide +kernel⟩
set_option maxRecDepth 100000 in
theorem gt_S_199 : gTh "PaneScreen" 199 201 "java/util/NoSuchElementException" := ⟨by decide, by decide +kernel, by decide +kernel, w_440, w_441, by decide +kernel, by decide +kernel, by decide +kernel⟩
set_option maxRecDepth 100000 in
theorem gt_S_217 : gTh "PaneScreen" 217 219 "java/lang/IllegalArgumentException" := ⟨by decide, by decide +kernel, by decide +kernel, w_442, w_443, by decide +kernel, by decide +kernel, by decide +kernel⟩
end
