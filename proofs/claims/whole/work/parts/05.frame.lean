/-! Memory over a fixed shape; the judgement GG. -/
section GJ
abbrev Mem : Type := Nat → Nat → Int32
def m2 (σ : Mem) (q f : Nat) (v : Int32) : Mem := fun j => if j = q then upd (σ q) f v else σ j
theorem m2_self (σ : Mem) (q f : Nat) (v : Int32) : m2 σ q f v q = upd (σ q) f v := by simp [m2]
theorem m2_ne (σ : Mem) {q j : Nat} (f : Nat) (v : Int32) (h : j ≠ q) : m2 σ q f v j = σ j := by simp [m2, h]
/-- an index that is in range -/
def gin (i : Int32) (N : Nat) : Bool := !(decide (i < 0) || decide (N ≤ i.toNatClampNeg))
theorem gin_in {i : Int32} {N : Nat} (h : gin i N = true) : vp_in i N := by
  unfold gin at h; unfold vp_in; simpa using h
def gb {ρ : Type} (o : Option (Int32 × Mem)) (k : Int32 → Mem → Option ρ) : Option ρ := match o with
  | none => none
  | some x => k x.1 x.2
def gbv {ρ : Type} (o : Option Mem) (k : Mem → Option ρ) : Option ρ := match o with
  | none => none
  | some x => k x
def gbx {α ρ : Type} (o : Option ((α ⊕ String) × Mem)) (k : α → Mem → Option ρ) (kx : String → Mem → Option ρ) : Option ρ := match o with
  | none => none
  | some (.inl a, u) => k a u
  | some (.inr E, u) => kx E u
def gbi {ρ : Type} (e : Int32) (k : Int32 → Option ρ) : Option ρ := k e
def gbm {ρ : Type} (σ : Mem) (k : Mem → Option ρ) : Option ρ := k σ
def gbn {ρ : Type} (q : Nat) (k : Nat → Option ρ) : Option ρ := k q
def gfix {γ : Type} (z : γ) (F : γ → γ) : Nat → γ
  | 0 => z
  | n + 1 => F (gfix z F n)
abbrev GC : Type := Program × Launch × Env × Room × State × MethodId × Array Value × List Frame × Method × Code
abbrev GA : Type := va_G × (Nat → Nat) × Nat × (Nat → ClassId)
def gA (Γ : GA) : Nat → Prop := fun q => Γ.2.2.1 ≤ q
def gty (q : Nat) : FieldType := match gSh[q]? with
  | some (2, _, _) => .boolean
  | some (3, _, _) => .long
  | some (4, _, _) => .object "PaneScreen$Pane"
  | _ => .int
def gai (q : Nat) : Nat := match gSh[q]? with
  | some (0, _, _) => 1
  | _ => q
def gT (Γ : GA) : List (ClassId × FieldType) := (List.range gSh.length).map (fun q => (Γ.2.2.2 (gai q), gty q))
theorem gT_at (Γ : GA) {q : Nat} (h : q < gSh.length) : (gT Γ)[q]? = some (Γ.2.2.2 (gai q), gty q) := by
  simp [gT, List.getElem?_map, List.getElem?_range h]
def gfv (ad : Nat → Nat) (g : Nat → Int32) : Nat → List Nat → List Value
  | _, [] => []
  | k, 0 :: t => .int (g k) :: gfv ad g (k + 1) t
  | k, (p + 1) :: t => .ref (ad p) :: gfv ad g (k + 1) t
theorem gfv_len (ad : Nat → Nat) (g : Nat → Int32) : ∀ (fl : List Nat) (k : Nat), (gfv ad g k fl).length = fl.length
  | [], _ => rfl
  | 0 :: t, k => by simp [gfv, gfv_len ad g t (k + 1)]
  | (p + 1) :: t, k => by simp [gfv, gfv_len ad g t (k + 1)]
theorem gfv_get (ad : Nat → Nat) (g : Nat → Int32) : ∀ (fl : List Nat) (k f : Nat), fl[f]? = some 0 → (gfv ad g k fl)[f]? = some (.int (g (k + f)))
  | [], _, _, h => by simp at h
  | 0 :: t, k, 0, _ => by simp [gfv]
  | (p + 1) :: t, k, 0, h => by simp at h
  | 0 :: t, k, f + 1, h => by
    have h' : t[f]? = some 0 := by simpa using h
    have := gfv_get ad g t (k + 1) f h'
    simp only [gfv, List.getElem?_cons_succ, this]; congr 2; congr 1; omega
  | (p + 1) :: t, k, f + 1, h => by
    have h' : t[f]? = some 0 := by simpa using h
    have := gfv_get ad g t (k + 1) f h'
    simp only [gfv, List.getElem?_cons_succ, this]; congr 2; congr 1; omega
theorem gfv_ref (ad : Nat → Nat) (g : Nat → Int32) {q : Nat} : ∀ (fl : List Nat) (k f : Nat), fl[f]? = some (q + 1) → (gfv ad g k fl)[f]? = some (.ref (ad q))
  | [], _, _, h => by simp at h
  | 0 :: t, k, 0, h => by simp at h
  | (p + 1) :: t, k, 0, h => by
    have h' : p = q := by simpa using h
    subst h'; simp [gfv]
  | 0 :: t, k, f + 1, h => by
    have h' : t[f]? = some (q + 1) := by simpa using h
    simp only [gfv, List.getElem?_cons_succ, gfv_ref ad g t (k + 1) f h']
  | (p + 1) :: t, k, f + 1, h => by
    have h' : t[f]? = some (q + 1) := by simpa using h
    simp only [gfv, List.getElem?_cons_succ, gfv_ref ad g t (k + 1) f h']
theorem gfv_ext (ad : Nat → Nat) (g g' : Nat → Int32) : ∀ (fl : List Nat) (k : Nat), (∀ j, k ≤ j → g j = g' j) → gfv ad g k fl = gfv ad g' k fl
  | [], _, _ => rfl
  | 0 :: t, k, h => by simp only [gfv]; rw [h k (Nat.le_refl k), gfv_ext ad g g' t (k + 1) (fun j hj => h j (by omega))]
  | (p + 1) :: t, k, h => by simp only [gfv]; rw [gfv_ext ad g g' t (k + 1) (fun j hj => h j (by omega))]
theorem gfv_set (ad : Nat → Nat) (v : Int32) : ∀ (fl : List Nat) (g : Nat → Int32) (k f : Nat), fl[f]? = some 0 → (gfv ad g k fl).set f (.int v) = gfv ad (upd g (k + f) v) k fl
  | [], _, _, _, h => by simp at h
  | 0 :: t, g, k, 0, _ => by
    show Value.int v :: gfv ad g (k + 1) t = Value.int (upd g k v k) :: gfv ad (upd g k v) (k + 1) t
    rw [gfv_ext ad g (upd g k v) t (k + 1) (fun j hj => by simp [upd, show j ≠ k by omega])]
    simp [upd]
  | (p + 1) :: t, g, k, 0, h => by simp at h
  | 0 :: t, g, k, f + 1, h => by
    have h' : t[f]? = some 0 := by simpa using h
    simp only [gfv, List.set_cons_succ, gfv_set ad v t g (k + 1) f h', show k + 1 + f = k + (f + 1) by omega]
    simp [upd]
  | (p + 1) :: t, g, k, f + 1, h => by
    have h' : t[f]? = some 0 := by simpa using h
    simp only [gfv, List.set_cons_succ, gfv_set ad v t g (k + 1) f h', show k + 1 + f = k + (f + 1) by omega]
/-- the cell at place q -/
def gce (Γ : GA) (σ : Mem) (q : Nat) : va_E := match gSh[q]? with
  | some (0, ci, fl) => .inr (ci, gfv Γ.2.1 (σ q) 0 fl)
  | some (1, n, _) => .inl (Γ.2.2.2 q, n, .inl (σ q))
  | some (2, n, _) => .inl (Γ.2.2.2 q, n, .inl (σ q))
  | some (3, n, _) => .inl (Γ.2.2.2 q, n, .inr (.inl (fun i => (σ q i).toInt64)))
  | some (_, n, _) => .inl (Γ.2.2.2 q, n, .inr (.inr (.inr (.inr (fun i => some (Γ.2.1 (gPB + i)))))))
  | none => .inr (0, [])
def gwd (Γ : GA) (σ : Mem) : va_W := (List.range gSh.length).map (fun q => (Γ.2.1 q, gce Γ σ q))
theorem gwd_at (Γ : GA) (σ : Mem) {q : Nat} (h : q < gSh.length) : (gwd Γ σ)[q]? = some (Γ.2.1 q, gce Γ σ q) := by
  simp [gwd, List.getElem?_map, List.getElem?_range h]
theorem gwd_len (Γ : GA) (σ : Mem) : (gwd Γ σ).length = gSh.length := by simp [gwd]
theorem gsh_lt {q : Nat} {e : Nat × Nat × List Nat} (h : gSh[q]? = some e) : q < gSh.length := by
  rcases Nat.lt_or_ge q gSh.length with h1 | h1
  · exact h1
  · rw [List.getElem?_eq_none h1] at h; cases h
theorem gT_1 (Γ : GA) {q n : Nat} {fl : List Nat} (h : gSh[q]? = some (1, n, fl)) : (gT Γ)[q]? = some (Γ.2.2.2 q, .int) := by rw [gT_at Γ (gsh_lt h)]; simp only [gai, gty, h]
theorem gT_2 (Γ : GA) {q n : Nat} {fl : List Nat} (h : gSh[q]? = some (2, n, fl)) : (gT Γ)[q]? = some (Γ.2.2.2 q, .boolean) := by rw [gT_at Γ (gsh_lt h)]; simp only [gai, gty, h]
theorem gT_3 (Γ : GA) {q n : Nat} {fl : List Nat} (h : gSh[q]? = some (3, n, fl)) : (gT Γ)[q]? = some (Γ.2.2.2 q, .long) := by rw [gT_at Γ (gsh_lt h)]; simp only [gai, gty, h]
theorem gT_4 (Γ : GA) {q n : Nat} {fl : List Nat} (h : gSh[q]? = some (4, n, fl)) : (gT Γ)[q]? = some (Γ.2.2.2 q, .object "PaneScreen$Pane") := by rw [gT_at Γ (gsh_lt h)]; simp only [gai, gty, h]
theorem gwd_set (Γ : GA) {σ σ' : Mem} {q : Nat} {e : va_E} (hq : q < gSh.length) (h1 : gce Γ σ' q = e) (h2 : ∀ j, j ≠ q → σ' j = σ j) : (gwd Γ σ).set q (Γ.2.1 q, e) = gwd Γ σ' := by
  apply List.ext_getElem?
  intro i
  by_cases hi : i = q
  · subst hi
    rw [List.getElem?_set_self (by rw [gwd_len]; exact hq), gwd_at Γ σ' hq, h1]
  · rw [List.getElem?_set_ne (Ne.symm hi)]
    rcases Nat.lt_or_ge i gSh.length with hl | hl
    · rw [gwd_at Γ σ hl, gwd_at Γ σ' hl]
      have : gce Γ σ' i = gce Γ σ i := by simp only [gce, h2 i hi]
      rw [this]
    · rw [List.getElem?_eq_none (by rw [gwd_len]; exact hl), List.getElem?_eq_none (by rw [gwd_len]; exact hl)]
theorem gce0 (Γ : GA) (σ : Mem) {q ci : Nat} {fl : List Nat} (h : gSh[q]? = some (0, ci, fl)) : gce Γ σ q = .inr (ci, gfv Γ.2.1 (σ q) 0 fl) := by simp only [gce, h]
theorem gce1 (Γ : GA) (σ : Mem) {q n : Nat} {fl : List Nat} (h : gSh[q]? = some (1, n, fl)) : gce Γ σ q = .inl (Γ.2.2.2 q, n, .inl (σ q)) := by simp only [gce, h]
theorem gce2 (Γ : GA) (σ : Mem) {q n : Nat} {fl : List Nat} (h : gSh[q]? = some (2, n, fl)) : gce Γ σ q = .inl (Γ.2.2.2 q, n, .inl (σ q)) := by simp only [gce, h]
theorem gce3 (Γ : GA) (σ : Mem) {q n : Nat} {fl : List Nat} (h : gSh[q]? = some (3, n, fl)) : gce Γ σ q = .inl (Γ.2.2.2 q, n, .inr (.inl (fun i => (σ q i).toInt64))) := by simp only [gce, h]
theorem gce4 (Γ : GA) (σ : Mem) {q n : Nat} {fl : List Nat} (h : gSh[q]? = some (4, n, fl)) : gce Γ σ q = .inl (Γ.2.2.2 q, n, .inr (.inr (.inr (.inr (fun i => some (Γ.2.1 (gPB + i))))))) := by simp only [gce, h]
/-- words of a throw that a warmed state keeps, though they are no good words -/
def gDec : List MethodName := [⟨"java/lang/RuntimeException", "<init>", "()V"⟩, ⟨"java/lang/Exception", "<init>", "()V"⟩, ⟨"java/lang/Throwable", "<init>", "()V"⟩]
def gExc : List String := ["java/lang/IllegalArgumentException", "java/lang/IllegalStateException", "java/util/NoSuchElementException", "java/lang/IndexOutOfBoundsException"]
def gNoC : List (String × String) := [("java/lang/IllegalStateException", "java/lang/IllegalArgumentException"), ("java/lang/IllegalArgumentException", "java/util/NoSuchElementException"), ("java/lang/IndexOutOfBoundsException", "java/util/NoSuchElementException"), ("java/lang/IllegalArgumentException", "java/lang/IllegalStateException")]
def gBad (U : State) : Prop := (∀ x ∈ gDec, va_Nw (.declares x) U) ∧ (∀ E ∈ gExc, va_Nw (.castable E E) U) ∧ ∀ z ∈ gNoC, va_Nc z.1 z.2 U
theorem gBad.moved {s U : State} (hA : s.vm.Alike U.vm) (h : gBad s) : gBad U :=
  ⟨fun x hx => va_tabs rfl (rfl : (s.setVm U.vm).vm = U.vm) (by rw [Cond.declares_setVm hA]; exact h.1 x hx), fun E hE => va_tabs rfl (rfl : (s.setVm U.vm).vm = U.vm) (by rw [Cond.castable_setVm hA]; exact h.2.1 E hE), fun z hz => va_Nc.moved hA (h.2.2 z hz)⟩
/-- the world at a state: the cells, apart and new; the classes; the two statics of Throwable -/
def gBW (Γ : GA) (σ : Mem) (U : State) : Prop := va_P Γ.1 gCl (gwd Γ σ) U.heap ∧ va_D (gA Γ) (gwd Γ σ) ∧ va_K Γ.1 gCl (gT Γ) U ∧ Γ.2.2.1 ≤ U.heap.size ∧ vx_Zq Bundle.tN "UNASSIGNED_STACK" Bundle.steD (gA Γ) U U.heap ∧ vx_Zq Bundle.tN "SUPPRESSED_SENTINEL" Bundle.listD (gA Γ) U U.heap ∧ gBad U
theorem gBW.blind {Γ : GA} {σ : Mem} {av : List Value} : FrameBlind (va_Pc av (gBW Γ σ)) := by
  intro a U g mk q
  obtain ⟨q0, qP, qD, qK, qs, qa, qb, qc⟩ := q
  exact ⟨q0, qP, qD, va_K.moved (u := U) (U := U.calling g mk a) (Vm.Alike.refl U.vm) qK, qs, vx_Zq.moved (u := U) (U := U.calling g mk a) (Vm.Alike.refl U.vm) qa, vx_Zq.moved (u := U) (U := U.calling g mk a) (Vm.Alike.refl U.vm) qb, gBad.moved (s := U) (U := U.calling g mk a) (Vm.Alike.refl U.vm) qc⟩
/-- locals: none where nothing is known -/
def gla : Nat → List (Option Value) → List (Nat × Value)
  | _, [] => []
  | k, none :: t => gla (k + 1) t
  | k, some v :: t => (k, v) :: gla (k + 1) t
theorem gla_mem : ∀ (lo : List (Option Value)) (k i : Nat) (v : Value), (i, v) ∈ gla k lo ↔ k ≤ i ∧ lo[i - k]? = some (some v)
  | [], k, i, v => by simp [gla]
  | none :: t, k, i, v => by
    rw [gla, gla_mem t (k + 1) i v]
    rcases Nat.lt_trichotomy i k with h | h | h
    · constructor
      · intro q; omega
      · intro q; omega
    · subst h; constructor
      · intro q; omega
      · intro q; simp at q
    · have : i - k = (i - (k + 1)) + 1 := by omega
      rw [this, List.getElem?_cons_succ]; constructor
      · intro q; exact ⟨by omega, q.2⟩
      · intro q; exact ⟨by omega, q.2⟩
  | some w :: t, k, i, v => by
    rw [gla, List.mem_cons, gla_mem t (k + 1) i v]
    rcases Nat.lt_trichotomy i k with h | h | h
    · constructor
      · rintro (q | q)
        · cases q; omega
        · omega
      · intro q; omega
    · subst h; simp only [Nat.sub_self, List.getElem?_cons_zero, Nat.le_refl, true_and, Option.some.injEq, Prod.mk.injEq]; constructor
      · rintro (q | q)
        · exact q.symm
        · omega
      · intro q; exact Or.inl q.symm
    · have : i - k = (i - (k + 1)) + 1 := by omega
      rw [this, List.getElem?_cons_succ]; constructor
      · rintro (q | q)
        · cases q; omega
        · exact ⟨by omega, q.2⟩
      · intro q; exact Or.inr ⟨by omega, q.2⟩
def gL (ls : Array Slot) (nL : Nat) (lo : List (Option Value)) : Prop := lv_has ls nL (gla 0 lo) ∧ ∀ x ∈ gla 0 lo, x.2.category = 1
def lget : List (Option Value) → Nat → Option Value
  | [], _ => none
  | v :: _, 0 => v
  | _ :: t, n + 1 => lget t n
theorem lget_at : ∀ (lo : List (Option Value)) (i : Nat) {v : Value}, lget lo i = some v → lo[i]? = some (some v)
  | [], _, _, h => by simp [lget] at h
  | x :: t, 0, v, h => by simp only [lget] at h; simp [h]
  | x :: t, n + 1, v, h => by simp only [lget] at h; simpa using lget_at t n h
theorem gL.at {ls : Array Slot} {nL : Nat} {lo : List (Option Value)} (h : gL ls nL lo) {i : Nat} {v : Value} (hi : lget lo i = some v) : ls[i]? = some (.val v) :=
  h.1.2.2 (i, v) ((gla_mem lo 0 i v).2 ⟨Nat.zero_le _, by simpa using lget_at lo i hi⟩)
def lset : List (Option Value) → Nat → Value → List (Option Value)
  | [], _, _ => []
  | _ :: t, 0, v => some v :: t
  | x :: t, n + 1, v => x :: lset t n v
theorem lset_eq : ∀ (lo : List (Option Value)) (i : Nat) (v : Value), lset lo i v = lo.set i (some v)
  | [], _, _ => rfl
  | _ :: _, 0, _ => rfl
  | x :: t, n + 1, v => by simp [lset, lset_eq t n v]
theorem gL.set {ls' : Array Slot} {nL : Nat} {lo lw : List (Option Value)} {i : Nat} {v : Value} (hc : v.category = 1) (hcs : ∀ x ∈ gla 0 lo, x.2.category = 1)
    (h : lv_has ls' nL ((i, v) :: (gla 0 lo).filter (fun q => !(q.1 == i) && !(q.1 + 1 == i && q.2.category == 2)))) (hw : lset lo i v = lw) : gL ls' nL lw := by
  subst hw
  have key : ∀ x ∈ gla 0 (lset lo i v), x = (i, v) ∨ (x ∈ gla 0 lo ∧ x.1 ≠ i) := by
    intro x hx
    obtain ⟨j, w⟩ := x
    have h1 := ((gla_mem _ 0 j w).1 hx).2
    rw [lset_eq, Nat.sub_zero, List.getElem?_set] at h1
    by_cases hj : i = j
    · subst hj
      simp only [if_true] at h1
      split at h1
      · left; cases h1; rfl
      · cases h1
    · rw [if_neg hj] at h1
      exact Or.inr ⟨(gla_mem _ 0 j w).2 ⟨Nat.zero_le _, by simpa using h1⟩, fun q => hj q.symm⟩
  refine ⟨⟨h.1, h.2.1, fun x hx => ?_⟩, fun x hx => ?_⟩
  · apply h.2.2
    rcases key x hx with q | ⟨q1, q2⟩
    · rw [q]; exact List.mem_cons_self
    · refine List.mem_cons_of_mem _ (List.mem_filter.2 ⟨q1, ?_⟩)
      have := hcs x q1
      simp [q2, this]
  · rcases key x hx with q | ⟨q1, q2⟩
    · rw [q]; exact hc
    · exact hcs x q1
/-- what is known of fewer locals -/
def lsub : List (Option Value) → List (Option Value) → Prop
  | [], _ => True
  | none :: t, [] => lsub t []
  | none :: t, _ :: t' => lsub t t'
  | some _ :: _, [] => False
  | some v :: t, x :: t' => x = some v ∧ lsub t t'
theorem lsub_at : ∀ (lw lo : List (Option Value)), lsub lw lo → ∀ (i : Nat) (v : Value), lw[i]? = some (some v) → lo[i]? = some (some v)
  | [], _, _, i, v, h => by simp at h
  | none :: t, [], hs, 0, v, h => by simp at h
  | none :: t, [], hs, i + 1, v, h => by
    have := lsub_at t [] hs i v (by simpa using h)
    simp at this
  | none :: t, _ :: t', hs, 0, v, h => by simp at h
  | none :: t, _ :: t', hs, i + 1, v, h => by
    have := lsub_at t t' hs i v (by simpa using h)
    simpa using this
  | some _ :: _, [], hs, _, _, _ => False.elim hs
  | some w :: t, x :: t', hs, 0, v, h => by
    have h' : w = v := by simpa using h
    simp [hs.1, h']
  | some w :: t, x :: t', hs, i + 1, v, h => by
    have := lsub_at t t' hs.2 i v (by simpa using h)
    simpa using this
theorem gL.sub {ls : Array Slot} {nL : Nat} {lo lw : List (Option Value)} (h : gL ls nL lo) (hs : lsub lw lo) : gL ls nL lw := by
  have key : ∀ x ∈ gla 0 lw, x ∈ gla 0 lo := by
    intro x hx
    obtain ⟨j, w⟩ := x
    have h1 := ((gla_mem _ 0 j w).1 hx).2
    exact (gla_mem _ 0 j w).2 ⟨Nat.zero_le _, lsub_at lw lo hs _ _ h1⟩
  exact ⟨⟨h.1.1, h.1.2.1, fun x hx => h.1.2.2 x (key x hx)⟩, fun x hx => h.2 x (key x hx)⟩

/-- what a walk keeps -/
def Gx (κ : GC) (Γ : GA) (nL : Nat) (cc : ByteArray) (own : String) (rm : Room) (rt : Option FieldType) : Prop :=
  κ.1.tables.exec = Jvm.exec ∧ κ.2.2.2.2.2.2.2.2.2.code = cc ∧ (∀ w ∈ TW, w.before κ.2.2.2.2.2.2.1 κ.2.2.2.2.1 = true) ∧ κ.2.2.2.2.1.vm.findClass own = some κ.2.2.2.2.2.1.cls ∧ va_K Γ.1 gCl (gT Γ) κ.2.2.2.2.1 ∧ Γ.2.2.1 ≤ κ.2.2.2.2.1.heap.size ∧ κ.2.2.2.2.2.2.2.2.2.maxLocals = nL ∧ κ.2.2.2.2.2.2.2.2.1.locks = false ∧ κ.2.2.2.1 = rm ∧ κ.2.2.2.2.2.2.2.2.1.sig.returnType = rt ∧ vx_Zq Bundle.tN "UNASSIGNED_STACK" Bundle.steD (gA Γ) κ.2.2.2.2.1 κ.2.2.2.2.1.heap ∧ vx_Zq Bundle.tN "SUPPRESSED_SENTINEL" Bundle.listD (gA Γ) κ.2.2.2.2.1 κ.2.2.2.2.1.heap ∧ gBad κ.2.2.2.2.1
def GG {ρ : Type} (κ : GC) (Γ : GA) (nL : Nat) (QF : Option ρ → State → Prop) (cells slots : Nat) (σ : Mem) (lo : List (Option Value)) (pc : Nat) (st : List Value) (o : Option ρ) : Prop :=
  o ≠ none → ∀ (H : Heap) (locs : List Loc) (ls : Array Slot), va_P Γ.1 gCl (gwd Γ σ) H → va_D (gA Γ) (gwd Γ σ) → va_S (gA Γ) κ.2.2.2.2.1.heap H locs → gL ls nL lo → W κ.1 κ.2.1 κ.2.2.1 κ.2.2.2.1 κ.2.2.2.2.1 κ.2.2.2.2.2.1 κ.2.2.2.2.2.2.1 κ.2.2.2.2.2.2.2.1 κ.2.2.2.2.2.2.2.2.1 κ.2.2.2.2.2.2.2.2.2 H locs cells slots (QF o) (F0 κ.2.2.2.2.2.1 pc ls st)
variable {ρ : Type} {κ : GC} {Γ : GA} {nL cells slots : Nat} {QF : Option ρ → State → Prop} {σ : Mem} {lo lw : List (Option Value)} {pc n : Nat} {rest : List Value} {o : Option ρ} {cc : ByteArray} {own : String} {rm : Room} {rt : Option FieldType}
theorem g_none {st : List Value} : GG κ Γ nL QF cells slots σ lo pc st none := fun h => absurd rfl h
theorem g_sub {st : List Value} (hs : lsub lw lo) (k : GG κ Γ nL QF cells slots σ lw pc st o) : GG κ Γ nL QF cells slots σ lo pc st o := fun h0 H locs ls hP hD hS hl => k h0 H locs ls hP hD hS (hl.sub hs)
theorem g_eq {st : List Value} {o' : Option ρ} (h : o' = o) (k : GG κ Γ nL QF cells slots σ lo pc st o') : GG κ Γ nL QF cells slots σ lo pc st o := h ▸ k
theorem g_top {e : Int32} {ok : Int32 → Option ρ} (k : ∀ x, GG κ Γ nL QF cells slots σ lo pc (.int x :: rest) (ok x)) : GG κ Γ nL QF cells slots σ lo pc (.int e :: rest) (gbi e ok) := k e
theorem g_mem {st : List Value} {ok : Mem → Option ρ} (k : ∀ u, GG κ Γ nL QF cells slots u lo pc st (ok u)) : GG κ Γ nL QF cells slots σ lo pc st (gbm σ ok) := k σ
theorem g_pane {st : List Value} {q : Nat} {dc : Decidable (gpn q = true)} (k : gPn q → GG κ Γ nL QF cells slots σ lo pc st o) : GG κ Γ nL QF cells slots σ lo pc st (@ite _ (gpn q = true) dc o none) := by
  by_cases h : gpn q = true
  · rw [if_pos h]; exact k (gpn_of h)
  · rw [if_neg h]; exact g_none
theorem g_widen {st : List Value} {c1 s1 : Nat} (h1 : cells ≤ c1) (h2 : slots ≤ s1) (k : GG κ Γ nL QF c1 s1 σ lo pc st o) : GG κ Γ nL QF cells slots σ lo pc st o := fun h0 H locs ls hP hD hS hl => W.widen h1 h2 (k h0 H locs ls hP hD hS hl)
theorem g_iconst (hX : Gx κ Γ nL cc own rm rt) {z : Int} (v : Int32) (hd : decode cc pc = .ok (.iconst z, 1)) (hn : pc + 1 = n) (hv : Int32.ofInt z = v) (k : GG κ Γ nL QF cells slots σ lo n (.int v :: rest) o) : GG κ Γ nL QF cells slots σ lo pc (rest) o := by
  subst hn; exact fun h0 H locs ls hP hD hS hl => lv_iconst hX.1 hX.2.1 hd hv (k h0 H locs ls hP hD hS hl)
theorem g_bipush (hX : Gx κ Γ nL cc own rm rt) {z : Int} (v : Int32) (hd : decode cc pc = .ok (.bipush z, 2)) (hn : pc + 2 = n) (hv : (Int8.ofInt z).toInt32 = v) (k : GG κ Γ nL QF cells slots σ lo n (.int v :: rest) o) : GG κ Γ nL QF cells slots σ lo pc (rest) o := by
  subst hn; exact fun h0 H locs ls hP hD hS hl => lv_bipush hX.1 hX.2.1 hd hv (k h0 H locs ls hP hD hS hl)
theorem g_sipush (hX : Gx κ Γ nL cc own rm rt) {z : Int} (v : Int32) (hd : decode cc pc = .ok (.sipush z, 3)) (hn : pc + 3 = n) (hv : (Int16.ofInt z).toInt32 = v) (k : GG κ Γ nL QF cells slots σ lo n (.int v :: rest) o) : GG κ Γ nL QF cells slots σ lo pc (rest) o := by
  subst hn; exact fun h0 H locs ls hP hD hS hl => lv_sipush hX.1 hX.2.1 hd hv (k h0 H locs ls hP hD hS hl)
theorem g_lconst (hX : Gx κ Γ nL cc own rm rt) {z : Fin 2} (v : Int64) (hd : decode cc pc = .ok (.lconst z, 1)) (hn : pc + 1 = n) (hv : Int64.ofNat (z : Nat) = v) (k : GG κ Γ nL QF cells slots σ lo n (.long v :: rest) o) : GG κ Γ nL QF cells slots σ lo pc (rest) o := by
  subst hn; exact fun h0 H locs ls hP hD hS hl => lv_lconst hX.1 hX.2.1 hd hv (k h0 H locs ls hP hD hS hl)
theorem g_iload (hX : Gx κ Γ nL cc own rm rt) {i : Nat} {x : Int32} (hd : decode cc pc = .ok (.iload i, 2)) (hn : pc + 2 = n) (hj : lget lo i = some (.int x)) (k : GG κ Γ nL QF cells slots σ lo n (.int x :: rest) o) : GG κ Γ nL QF cells slots σ lo pc (rest) o := by
  subst hn; exact fun h0 H locs ls hP hD hS hl => lv_iload hX.1 hX.2.1 hd (hl.at hj) (k h0 H locs ls hP hD hS hl)
theorem g_iload_n (hX : Gx κ Γ nL cc own rm rt) {k4 : Fin 4} (i : Nat) {x : Int32} (hd : decode cc pc = .ok (.iload_n k4, 1)) (hn : pc + 1 = n) (hi : (k4 : Nat) = i) (hj : lget lo i = some (.int x)) (k : GG κ Γ nL QF cells slots σ lo n (.int x :: rest) o) : GG κ Γ nL QF cells slots σ lo pc (rest) o := by
  subst hn; exact fun h0 H locs ls hP hD hS hl => lv_iload_n hX.1 hX.2.1 hd hi (hl.at hj) (k h0 H locs ls hP hD hS hl)
theorem g_istore (hX : Gx κ Γ nL cc own rm rt) {i : Nat} {x : Int32} (lw : List (Option Value)) (hd : decode cc pc = .ok (.istore i, 2)) (hn : pc + 2 = n)  (hi2 : i < nL) (hl2 : lset lo i (.int x) = lw) (k : GG κ Γ nL QF cells slots σ lw n rest o) : GG κ Γ nL QF cells slots σ lo pc (.int x :: rest) o := by
  subst hn; exact fun h0 H locs ls hP hD hS hl => lv_istore hX.1 hX.2.1 hd  hl.1 hi2 rfl (fun ls1 hl1 => k h0 H locs ls1 hP hD hS (gL.set rfl hl.2 hl1 hl2))
theorem g_istore_n (hX : Gx κ Γ nL cc own rm rt) {k4 : Fin 4} (i : Nat) {x : Int32} (lw : List (Option Value)) (hd : decode cc pc = .ok (.istore_n k4, 1)) (hn : pc + 1 = n) (hi : (k4 : Nat) = i) (hi2 : i < nL) (hl2 : lset lo i (.int x) = lw) (k : GG κ Γ nL QF cells slots σ lw n rest o) : GG κ Γ nL QF cells slots σ lo pc (.int x :: rest) o := by
  subst hn; exact fun h0 H locs ls hP hD hS hl => lv_istore_n hX.1 hX.2.1 hd hi hl.1 hi2 rfl (fun ls1 hl1 => k h0 H locs ls1 hP hD hS (gL.set rfl hl.2 hl1 hl2))
theorem g_aload (hX : Gx κ Γ nL cc own rm rt) {i : Nat} {x : Nat} (hd : decode cc pc = .ok (.aload i, 2)) (hn : pc + 2 = n) (hj : lget lo i = some (.ref x)) (k : GG κ Γ nL QF cells slots σ lo n (.ref x :: rest) o) : GG κ Γ nL QF cells slots σ lo pc (rest) o := by
  subst hn; exact fun h0 H locs ls hP hD hS hl => lv_aload hX.1 hX.2.1 hd (hl.at hj) (k h0 H locs ls hP hD hS hl)
theorem g_aload_n (hX : Gx κ Γ nL cc own rm rt) {k4 : Fin 4} (i : Nat) {x : Nat} (hd : decode cc pc = .ok (.aload_n k4, 1)) (hn : pc + 1 = n) (hi : (k4 : Nat) = i) (hj : lget lo i = some (.ref x)) (k : GG κ Γ nL QF cells slots σ lo n (.ref x :: rest) o) : GG κ Γ nL QF cells slots σ lo pc (rest) o := by
  subst hn; exact fun h0 H locs ls hP hD hS hl => lv_aload_n hX.1 hX.2.1 hd hi (hl.at hj) (k h0 H locs ls hP hD hS hl)
theorem g_astore (hX : Gx κ Γ nL cc own rm rt) {i : Nat} {x : Nat} (lw : List (Option Value)) (hd : decode cc pc = .ok (.astore i, 2)) (hn : pc + 2 = n)  (hi2 : i < nL) (hl2 : lset lo i (.ref x) = lw) (k : GG κ Γ nL QF cells slots σ lw n rest o) : GG κ Γ nL QF cells slots σ lo pc (.ref x :: rest) o := by
  subst hn; exact fun h0 H locs ls hP hD hS hl => lv_astore hX.1 hX.2.1 hd  hl.1 hi2 rfl (fun ls1 hl1 => k h0 H locs ls1 hP hD hS (gL.set rfl hl.2 hl1 hl2))
theorem g_astore_n (hX : Gx κ Γ nL cc own rm rt) {k4 : Fin 4} (i : Nat) {x : Nat} (lw : List (Option Value)) (hd : decode cc pc = .ok (.astore_n k4, 1)) (hn : pc + 1 = n) (hi : (k4 : Nat) = i) (hi2 : i < nL) (hl2 : lset lo i (.ref x) = lw) (k : GG κ Γ nL QF cells slots σ lw n rest o) : GG κ Γ nL QF cells slots σ lo pc (.ref x :: rest) o := by
  subst hn; exact fun h0 H locs ls hP hD hS hl => lv_astore_n hX.1 hX.2.1 hd hi hl.1 hi2 rfl (fun ls1 hl1 => k h0 H locs ls1 hP hD hS (gL.set rfl hl.2 hl1 hl2))
theorem gla_get {i : Nat} {v : Value} (h : lget lo i = some v) : ∃ j : Nat, (gla 0 lo)[j]? = some (i, v) := by
  have h1 : (i, v) ∈ gla 0 lo := (gla_mem lo 0 i v).2 ⟨Nat.zero_le _, by simpa using lget_at lo i h⟩
  exact List.getElem?_of_mem h1
theorem g_iinc (hX : Gx κ Γ nL cc own rm rt) {i : Nat} {z : Int} {x : Int32} (w v : Int32) (lw : List (Option Value)) (hd : decode cc pc = .ok (.iinc i z, 3)) (hn : pc + 3 = n) (hj : lget lo i = some (.int x)) (hv : Int32.ofInt z = w) (hv2 : x + w = v) (hi2 : i < nL) (hl2 : lset lo i (.int v) = lw) (k : GG κ Γ nL QF cells slots σ lw n rest o) : GG κ Γ nL QF cells slots σ lo pc rest o := by
  subst hn; subst hv; obtain ⟨j, hj1⟩ := gla_get hj; exact fun h0 H locs ls hP hD hS hl => lv_iinc hX.1 hX.2.1 hd hl.1 hj1 hv2 hi2 rfl (fun ls1 hl1 => k h0 H locs ls1 hP hD hS (gL.set rfl hl.2 hl1 hl2))
theorem g_iadd (hX : Gx κ Γ nL cc own rm rt) {x y : Int32} (hd : decode cc pc = .ok (.iadd, 1)) (hn : pc + 1 = n)  (k : GG κ Γ nL QF cells slots σ lo n (.int (x + y) :: rest) o) : GG κ Γ nL QF cells slots σ lo pc (.int y :: .int x :: rest) o := by
  subst hn; exact fun h0 H locs ls hP hD hS hl => lv_iadd hX.1 hX.2.1 hd  (k h0 H locs ls hP hD hS hl)
theorem g_isub (hX : Gx κ Γ nL cc own rm rt) {x y : Int32} (hd : decode cc pc = .ok (.isub, 1)) (hn : pc + 1 = n)  (k : GG κ Γ nL QF cells slots σ lo n (.int (x - y) :: rest) o) : GG κ Γ nL QF cells slots σ lo pc (.int y :: .int x :: rest) o := by
  subst hn; exact fun h0 H locs ls hP hD hS hl => lv_isub hX.1 hX.2.1 hd  (k h0 H locs ls hP hD hS hl)
theorem g_imul (hX : Gx κ Γ nL cc own rm rt) {x y : Int32} (hd : decode cc pc = .ok (.imul, 1)) (hn : pc + 1 = n)  (k : GG κ Γ nL QF cells slots σ lo n (.int (x * y) :: rest) o) : GG κ Γ nL QF cells slots σ lo pc (.int y :: .int x :: rest) o := by
  subst hn; exact fun h0 H locs ls hP hD hS hl => lv_imul hX.1 hX.2.1 hd  (k h0 H locs ls hP hD hS hl)
theorem g_iand (hX : Gx κ Γ nL cc own rm rt) {x y : Int32} (hd : decode cc pc = .ok (.iand, 1)) (hn : pc + 1 = n)  (k : GG κ Γ nL QF cells slots σ lo n (.int (x &&& y) :: rest) o) : GG κ Γ nL QF cells slots σ lo pc (.int y :: .int x :: rest) o := by
  subst hn; exact fun h0 H locs ls hP hD hS hl => lv_iand hX.1 hX.2.1 hd  (k h0 H locs ls hP hD hS hl)
theorem g_ixor (hX : Gx κ Γ nL cc own rm rt) {x y : Int32} (hd : decode cc pc = .ok (.ixor, 1)) (hn : pc + 1 = n)  (k : GG κ Γ nL QF cells slots σ lo n (.int (x ^^^ y) :: rest) o) : GG κ Γ nL QF cells slots σ lo pc (.int y :: .int x :: rest) o := by
  subst hn; exact fun h0 H locs ls hP hD hS hl => lv_ixor hX.1 hX.2.1 hd  (k h0 H locs ls hP hD hS hl)
theorem g_ineg (hX : Gx κ Γ nL cc own rm rt) {x : Int32} (hd : decode cc pc = .ok (.ineg, 1)) (hn : pc + 1 = n)  (k : GG κ Γ nL QF cells slots σ lo n (.int (-x) :: rest) o) : GG κ Γ nL QF cells slots σ lo pc (.int x :: rest) o := by
  subst hn; exact fun h0 H locs ls hP hD hS hl => lv_ineg hX.1 hX.2.1 hd  (k h0 H locs ls hP hD hS hl)
theorem g_idiv (hX : Gx κ Γ nL cc own rm rt) {x y : Int32} {dc : Decidable (y = 0)} (hd : decode cc pc = .ok (.idiv, 1)) (hn : pc + 1 = n) (k : GG κ Γ nL QF cells slots σ lo n (.int (x / y) :: rest) o) : GG κ Γ nL QF cells slots σ lo pc (.int y :: .int x :: rest) (@ite _ (y = 0) dc none o) := by
  subst hn; intro h0 H locs ls hP hD hS hl
  by_cases h : y = 0
  · exact absurd (if_pos h) h0
  · rw [if_neg h] at h0 ⊢; exact lv_idiv hX.1 hX.2.1 hd h (k h0 H locs ls hP hD hS hl)
theorem g_idivK (hX : Gx κ Γ nL cc own rm rt) {x y : Int32} (hy : ¬ y = 0) (hd : decode cc pc = .ok (.idiv, 1)) (hn : pc + 1 = n) (k : GG κ Γ nL QF cells slots σ lo n (.int (x / y) :: rest) o) : GG κ Γ nL QF cells slots σ lo pc (.int y :: .int x :: rest) o := by
  subst hn; exact fun h0 H locs ls hP hD hS hl => lv_idiv hX.1 hX.2.1 hd hy (k h0 H locs ls hP hD hS hl)
theorem g_irem (hX : Gx κ Γ nL cc own rm rt) {x y : Int32} {dc : Decidable (y = 0)} (hd : decode cc pc = .ok (.irem, 1)) (hn : pc + 1 = n) (k : GG κ Γ nL QF cells slots σ lo n (.int (x - x / y * y) :: rest) o) : GG κ Γ nL QF cells slots σ lo pc (.int y :: .int x :: rest) (@ite _ (y = 0) dc none o) := by
  subst hn; intro h0 H locs ls hP hD hS hl
  by_cases h : y = 0
  · exact absurd (if_pos h) h0
  · rw [if_neg h] at h0 ⊢; exact lv_irem hX.1 hX.2.1 hd h (k h0 H locs ls hP hD hS hl)
theorem g_iremK (hX : Gx κ Γ nL cc own rm rt) {x y : Int32} (hy : ¬ y = 0) (hd : decode cc pc = .ok (.irem, 1)) (hn : pc + 1 = n) (k : GG κ Γ nL QF cells slots σ lo n (.int (x - x / y * y) :: rest) o) : GG κ Γ nL QF cells slots σ lo pc (.int y :: .int x :: rest) o := by
  subst hn; exact fun h0 H locs ls hP hD hS hl => lv_irem hX.1 hX.2.1 hd hy (k h0 H locs ls hP hD hS hl)
theorem g_dup (hX : Gx κ Γ nL cc own rm rt) {va : Value} (hd : decode cc pc = .ok (.dup, 1)) (hn : pc + 1 = n) (hva : va.category = 1) (k : GG κ Γ nL QF cells slots σ lo n (va :: va :: rest) o) : GG κ Γ nL QF cells slots σ lo pc (va :: rest) o := by
  subst hn; exact fun h0 H locs ls hP hD hS hl => lv_dup hX.1 hX.2.1 hd hva (k h0 H locs ls hP hD hS hl)
theorem g_pop (hX : Gx κ Γ nL cc own rm rt) {va : Value} (hd : decode cc pc = .ok (.pop, 1)) (hn : pc + 1 = n) (hva : va.category = 1) (k : GG κ Γ nL QF cells slots σ lo n (rest) o) : GG κ Γ nL QF cells slots σ lo pc (va :: rest) o := by
  subst hn; exact fun h0 H locs ls hP hD hS hl => lv_pop hX.1 hX.2.1 hd hva (k h0 H locs ls hP hD hS hl)
theorem g_i2l (hX : Gx κ Γ nL cc own rm rt) {x : Int32} (hd : decode cc pc = .ok (.i2l, 1)) (hn : pc + 1 = n)  (k : GG κ Γ nL QF cells slots σ lo n (.long x.toInt64 :: rest) o) : GG κ Γ nL QF cells slots σ lo pc (.int x :: rest) o := by
  subst hn; exact fun h0 H locs ls hP hD hS hl => lv_i2l hX.1 hX.2.1 hd rfl (k h0 H locs ls hP hD hS hl)
theorem g_lcmp (hX : Gx κ Γ nL cc own rm rt) {x y : Int64} (hd : decode cc pc = .ok (.lcmp, 1)) (hn : pc + 1 = n)  (k : GG κ Γ nL QF cells slots σ lo n (.int (lg_cmp x y) :: rest) o) : GG κ Γ nL QF cells slots σ lo pc (.long y :: .long x :: rest) o := by
  subst hn; exact fun h0 H locs ls hP hD hS hl => W.lcmp hX.1 hX.2.1 hd  (k h0 H locs ls hP hD hS hl)
theorem g_icmp_eq (hX : Gx κ Γ nL cc own rm rt) {x y : Int32} {off : Int} {dc : Decidable (x = y)} {ot of : Option ρ} (tgt : Nat) (hd : decode cc pc = .ok (.if_icmp .eq off, 3)) (hn : pc + 3 = n) (ht : (pc : Int) + off = (tgt : Int)) (kt : GG κ Γ nL QF cells slots σ lo tgt rest ot) (kf : GG κ Γ nL QF cells slots σ lo n rest of) : GG κ Γ nL QF cells slots σ lo pc (.int y :: .int x :: rest) (@ite _ (x = y) dc ot of) := by
  subst hn; intro h0 H locs ls hP hD hS hl
  exact lv_icmp_eq hX.1 hX.2.1 hd ht (fun h => by rw [if_pos h] at h0 ⊢; exact kt h0 H locs ls hP hD hS hl) (fun h => by rw [if_neg h] at h0 ⊢; exact kf h0 H locs ls hP hD hS hl)
theorem g_if_eq (hX : Gx κ Γ nL cc own rm rt) {x : Int32} {off : Int} {dc : Decidable (x = 0)} {ot of : Option ρ} (tgt : Nat) (hd : decode cc pc = .ok (.ifCond .eq off, 3)) (hn : pc + 3 = n) (ht : (pc : Int) + off = (tgt : Int)) (kt : GG κ Γ nL QF cells slots σ lo tgt rest ot) (kf : GG κ Γ nL QF cells slots σ lo n rest of) : GG κ Γ nL QF cells slots σ lo pc (.int x :: rest) (@ite _ (x = 0) dc ot of) := by
  subst hn; intro h0 H locs ls hP hD hS hl
  exact lv_if_eq hX.1 hX.2.1 hd ht (fun h => by rw [if_pos h] at h0 ⊢; exact kt h0 H locs ls hP hD hS hl) (fun h => by rw [if_neg h] at h0 ⊢; exact kf h0 H locs ls hP hD hS hl)
theorem g_icmp_ne (hX : Gx κ Γ nL cc own rm rt) {x y : Int32} {off : Int} {dc : Decidable (x = y)} {ot of : Option ρ} (tgt : Nat) (hd : decode cc pc = .ok (.if_icmp .ne off, 3)) (hn : pc + 3 = n) (ht : (pc : Int) + off = (tgt : Int)) (kt : GG κ Γ nL QF cells slots σ lo tgt rest ot) (kf : GG κ Γ nL QF cells slots σ lo n rest of) : GG κ Γ nL QF cells slots σ lo pc (.int y :: .int x :: rest) (@ite _ (x = y) dc of ot) := by
  subst hn; intro h0 H locs ls hP hD hS hl
  exact lv_icmp_ne hX.1 hX.2.1 hd ht (fun h => by rw [if_neg h] at h0 ⊢; exact kt h0 H locs ls hP hD hS hl) (fun h => by rw [if_pos h] at h0 ⊢; exact kf h0 H locs ls hP hD hS hl)
theorem g_if_ne (hX : Gx κ Γ nL cc own rm rt) {x : Int32} {off : Int} {dc : Decidable (x = 0)} {ot of : Option ρ} (tgt : Nat) (hd : decode cc pc = .ok (.ifCond .ne off, 3)) (hn : pc + 3 = n) (ht : (pc : Int) + off = (tgt : Int)) (kt : GG κ Γ nL QF cells slots σ lo tgt rest ot) (kf : GG κ Γ nL QF cells slots σ lo n rest of) : GG κ Γ nL QF cells slots σ lo pc (.int x :: rest) (@ite _ (x = 0) dc of ot) := by
  subst hn; intro h0 H locs ls hP hD hS hl
  exact lv_if_ne hX.1 hX.2.1 hd ht (fun h => by rw [if_neg h] at h0 ⊢; exact kt h0 H locs ls hP hD hS hl) (fun h => by rw [if_pos h] at h0 ⊢; exact kf h0 H locs ls hP hD hS hl)
theorem g_icmp_lt (hX : Gx κ Γ nL cc own rm rt) {x y : Int32} {off : Int} {dc : Decidable (x < y)} {ot of : Option ρ} (tgt : Nat) (hd : decode cc pc = .ok (.if_icmp .lt off, 3)) (hn : pc + 3 = n) (ht : (pc : Int) + off = (tgt : Int)) (kt : GG κ Γ nL QF cells slots σ lo tgt rest ot) (kf : GG κ Γ nL QF cells slots σ lo n rest of) : GG κ Γ nL QF cells slots σ lo pc (.int y :: .int x :: rest) (@ite _ (x < y) dc ot of) := by
  subst hn; intro h0 H locs ls hP hD hS hl
  exact lv_icmp_lt hX.1 hX.2.1 hd ht (fun h => by rw [if_pos h] at h0 ⊢; exact kt h0 H locs ls hP hD hS hl) (fun h => by rw [if_neg h] at h0 ⊢; exact kf h0 H locs ls hP hD hS hl)
theorem g_if_lt (hX : Gx κ Γ nL cc own rm rt) {x : Int32} {off : Int} {dc : Decidable (x < 0)} {ot of : Option ρ} (tgt : Nat) (hd : decode cc pc = .ok (.ifCond .lt off, 3)) (hn : pc + 3 = n) (ht : (pc : Int) + off = (tgt : Int)) (kt : GG κ Γ nL QF cells slots σ lo tgt rest ot) (kf : GG κ Γ nL QF cells slots σ lo n rest of) : GG κ Γ nL QF cells slots σ lo pc (.int x :: rest) (@ite _ (x < 0) dc ot of) := by
  subst hn; intro h0 H locs ls hP hD hS hl
  exact lv_if_lt hX.1 hX.2.1 hd ht (fun h => by rw [if_pos h] at h0 ⊢; exact kt h0 H locs ls hP hD hS hl) (fun h => by rw [if_neg h] at h0 ⊢; exact kf h0 H locs ls hP hD hS hl)
theorem g_icmp_ge (hX : Gx κ Γ nL cc own rm rt) {x y : Int32} {off : Int} {dc : Decidable (y ≤ x)} {ot of : Option ρ} (tgt : Nat) (hd : decode cc pc = .ok (.if_icmp .ge off, 3)) (hn : pc + 3 = n) (ht : (pc : Int) + off = (tgt : Int)) (kt : GG κ Γ nL QF cells slots σ lo tgt rest ot) (kf : GG κ Γ nL QF cells slots σ lo n rest of) : GG κ Γ nL QF cells slots σ lo pc (.int y :: .int x :: rest) (@ite _ (y ≤ x) dc ot of) := by
  subst hn; intro h0 H locs ls hP hD hS hl
  exact lv_icmp_ge hX.1 hX.2.1 hd ht (fun h => by rw [if_pos h] at h0 ⊢; exact kt h0 H locs ls hP hD hS hl) (fun h => by rw [if_neg h] at h0 ⊢; exact kf h0 H locs ls hP hD hS hl)
theorem g_if_ge (hX : Gx κ Γ nL cc own rm rt) {x : Int32} {off : Int} {dc : Decidable (0 ≤ x)} {ot of : Option ρ} (tgt : Nat) (hd : decode cc pc = .ok (.ifCond .ge off, 3)) (hn : pc + 3 = n) (ht : (pc : Int) + off = (tgt : Int)) (kt : GG κ Γ nL QF cells slots σ lo tgt rest ot) (kf : GG κ Γ nL QF cells slots σ lo n rest of) : GG κ Γ nL QF cells slots σ lo pc (.int x :: rest) (@ite _ (0 ≤ x) dc ot of) := by
  subst hn; intro h0 H locs ls hP hD hS hl
  exact lv_if_ge hX.1 hX.2.1 hd ht (fun h => by rw [if_pos h] at h0 ⊢; exact kt h0 H locs ls hP hD hS hl) (fun h => by rw [if_neg h] at h0 ⊢; exact kf h0 H locs ls hP hD hS hl)
theorem g_icmp_gt (hX : Gx κ Γ nL cc own rm rt) {x y : Int32} {off : Int} {dc : Decidable (y < x)} {ot of : Option ρ} (tgt : Nat) (hd : decode cc pc = .ok (.if_icmp .gt off, 3)) (hn : pc + 3 = n) (ht : (pc : Int) + off = (tgt : Int)) (kt : GG κ Γ nL QF cells slots σ lo tgt rest ot) (kf : GG κ Γ nL QF cells slots σ lo n rest of) : GG κ Γ nL QF cells slots σ lo pc (.int y :: .int x :: rest) (@ite _ (y < x) dc ot of) := by
  subst hn; intro h0 H locs ls hP hD hS hl
  exact lv_icmp_gt hX.1 hX.2.1 hd ht (fun h => by rw [if_pos h] at h0 ⊢; exact kt h0 H locs ls hP hD hS hl) (fun h => by rw [if_neg h] at h0 ⊢; exact kf h0 H locs ls hP hD hS hl)
theorem g_if_gt (hX : Gx κ Γ nL cc own rm rt) {x : Int32} {off : Int} {dc : Decidable (0 < x)} {ot of : Option ρ} (tgt : Nat) (hd : decode cc pc = .ok (.ifCond .gt off, 3)) (hn : pc + 3 = n) (ht : (pc : Int) + off = (tgt : Int)) (kt : GG κ Γ nL QF cells slots σ lo tgt rest ot) (kf : GG κ Γ nL QF cells slots σ lo n rest of) : GG κ Γ nL QF cells slots σ lo pc (.int x :: rest) (@ite _ (0 < x) dc ot of) := by
  subst hn; intro h0 H locs ls hP hD hS hl
  exact lv_if_gt hX.1 hX.2.1 hd ht (fun h => by rw [if_pos h] at h0 ⊢; exact kt h0 H locs ls hP hD hS hl) (fun h => by rw [if_neg h] at h0 ⊢; exact kf h0 H locs ls hP hD hS hl)
theorem g_icmp_le (hX : Gx κ Γ nL cc own rm rt) {x y : Int32} {off : Int} {dc : Decidable (x ≤ y)} {ot of : Option ρ} (tgt : Nat) (hd : decode cc pc = .ok (.if_icmp .le off, 3)) (hn : pc + 3 = n) (ht : (pc : Int) + off = (tgt : Int)) (kt : GG κ Γ nL QF cells slots σ lo tgt rest ot) (kf : GG κ Γ nL QF cells slots σ lo n rest of) : GG κ Γ nL QF cells slots σ lo pc (.int y :: .int x :: rest) (@ite _ (x ≤ y) dc ot of) := by
  subst hn; intro h0 H locs ls hP hD hS hl
  exact lv_icmp_le hX.1 hX.2.1 hd ht (fun h => by rw [if_pos h] at h0 ⊢; exact kt h0 H locs ls hP hD hS hl) (fun h => by rw [if_neg h] at h0 ⊢; exact kf h0 H locs ls hP hD hS hl)
theorem g_if_le (hX : Gx κ Γ nL cc own rm rt) {x : Int32} {off : Int} {dc : Decidable (x ≤ 0)} {ot of : Option ρ} (tgt : Nat) (hd : decode cc pc = .ok (.ifCond .le off, 3)) (hn : pc + 3 = n) (ht : (pc : Int) + off = (tgt : Int)) (kt : GG κ Γ nL QF cells slots σ lo tgt rest ot) (kf : GG κ Γ nL QF cells slots σ lo n rest of) : GG κ Γ nL QF cells slots σ lo pc (.int x :: rest) (@ite _ (x ≤ 0) dc ot of) := by
  subst hn; intro h0 H locs ls hP hD hS hl
  exact lv_if_le hX.1 hX.2.1 hd ht (fun h => by rw [if_pos h] at h0 ⊢; exact kt h0 H locs ls hP hD hS hl) (fun h => by rw [if_neg h] at h0 ⊢; exact kf h0 H locs ls hP hD hS hl)
theorem g_goto (hX : Gx κ Γ nL cc own rm rt) {off : Int} (tgt : Nat) (hd : decode cc pc = .ok (.goto off, 3)) (ht : (pc : Int) + off = (tgt : Int)) (k : GG κ Γ nL QF cells slots σ lo tgt rest o) : GG κ Γ nL QF cells slots σ lo pc rest o := fun h0 H locs ls hP hD hS hl => lv_goto hX.1 hX.2.1 hd ht (k h0 H locs ls hP hD hS hl)
end GJ
