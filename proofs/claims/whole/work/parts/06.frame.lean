/-! Rows of GG: fields, arrays, switches, Math. -/
section GJ2
variable {ρ : Type} {κ : GC} {Γ : GA} {nL cells slots : Nat} {QF : Option ρ → State → Prop} {σ : Mem} {lo lw : List (Option Value)} {pc n : Nat} {rest : List Value} {o : Option ρ} {cc : ByteArray} {own : String} {rm : Room} {rt : Option FieldType}
/-- a field that is read: its word, its class, its place -/
def gF (own : String) (index ci f : Nat) : Prop := ∃ (ref C : String) (T : u_T) (N : Nat), gCl[ci]? = some (C, T, N) ∧ f < N ∧ Cond.fieldLink own index ref (T f).2.1 (T f).2.2.1 ∈ TW ∧ (T f).1 = ref ∧ ∀ w ∈ u_ws C T N, w ∈ TW
/-- a field that is written -/
def gFP (own : String) (index ci f : Nat) (ty : FieldType) : Prop := ∃ (ref C : String) (T : u_T) (N : Nat) (ty0 : Nat → FieldType), gCl[ci]? = some (C, T, N) ∧ f < N ∧ Cond.fieldLink own index ref (T f).2.1 (T f).2.2.1 ∈ TW ∧ (T f).1 = ref ∧ (∀ w ∈ u_ws C T N, w ∈ TW) ∧ (∀ k, k < N → parseFieldDescriptor (T k).2.2.1 = some (ty0 k)) ∧ (∀ a, a < N → ∀ b, b < N → a ≠ b → (T a).2.1 ≠ (T b).2.1) ∧ (T f).2.2.2 = false ∧ parseFieldDescriptor (T f).2.2.1 = some ty
theorem gwd_obj (Γ : GA) (σ : Mem) {q ci : Nat} {fl : List Nat} (hs : gSh[q]? = some (0, ci, fl)) : (gwd Γ σ)[q]? = some (Γ.2.1 q, .inr (ci, gfv Γ.2.1 (σ q) 0 fl)) := by rw [gwd_at Γ σ (gsh_lt hs), gce0 Γ σ hs]
theorem gwd_int (Γ : GA) (σ : Mem) {q N : Nat} {fl : List Nat} (hs : gSh[q]? = some (1, N, fl)) : (gwd Γ σ)[q]? = some (Γ.2.1 q, .inl (Γ.2.2.2 q, N, .inl (σ q))) := by rw [gwd_at Γ σ (gsh_lt hs), gce1 Γ σ hs]
theorem gwd_boo (Γ : GA) (σ : Mem) {q N : Nat} {fl : List Nat} (hs : gSh[q]? = some (2, N, fl)) : (gwd Γ σ)[q]? = some (Γ.2.1 q, .inl (Γ.2.2.2 q, N, .inl (σ q))) := by rw [gwd_at Γ σ (gsh_lt hs), gce2 Γ σ hs]
theorem gwd_lng (Γ : GA) (σ : Mem) {q N : Nat} {fl : List Nat} (hs : gSh[q]? = some (3, N, fl)) : (gwd Γ σ)[q]? = some (Γ.2.1 q, .inl (Γ.2.2.2 q, N, .inr (.inl (fun i => (σ q i).toInt64)))) := by rw [gwd_at Γ σ (gsh_lt hs), gce3 Γ σ hs]
theorem gwd_pan (Γ : GA) (σ : Mem) {q N : Nat} {fl : List Nat} (hs : gSh[q]? = some (4, N, fl)) : (gwd Γ σ)[q]? = some (Γ.2.1 q, .inl (Γ.2.2.2 q, N, .inr (.inr (.inr (.inr (fun i => some (Γ.2.1 (gPB + i)))))))) := by rw [gwd_at Γ σ (gsh_lt hs), gce4 Γ σ hs]
theorem gwd_put0 (Γ : GA) (σ : Mem) {q ci f : Nat} {fl : List Nat} (v : Int32) (hs : gSh[q]? = some (0, ci, fl)) (hf : fl[f]? = some 0) : (gwd Γ σ).set q (Γ.2.1 q, .inr (ci, (gfv Γ.2.1 (σ q) 0 fl).set f (.int v))) = gwd Γ (m2 σ q f v) := by
  rw [gfv_set Γ.2.1 v fl (σ q) 0 f hf, Nat.zero_add]
  exact gwd_set Γ (gsh_lt hs) (by rw [gce0 Γ _ hs, m2_self]) (fun j hj => m2_ne σ f v hj)
theorem gwd_put1 (Γ : GA) (σ : Mem) {q N : Nat} {fl : List Nat} (k : Nat) (v : Int32) (hs : gSh[q]? = some (1, N, fl)) : (gwd Γ σ).set q (Γ.2.1 q, .inl (Γ.2.2.2 q, N, .inl (upd (σ q) k v))) = gwd Γ (m2 σ q k v) :=
  gwd_set Γ (gsh_lt hs) (by rw [gce1 Γ _ hs, m2_self]) (fun j hj => m2_ne σ k v hj)
theorem gwd_put2 (Γ : GA) (σ : Mem) {q N : Nat} {fl : List Nat} (k : Nat) (v : Int32) (hs : gSh[q]? = some (2, N, fl)) : (gwd Γ σ).set q (Γ.2.1 q, .inl (Γ.2.2.2 q, N, .inl (upd (σ q) k v))) = gwd Γ (m2 σ q k v) :=
  gwd_set Γ (gsh_lt hs) (by rw [gce2 Γ _ hs, m2_self]) (fun j hj => m2_ne σ k v hj)
theorem gwd_put3 (Γ : GA) (σ : Mem) {q N : Nat} {fl : List Nat} (k : Nat) (v : Int32) (hs : gSh[q]? = some (3, N, fl)) : (gwd Γ σ).set q (Γ.2.1 q, .inl (Γ.2.2.2 q, N, .inr (.inl (vp_updL (fun i => (σ q i).toInt64) k v.toInt64)))) = gwd Γ (m2 σ q k v) := by
  refine gwd_set Γ (gsh_lt hs) ?_ (fun j hj => m2_ne σ k v hj)
  rw [gce3 Γ _ hs, m2_self]
  have : (fun i => (upd (σ q) k v i).toInt64) = vp_updL (fun i => (σ q i).toInt64) k v.toInt64 := by
    funext i; simp only [upd, vp_updL]; split <;> rfl
  rw [this]
/-- a whole array at once -/
def mA (σ : Mem) (q : Nat) (g : Nat → Int32) : Mem := fun j => if j = q then g else σ j
theorem mA_self (σ : Mem) (q : Nat) (g : Nat → Int32) : mA σ q g q = g := by simp [mA]
theorem mA_ne (σ : Mem) {q j : Nat} (g : Nat → Int32) (h : j ≠ q) : mA σ q g j = σ j := by simp [mA, h]
theorem g_geti (hX : Gx κ Γ nL cc own rm rt) {q ci index f : Nat} {fl : List Nat} (hF : gF own index ci f) (hd : decode cc pc = .ok (.getfield index, 3)) (hn : pc + 3 = n) (hs : gSh[q]? = some (0, ci, fl)) (hf : fl[f]? = some 0) (k : GG κ Γ nL QF cells slots σ lo n (.int (σ q f) :: rest) o) : GG κ Γ nL QF cells slots σ lo pc (.ref (Γ.2.1 q) :: rest) o := by
  subst hn; obtain ⟨ref, C, T, N, h1, h2, h3, h4, h5⟩ := hF
  have hv : (gfv Γ.2.1 (σ q) 0 fl)[f]? = some (.int (σ q f)) := by have h := gfv_get Γ.2.1 (σ q) fl 0 f hf; rwa [Nat.zero_add] at h
  exact fun h0 H locs ls hP hD hS hl => va_get hX.1 hX.2.1 hX.2.2.1 h5 hX.2.2.2.1 hX.2.2.2.2.1 hP q (gwd_obj Γ σ hs) h1 f h2 (hX.2.2.1 _ h3) (fun x9 h9 => by rw [← h4]; exact h9) hv hd (k h0 H locs ls hP hD hS hl)
theorem g_geta (hX : Gx κ Γ nL cc own rm rt) {q ci index f : Nat} {fl : List Nat} (p9 : Nat) (hF : gF own index ci f) (hd : decode cc pc = .ok (.getfield index, 3)) (hn : pc + 3 = n) (hs : gSh[q]? = some (0, ci, fl)) (hf : fl[f]? = some (p9 + 1)) (k : GG κ Γ nL QF cells slots σ lo n (.ref (Γ.2.1 p9) :: rest) o) : GG κ Γ nL QF cells slots σ lo pc (.ref (Γ.2.1 q) :: rest) o := by
  subst hn; obtain ⟨ref, C, T, N, h1, h2, h3, h4, h5⟩ := hF
  exact fun h0 H locs ls hP hD hS hl => va_get hX.1 hX.2.1 hX.2.2.1 h5 hX.2.2.2.1 hX.2.2.2.2.1 hP q (gwd_obj Γ σ hs) h1 f h2 (hX.2.2.1 _ h3) (fun x9 h9 => by rw [← h4]; exact h9) (gfv_ref Γ.2.1 (σ q) fl 0 f hf) hd (k h0 H locs ls hP hD hS hl)
theorem g_puti (hX : Gx κ Γ nL cc own rm rt) {q ci index f : Nat} {fl : List Nat} {v : Int32} (hF : gFP own index ci f .int) (hd : decode cc pc = .ok (.putfield index, 3)) (hn : pc + 3 = n) (hs : gSh[q]? = some (0, ci, fl)) (hf : fl[f]? = some 0)  (k : GG κ Γ nL QF cells slots (m2 σ q f v) lo n rest o) : GG κ Γ nL QF cells slots σ lo pc (.int v :: .ref (Γ.2.1 q) :: rest) o := by
  subst hn; obtain ⟨ref, C, T, N, ty0, h1, h2, h3, h4, h5, h6, h7, h8, h9⟩ := hF
  have hlen : f < (gfv Γ.2.1 (σ q) 0 fl).length := by
    rw [gfv_len]; rcases Nat.lt_or_ge f fl.length with h | h
    · exact h
    · rw [List.getElem?_eq_none h] at hf; cases hf
  intro h0 H locs ls hP hD hS hl
  refine va_put hX.1 hX.2.1 hX.2.2.1 h5 ty0 h6 h7 hX.2.2.2.1 hX.2.2.2.2.1 hP hD hS q (gwd_obj Γ σ hs) h1 f h2 (hX.2.2.1 _ h3) (fun x9 h9 => by rw [← h4]; exact h9) h8 h9 rfl rfl hlen hd (fun H1 locs1 hP1 hD1 hS1 => ?_)
  rw [gwd_put0 Γ σ v hs hf] at hP1 hD1
  exact k h0 H1 locs1 ls hP1 hD1 hS1 hl
theorem g_putz (hX : Gx κ Γ nL cc own rm rt) {q ci index f : Nat} {fl : List Nat} {v : Int32} (hF : gFP own index ci f .boolean) (hd : decode cc pc = .ok (.putfield index, 3)) (hn : pc + 3 = n) (hs : gSh[q]? = some (0, ci, fl)) (hf : fl[f]? = some 0) (hv : narrow .boolean (.int v) = .int v) (hv2 : fits .boolean (.int v) = true) (k : GG κ Γ nL QF cells slots (m2 σ q f v) lo n rest o) : GG κ Γ nL QF cells slots σ lo pc (.int v :: .ref (Γ.2.1 q) :: rest) o := by
  subst hn; obtain ⟨ref, C, T, N, ty0, h1, h2, h3, h4, h5, h6, h7, h8, h9⟩ := hF
  have hlen : f < (gfv Γ.2.1 (σ q) 0 fl).length := by
    rw [gfv_len]; rcases Nat.lt_or_ge f fl.length with h | h
    · exact h
    · rw [List.getElem?_eq_none h] at hf; cases hf
  intro h0 H locs ls hP hD hS hl
  refine va_put hX.1 hX.2.1 hX.2.2.1 h5 ty0 h6 h7 hX.2.2.2.1 hX.2.2.2.2.1 hP hD hS q (gwd_obj Γ σ hs) h1 f h2 (hX.2.2.1 _ h3) (fun x9 h9 => by rw [← h4]; exact h9) h8 h9 hv hv2 hlen hd (fun H1 locs1 hP1 hD1 hS1 => ?_)
  rw [gwd_put0 Γ σ v hs hf] at hP1 hD1
  exact k h0 H1 locs1 ls hP1 hD1 hS1 hl
/-! arrays -/
theorem g_iald (hX : Gx κ Γ nL cc own rm rt) {q N : Nat} {i : Int32} {dc : Decidable (gin i N = true)} (hd : decode cc pc = .ok (.iaload, 1)) (hn : pc + 1 = n) (hs : gSh[q]? = some (1, N, [])) (k : GG κ Γ nL QF cells slots σ lo n (.int (σ q i.toNatClampNeg) :: rest) o) : GG κ Γ nL QF cells slots σ lo pc (.int i :: .ref (Γ.2.1 q) :: rest) (@ite _ (gin i N = true) dc o none) := by
  subst hn; intro h0 H locs ls hP hD hS hl
  by_cases h : gin i N = true
  · rw [if_pos h] at h0 ⊢
    exact va_iald hX.1 hX.2.1 hX.2.2.2.2.1 hP q q (gwd_int Γ σ hs) (gT_1 Γ hs) (gin_in h) hd (k h0 H locs ls hP hD hS hl)
  · exact absurd (if_neg h) h0
theorem g_zald (hX : Gx κ Γ nL cc own rm rt) {q N : Nat} {i : Int32} {dc : Decidable (gin i N = true)} (hd : decode cc pc = .ok (.baload, 1)) (hn : pc + 1 = n) (hs : gSh[q]? = some (2, N, [])) (k : GG κ Γ nL QF cells slots σ lo n (.int (σ q i.toNatClampNeg) :: rest) o) : GG κ Γ nL QF cells slots σ lo pc (.int i :: .ref (Γ.2.1 q) :: rest) (@ite _ (gin i N = true) dc o none) := by
  subst hn; intro h0 H locs ls hP hD hS hl
  by_cases h : gin i N = true
  · rw [if_pos h] at h0 ⊢
    exact va_zald hX.1 hX.2.1 hX.2.2.2.2.1 hP q q (gwd_boo Γ σ hs) (gT_2 Γ hs) (gin_in h) hd (k h0 H locs ls hP hD hS hl)
  · exact absurd (if_neg h) h0
theorem g_iast (hX : Gx κ Γ nL cc own rm rt) {q N : Nat} {i x : Int32} {dc : Decidable (gin i N = true)} (hd : decode cc pc = .ok (.iastore, 1)) (hn : pc + 1 = n) (hs : gSh[q]? = some (1, N, []))  (k : GG κ Γ nL QF cells slots (m2 σ q i.toNatClampNeg x) lo n rest o) : GG κ Γ nL QF cells slots σ lo pc (.int x :: .int i :: .ref (Γ.2.1 q) :: rest) (@ite _ (gin i N = true) dc o none) := by
  subst hn; intro h0 H locs ls hP hD hS hl
  by_cases h : gin i N = true
  · rw [if_pos h] at h0 ⊢
    refine va_iast hX.1 hX.2.1 hX.2.2.2.2.1 hP hD hS q q (gwd_int Γ σ hs) (gT_1 Γ hs) (gin_in h) hd (fun H1 locs1 hP1 hD1 hS1 => ?_)
    rw [gwd_put1 Γ σ i.toNatClampNeg x hs] at hP1 hD1
    exact k h0 H1 locs1 ls hP1 hD1 hS1 hl
  · exact absurd (if_neg h) h0
theorem g_zast (hX : Gx κ Γ nL cc own rm rt) {q N : Nat} {i x : Int32} {dc : Decidable (gin i N = true)} (hd : decode cc pc = .ok (.bastore, 1)) (hn : pc + 1 = n) (hs : gSh[q]? = some (2, N, [])) (hv : vp_nar .boolean x = x) (k : GG κ Γ nL QF cells slots (m2 σ q i.toNatClampNeg x) lo n rest o) : GG κ Γ nL QF cells slots σ lo pc (.int x :: .int i :: .ref (Γ.2.1 q) :: rest) (@ite _ (gin i N = true) dc o none) := by
  subst hn; intro h0 H locs ls hP hD hS hl
  by_cases h : gin i N = true
  · rw [if_pos h] at h0 ⊢
    refine va_zast hX.1 hX.2.1 hX.2.2.2.2.1 hP hD hS q q (gwd_boo Γ σ hs) (gT_2 Γ hs) (gin_in h) hd (fun H1 locs1 hP1 hD1 hS1 => ?_)
    rw [hv, gwd_put2 Γ σ i.toNatClampNeg x hs] at hP1 hD1
    exact k h0 H1 locs1 ls hP1 hD1 hS1 hl
  · exact absurd (if_neg h) h0
theorem g_laldK (hX : Gx κ Γ nL cc own rm rt) {q N : Nat} {i : Int32} (hi : gin i N = true) (hd : decode cc pc = .ok (.laload, 1)) (hn : pc + 1 = n) (hs : gSh[q]? = some (3, N, [])) (k : GG κ Γ nL QF cells slots σ lo n (.long (σ q i.toNatClampNeg).toInt64 :: rest) o) : GG κ Γ nL QF cells slots σ lo pc (.int i :: .ref (Γ.2.1 q) :: rest) o := by
  subst hn; intro h0 H locs ls hP hD hS hl
  exact va_lald hX.1 hX.2.1 hX.2.2.2.2.1 hP q q (gwd_lng Γ σ hs) (gT_3 Γ hs) (gin_in hi) hd (k h0 H locs ls hP hD hS hl)
theorem g_lastK (hX : Gx κ Γ nL cc own rm rt) {q N : Nat} {i : Int32} {y : Int64} (x : Int32) (hy : x.toInt64 = y) (hi : gin i N = true) (hd : decode cc pc = .ok (.lastore, 1)) (hn : pc + 1 = n) (hs : gSh[q]? = some (3, N, [])) (k : GG κ Γ nL QF cells slots (m2 σ q i.toNatClampNeg x) lo n rest o) : GG κ Γ nL QF cells slots σ lo pc (.long y :: .int i :: .ref (Γ.2.1 q) :: rest) o := by
  subst hn; subst hy; intro h0 H locs ls hP hD hS hl
  refine va_last hX.1 hX.2.1 hX.2.2.2.2.1 hP hD hS q q (gwd_lng Γ σ hs) (gT_3 Γ hs) (gin_in hi) hd (fun H1 locs1 hP1 hD1 hS1 => ?_)
  rw [gwd_put3 Γ σ i.toNatClampNeg x hs] at hP1 hD1
  exact k h0 H1 locs1 ls hP1 hD1 hS1 hl
theorem g_aald (hX : Gx κ Γ nL cc own rm rt) {q N : Nat} {i : Int32} {dc : Decidable (gin i N = true)} (hd : decode cc pc = .ok (.aaload, 1)) (hn : pc + 1 = n) (hs : gSh[q]? = some (4, N, [])) (k : GG κ Γ nL QF cells slots σ lo n (.ref (Γ.2.1 (gPB + i.toNatClampNeg)) :: rest) o) : GG κ Γ nL QF cells slots σ lo pc (.int i :: .ref (Γ.2.1 q) :: rest) (@ite _ (gin i N = true) dc o none) := by
  subst hn; intro h0 H locs ls hP hD hS hl
  by_cases h : gin i N = true
  · rw [if_pos h] at h0 ⊢
    exact va_aldq hX.1 hX.2.1 hX.2.2.2.2.1 hP q q (gwd_pan Γ σ hs) (gT_4 Γ hs) (gin_in h) hd (k h0 H locs ls hP hD hS hl)
  · exact absurd (if_neg h) h0
theorem g_aaldB (hX : Gx κ Γ nL cc own rm rt) {q : Nat} {i : Int32} {dc : Decidable (gin i 8 = true)} {ok : Nat → Option ρ} (hd : decode cc pc = .ok (.aaload, 1)) (hn : pc + 1 = n) (hs : gSh[q]? = some (4, 8, [])) (k : ∀ p9, gPn p9 → GG κ Γ nL QF cells slots σ lo n (.ref (Γ.2.1 p9) :: rest) (ok p9)) : GG κ Γ nL QF cells slots σ lo pc (.int i :: .ref (Γ.2.1 q) :: rest) (@ite _ (gin i 8 = true) dc (gbn (gPB + i.toNatClampNeg) ok) none) := by
  by_cases h : gin i 8 = true
  · refine g_aald hX hd hn hs (k _ (gPn_at _ ?_))
    have := gin_in h
    unfold vp_in at this
    omega
  · rw [if_neg h]; exact g_none
/-! a switch -/
def gsw (x : Int32) : Int → List (Nat × Option ρ) → Option ρ → Option ρ
  | _, [], od => od
  | lo, (_, oi) :: t, od => if x.toInt = lo then oi else gsw x (lo + 1) t od
def gall (κ : GC) (Γ : GA) (nL : Nat) (QF : Option ρ → State → Prop) (cells slots : Nat) (σ : Mem) (lo : List (Option Value)) (rest : List Value) : List (Nat × Option ρ) → Prop
  | [] => True
  | (t, oi) :: r => GG κ Γ nL QF cells slots σ lo t rest oi ∧ gall κ Γ nL QF cells slots σ lo rest r
theorem gall_at {os : List (Nat × Option ρ)} (h : gall κ Γ nL QF cells slots σ lo rest os) : ∀ (i t : Nat) (oi : Option ρ), os[i]? = some (t, oi) → GG κ Γ nL QF cells slots σ lo t rest oi := by
  induction os with
  | nil => intro i t oi hi; simp at hi
  | cons a r ih =>
    obtain ⟨t0, o0⟩ := a
    intro i t oi hi
    cases i with
    | zero => simp at hi; obtain ⟨rfl, rfl⟩ := hi; exact h.1
    | succ j => exact ih h.2 j t oi (by simpa using hi)
theorem gsw_out (x : Int32) (od : Option ρ) : ∀ (os : List (Nat × Option ρ)) (a : Int), (x.toInt < a ∨ a + os.length ≤ x.toInt) → gsw x a os od = od
  | [], _, _ => rfl
  | (_, oi) :: t, a, h => by
    have h1 : ¬ x.toInt = a := by rcases h with h | h
                                  · omega
                                  · simp only [List.length_cons] at h; omega
    rw [gsw, if_neg h1]
    exact gsw_out x od t (a + 1) (by rcases h with h | h
                                     · left; omega
                                     · right; simp only [List.length_cons] at h; omega)
theorem gsw_in (x : Int32) (od : Option ρ) : ∀ (os : List (Nat × Option ρ)) (a : Int) (i t : Nat) (oi : Option ρ), os[i]? = some (t, oi) → x.toInt = a + i → gsw x a os od = oi
  | [], _, i, _, _, h, _ => by simp at h
  | (t0, o0) :: r, a, 0, t, oi, h, hx => by
    simp at h; obtain ⟨rfl, rfl⟩ := h
    rw [gsw, if_pos (by omega)]
  | (t0, o0) :: r, a, i + 1, t, oi, h, hx => by
    rw [gsw, if_neg (by omega)]
    exact gsw_in x od r (a + 1) i t oi (by simpa using h) (by omega)
theorem g_table (hX : Gx κ Γ nL cc own rm rt) {dflt a hi : Int} {offs : Array Int} {len : Nat} {x : Int32} {od : Option ρ} (os : List (Nat × Option ρ)) (td : Nat) (hd : decode cc pc = .ok (.tableswitch dflt a hi offs, len)) (hhi : hi + 1 = a + os.length) (hos : offs.toList.map (fun f => (pc : Int) + f) = os.map (fun z => (z.1 : Int))) (htd : (pc : Int) + dflt = (td : Int)) (kd : GG κ Γ nL QF cells slots σ lo td rest od) (ks : gall κ Γ nL QF cells slots σ lo rest os) : GG κ Γ nL QF cells slots σ lo pc (.int x :: rest) (gsw x a os od) := by
  intro h0 H locs ls hP hD hS hl
  by_cases hr : x.toInt < a ∨ hi < x.toInt
  · have e1 : gsw x a os od = od := gsw_out x od os a (by rcases hr with h | h
                                                          · exact Or.inl h
                                                          · right; omega)
    rw [e1] at h0 ⊢
    exact lv_tableOut hX.1 hX.2.1 hd hr htd (kd h0 H locs ls hP hD hS hl)
  · have hr1 : ¬ x.toInt < a := fun h => hr (Or.inl h)
    have hr2 : ¬ hi < x.toInt := fun h => hr (Or.inr h)
    have hlt : (x.toInt - a).toNat < os.length := by omega
    obtain ⟨⟨t, oi⟩, hoi⟩ : ∃ z, os[(x.toInt - a).toNat]? = some z := ⟨_, List.getElem?_eq_getElem hlt⟩
    have e1 : gsw x a os od = oi := gsw_in x od os a _ t oi hoi (by omega)
    have hlen : offs.toList.length = os.length := by have := congrArg List.length hos; simpa using this
    obtain ⟨f, hf⟩ : ∃ f, offs.toList[(x.toInt - a).toNat]? = some f := ⟨_, List.getElem?_eq_getElem (by omega)⟩
    have hft : (pc : Int) + f = (t : Int) := by
      have h1 := congrArg (fun l => l[(x.toInt - a).toNat]?) hos
      simp only [List.getElem?_map, hf, hoi, Option.map_some, Option.some.injEq] at h1
      exact h1
    have hf2 : offs[(x.toInt - a).toNat]? = some f := by rw [← Array.getElem?_toList]; exact hf
    rw [e1] at h0 ⊢
    exact lv_tableIn hX.1 hX.2.1 hd hr1 hr2 hf2 hft (gall_at ks _ t oi hoi h0 H locs ls hP hD hS hl)
/-! Math, System.arraycopy -/
def mmax (x y : Int32) : Int32 := if x < y then y else x
theorem g_mmax (hX : Gx κ Γ nL cc own rm rt) {x y : Int32} {index : Nat} (hl1 : Cond.methodLink own index Lib.Math.max.name ∈ TW) (hl2 : Cond.static Lib.Math.max.name ∈ TW) (hl3 : Cond.initialized "java/lang/Math" ∈ TW) (hl4 : Cond.code Lib.Math.max.name Lib.Math.max.code 2 (some .int) ∈ TW) (hd : decode cc pc = .ok (.invokestatic index, 3)) (hn : pc + 3 = n) (hR : 1 ≤ rm.frames) (hR2 : (rest.map fun v => v.category).sum + 13 ≤ rm.locals) (hc : cells ≤ rm.cells) (hs : slots ≤ rm.slots) (k : GG κ Γ nL QF cells slots σ lo n (.int (mmax x y) :: rest) o) : GG κ Γ nL QF cells slots σ lo pc (.int y :: .int x :: rest) o := by
  subst hn
  have hRm := hX.2.2.2.2.2.2.2.2.1
  intro h0 H locs ls hP hD hS hl
  refine va_mmax hX.1 hX.2.1 (by rw [hX.2.2.2.2.2.2.1]; exact hl.1.1.symm) hX.2.2.2.1 (hX.2.2.1 _ hl1) (hX.2.2.1 _ hl2) (hX.2.2.1 _ hl3) (hX.2.2.1 _ hl4) (by rw [hRm]; exact hR) (by rw [hRm]; exact hR2) (by rw [hRm]; exact hc) (by rw [hRm]; exact hs) hd (k h0 H locs ls hP hD hS hl)
def mmin (x y : Int32) : Int32 := if y < x then y else x
theorem g_mmin (hX : Gx κ Γ nL cc own rm rt) {x y : Int32} {index : Nat} (hl1 : Cond.methodLink own index Lib.Math.min.name ∈ TW) (hl2 : Cond.static Lib.Math.min.name ∈ TW) (hl3 : Cond.initialized "java/lang/Math" ∈ TW) (hl4 : Cond.code Lib.Math.min.name Lib.Math.min.code 2 (some .int) ∈ TW) (hd : decode cc pc = .ok (.invokestatic index, 3)) (hn : pc + 3 = n) (hR : 1 ≤ rm.frames) (hR2 : (rest.map fun v => v.category).sum + 13 ≤ rm.locals) (hc : cells ≤ rm.cells) (hs : slots ≤ rm.slots) (k : GG κ Γ nL QF cells slots σ lo n (.int (mmin x y) :: rest) o) : GG κ Γ nL QF cells slots σ lo pc (.int y :: .int x :: rest) o := by
  subst hn
  have hRm := hX.2.2.2.2.2.2.2.2.1
  intro h0 H locs ls hP hD hS hl
  refine va_mmin hX.1 hX.2.1 (by rw [hX.2.2.2.2.2.2.1]; exact hl.1.1.symm) hX.2.2.2.1 (hX.2.2.1 _ hl1) (hX.2.2.1 _ hl2) (hX.2.2.1 _ hl3) (hX.2.2.1 _ hl4) (by rw [hRm]; exact hR) (by rw [hRm]; exact hR2) (by rw [hRm]; exact hc) (by rw [hRm]; exact hs) hd (k h0 H locs ls hP hD hS hl)
def mabs (x : Int32) : Int32 := if 0 ≤ x then x else 0 - x
theorem g_mabs (hX : Gx κ Γ nL cc own rm rt) {x : Int32} {index : Nat} (hl1 : Cond.methodLink own index Lib.Math.abs.name ∈ TW) (hl2 : Cond.static Lib.Math.abs.name ∈ TW) (hl3 : Cond.initialized "java/lang/Math" ∈ TW) (hl4 : Cond.code Lib.Math.abs.name Lib.Math.abs.code 1 (some .int) ∈ TW) (hd : decode cc pc = .ok (.invokestatic index, 3)) (hn : pc + 3 = n) (hR : 1 ≤ rm.frames) (hR2 : (rest.map fun v => v.category).sum + 13 ≤ rm.locals) (hc : cells ≤ rm.cells) (hs : slots ≤ rm.slots) (k : GG κ Γ nL QF cells slots σ lo n (.int (mabs x) :: rest) o) : GG κ Γ nL QF cells slots σ lo pc (.int x :: rest) o := by
  subst hn
  have hRm := hX.2.2.2.2.2.2.2.2.1
  intro h0 H locs ls hP hD hS hl
  refine va_mabs hX.1 hX.2.1 (by rw [hX.2.2.2.2.2.2.1]; exact hl.1.1.symm) hX.2.2.2.1 (hX.2.2.1 _ hl1) (hX.2.2.1 _ hl2) (hX.2.2.1 _ hl3) (hX.2.2.1 _ hl4) (by rw [hRm]; exact hR) (by rw [hRm]; exact hR2) (by rw [hRm]; exact hc) (by rw [hRm]; exact hs) hd (k h0 H locs ls hP hD hS hl)
theorem g_copyK (hX : Gx κ Γ nL cc own rm rt) {q0 q1 N : Nat} {sp dp nn : Int32} {index : Nat} (hl1 : Cond.methodLink own index arraycopyName ∈ TW) (hl2 : Cond.native arraycopyName ∈ TW) (hl3 : Cond.static arraycopyName ∈ TW) (hl4 : Cond.initialized "java/lang/System" ∈ TW) (hd : decode cc pc = .ok (.invokestatic index, 3)) (hn : pc + 3 = n) (hs0 : gSh[q0]? = some (1, N, [])) (hs1 : gSh[q1]? = some (1, N, [])) (h1 : ¬ sp < 0) (h2 : ¬ dp < 0) (h3 : ¬ nn < 0) (h4 : sp.toNatClampNeg + nn.toNatClampNeg ≤ N) (h5 : dp.toNatClampNeg + nn.toNatClampNeg ≤ N)
    (hR : 1 ≤ rm.frames) (hR2 : (rest.map fun v => v.category).sum + (nativeFrameWords "java/lang/System" "arraycopy" 5 + 11) ≤ rm.locals) (k : GG κ Γ nL QF cells slots (mA σ q1 (va_cpy (σ q0) (σ q1) sp.toNatClampNeg dp.toNatClampNeg nn.toNatClampNeg)) lo n rest o) : GG κ Γ nL QF cells slots σ lo pc (.int nn :: .int dp :: .ref (Γ.2.1 q1) :: .int sp :: .ref (Γ.2.1 q0) :: rest) o := by
  subst hn
  have hRm := hX.2.2.2.2.2.2.2.2.1
  intro h0 H locs ls hP hD hS hl
  refine va_copyi hX.1 hX.2.1 (by rw [hX.2.2.2.2.2.2.1]; exact hl.1.1.symm) hX.2.2.2.1 (hX.2.2.1 _ hl1) (hX.2.2.1 _ hl2) (hX.2.2.1 _ hl3) (hX.2.2.1 _ hl4) hX.2.2.2.2.1 hP hD hS q0 q1 q0 q1 (ty := .int) (gwd_int Γ σ hs0) (gwd_int Γ σ hs1) (gT_1 Γ hs0) (gT_1 Γ hs1) rfl h1 h2 h3 h4 h5 (fun _ _ => rfl) (by rw [hRm]; exact hR) (by rw [hRm]; exact hR2) hd (fun H1 locs1 hP1 hD1 hS1 => ?_)
  have e1 : ∀ g : Nat → Int32, (gwd Γ σ).set q1 (Γ.2.1 q1, .inl (Γ.2.2.2 q1, N, .inl g)) = gwd Γ (mA σ q1 g) := fun g => gwd_set Γ (gsh_lt hs1) (by rw [gce1 Γ _ hs1, mA_self]) (fun j hj => mA_ne σ g hj)
  rw [e1] at hP1 hD1
  exact k h0 H1 locs1 ls hP1 hD1 hS1 hl
end GJ2
