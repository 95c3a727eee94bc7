/-! Pure part: the reference's damage. -/
section MB
variable {σ : Mem} {W : Wnd} {O : List Nat} {P : Nat → Nat → Nat → Int32} {S : Nat → Int32} {D E : List Evt} {X : Int32} {T : Evt} {F N : Int32} {M : Int}
def rOK (d : Evt) : Prop := 0 ≤ d.1.toInt ∧ d.1.toInt < d.2.2.1.toInt ∧ d.2.2.1.toInt ≤ 24 ∧ 0 ≤ d.2.1.toInt ∧ d.2.1.toInt < d.2.2.2.toInt ∧ d.2.2.2.toInt ≤ 16
def DI (D : List Evt) : Prop := ∀ d ∈ D, rOK d
theorem mmin_i (x y : Int32) : (mmin x y).toInt = min x.toInt y.toInt := by
  unfold mmin; by_cases h : y < x
  · rw [if_pos h]; rw [z_lt] at h; omega
  · rw [if_neg h]; rw [z_lt] at h; omega
theorem mmax_i (x y : Int32) : (mmax x y).toInt = max x.toInt y.toInt := by
  unfold mmax; by_cases h : x < y
  · rw [if_pos h]; rw [z_lt] at h; omega
  · rw [if_neg h]; rw [z_lt] at h; omega
theorem djn_ok {z d : Evt} (hz : rOK z) (hd : rOK d) : rOK (djn z d) := by
  unfold rOK djn at *
  simp only [mmin_i, mmax_i]
  omega
theorem fold_ok : ∀ (D : List Evt) (z : Evt), rOK z → (∀ d ∈ D, rOK d) → rOK (D.foldl djn z) := by
  intro D
  induction D with
  | nil => intro z hz _; exact hz
  | cons d t ih => intro z hz h; exact ih (djn z d) (djn_ok hz (h d (by simp))) (fun x hx => h x (by simp [hx]))
theorem DI_add (h : DI D) (l t r b : Int32) : DI (dadd D l t r b) := by
  unfold dadd
  by_cases h1 : (dclip l t r b).2.2.1 ≤ (dclip l t r b).1 ∨ (dclip l t r b).2.2.2 ≤ (dclip l t r b).2.1
  · rw [if_pos h1]; exact h
  rw [if_neg h1]
  have hz : rOK (dclip l t r b) := by
    unfold rOK dclip at *
    simp only [z_le, mmin_i, mmax_i, zk_0, zk_24, zk_16] at *
    omega
  by_cases h2 : D.length < 6
  · rw [if_pos h2]; intro d hd
    rcases List.mem_append.1 hd with q | q
    · exact h d q
    · rw [List.mem_singleton.1 q]; exact hz
  · rw [if_neg h2]; intro d hd; rw [List.mem_singleton.1 hd]; exact fold_ok D _ hz h
/-- two rectangles joined, right and bottom inside -/
def jn (z v : Evt) : Evt := (if z.1 ≤ v.1 then z.1 else v.1, if z.2.1 ≤ v.2.1 then z.2.1 else v.2.1, if v.2.2.1 ≤ z.2.2.1 then z.2.2.1 else v.2.2.1, if v.2.2.2 ≤ z.2.2.2 then z.2.2.2 else v.2.2.2)
def jfd (V : Nat → Evt) : Nat → Nat → Evt → Evt
  | 0, _, z => z
  | d + 1, k, z => jfd V d (k + 1) (jn z (V k))
def at4 (μ : Mem) (i : Nat) (e : Evt) : Prop := μ 32 i = e.1 ∧ μ 33 i = e.2.1 ∧ μ 34 i = e.2.2.1 ∧ μ 35 i = e.2.2.2
theorem M_join_l (V : Nat → Evt) : ∀ (d k n : Nat) (μ : Mem) (z : Evt), k + d = 7 → 1 ≤ k → d < n → at4 μ 0 z → (∀ i, 1 ≤ i → i < 7 → at4 μ i (V i)) →
    ∃ u, f_M_damage_133 n μ (nI k) = some u ∧ at4 u 0 (jfd V d k z) ∧ u 19 16 = 1 ∧ fr [19, 32, 33, 34, 35] μ u ∧ fo [16] μ u := by
  intro d
  induction d with
  | zero =>
    intro k n μ z h1 h2 h3 h4 h5
    obtain ⟨n, rfl⟩ : ∃ j, n = j + 1 := ⟨n - 1, by omega⟩
    show ∃ u, f_M_damage_133B (f_M_damage_133 n) μ (nI k) = some u ∧ _
    unfold f_M_damage_133B f_M_damage_303
    rw [if_pos (by simp (disch := (first | omega | (simp (disch := omega) only [nI_toInt, zk_0, zk_1, zk_2, zk_3, zk_4, zk_5, zk_6, zk_7, zk_8, zk_11, zk_12, zk_15, zk_16, zk_23, zk_24, zk_31, zk_32, zk_50, zk_255, zk_384, zk_400, zk_1023, zk_3072, zk_m1, zk_m50]; omega))) only [z_le, z_lt, z_eq, z_gin, z_cl, nI_toInt, z_add, z_sub, zk_0, zk_1, zk_2, zk_3, zk_4, zk_5, zk_6, zk_7, zk_8, zk_11, zk_12, zk_15, zk_16, zk_23, zk_24, zk_31, zk_32, zk_50, zk_255, zk_384, zk_400, zk_1023, zk_3072, zk_m1, zk_m50]; omega)]
    refine ⟨_, rfl, ?_, ?_, fr_m2 fr_rf (by simp), fo_m2 fo_rf (by simp)⟩
    · unfold at4 at h4 ⊢; simpa [m2_at, jfd] using h4
    · rw [m2_at, if_pos ⟨rfl, rfl⟩]
  | succ d ih =>
    intro k n μ z h1 h2 h3 h4 h5
    obtain ⟨n, rfl⟩ : ∃ j, n = j + 1 := ⟨n - 1, by omega⟩
    show ∃ u, f_M_damage_133B (f_M_damage_133 n) μ (nI k) = some u ∧ _
    obtain ⟨z1, z2, z3, z4⟩ := h4
    obtain ⟨v1, v2, v3, v4⟩ := h5 k h2 (by omega)
    have hg : gin (nI k) 7 = true := gin_nI (by omega) (by omega)
    have hc : (nI k).toNatClampNeg = k := nI_clamp (by omega)
    have g0 : gin 0 7 = true := by decide
    have c0 : (0 : Int32).toNatClampNeg = 0 := rfl
    have b291 : ∀ (K : Mem → Int32 → Option Mem) (τ : Mem) (x : Int32), f_M_damage_291 K τ (nI k) x = K (m2 τ 35 0 x) (nI (k + 1)) := fun K τ x => by
      unfold f_M_damage_291; rw [if_pos g0, gbm_e, c0, nI_1]
    have b253 : ∀ (K : Mem → Int32 → Option Mem) (τ : Mem) (x : Int32), f_M_damage_253 K τ (nI k) x = K (m2 (m2 τ 34 0 x) 35 0 (if τ 35 k ≤ τ 35 0 then τ 35 0 else τ 35 k)) (nI (k + 1)) := fun K τ x => by
      have e1 : ∀ i, m2 τ 34 0 x 35 i = τ 35 i := fun i => by rw [m2_at, if_neg (by omega)]
      unfold f_M_damage_253
      rw [if_pos g0, gbm_e, c0, hc, if_pos hg, if_pos g0, e1, e1]
      by_cases h : τ 35 k ≤ τ 35 0
      · rw [if_pos h, if_pos g0, b291, if_pos h]
      · rw [if_neg h, if_pos hg, b291, if_neg h]
    have b215 : ∀ (K : Mem → Int32 → Option Mem) (τ : Mem) (x : Int32), f_M_damage_215 K τ (nI k) x = K (m2 (m2 (m2 τ 33 0 x) 34 0 (if τ 34 k ≤ τ 34 0 then τ 34 0 else τ 34 k)) 35 0 (if τ 35 k ≤ τ 35 0 then τ 35 0 else τ 35 k)) (nI (k + 1)) := fun K τ x => by
      have e1 : ∀ i, m2 τ 33 0 x 34 i = τ 34 i := fun i => by rw [m2_at, if_neg (by omega)]
      have e2 : ∀ i, m2 τ 33 0 x 35 i = τ 35 i := fun i => by rw [m2_at, if_neg (by omega)]
      unfold f_M_damage_215
      rw [if_pos g0, gbm_e, c0, hc, if_pos hg, if_pos g0, e1, e1]
      by_cases h : τ 34 k ≤ τ 34 0
      · rw [if_pos h, if_pos g0, b253, if_pos h, e2, e2]
      · rw [if_neg h, if_pos hg, b253, if_neg h, e2, e2]
    have b177 : ∀ (K : Mem → Int32 → Option Mem) (τ : Mem) (x : Int32), f_M_damage_177 K τ (nI k) x = K (m2 (m2 (m2 (m2 τ 32 0 x) 33 0 (if τ 33 0 ≤ τ 33 k then τ 33 0 else τ 33 k)) 34 0 (if τ 34 k ≤ τ 34 0 then τ 34 0 else τ 34 k)) 35 0 (if τ 35 k ≤ τ 35 0 then τ 35 0 else τ 35 k)) (nI (k + 1)) := fun K τ x => by
      have e1 : ∀ i, m2 τ 32 0 x 33 i = τ 33 i := fun i => by rw [m2_at, if_neg (by omega)]
      have e2 : ∀ i, m2 τ 32 0 x 34 i = τ 34 i := fun i => by rw [m2_at, if_neg (by omega)]
      have e3 : ∀ i, m2 τ 32 0 x 35 i = τ 35 i := fun i => by rw [m2_at, if_neg (by omega)]
      unfold f_M_damage_177
      rw [if_pos g0, gbm_e, c0, hc, if_pos hg, if_pos g0, e1, e1]
      by_cases h : τ 33 0 ≤ τ 33 k
      · rw [if_pos h, if_pos g0, b215, if_pos h, e2, e2, e3, e3]
      · rw [if_neg h, if_pos hg, b215, if_neg h, e2, e2, e3, e3]
    have b133 : f_M_damage_133B (f_M_damage_133 n) μ (nI k) = f_M_damage_133 n (m2 (m2 (m2 (m2 μ 32 0 (jn z (V k)).1) 33 0 (jn z (V k)).2.1) 34 0 (jn z (V k)).2.2.1) 35 0 (jn z (V k)).2.2.2) (nI (k + 1)) := by
      unfold f_M_damage_133B
      rw [if_neg (by simp (disch := (first | omega | (simp (disch := omega) only [nI_toInt, zk_0, zk_1, zk_2, zk_3, zk_4, zk_5, zk_6, zk_7, zk_8, zk_11, zk_12, zk_15, zk_16, zk_23, zk_24, zk_31, zk_32, zk_50, zk_255, zk_384, zk_400, zk_1023, zk_3072, zk_m1, zk_m50]; omega))) only [z_le, z_lt, z_eq, z_gin, z_cl, nI_toInt, z_add, z_sub, zk_0, zk_1, zk_2, zk_3, zk_4, zk_5, zk_6, zk_7, zk_8, zk_11, zk_12, zk_15, zk_16, zk_23, zk_24, zk_31, zk_32, zk_50, zk_255, zk_384, zk_400, zk_1023, zk_3072, zk_m1, zk_m50]; omega), if_pos hg, if_pos g0, c0, hc]
      unfold jn
      by_cases h : μ 32 0 ≤ μ 32 k
      · rw [if_pos h, if_pos g0, b177, z1, z2, z3, z4, v2, v3, v4]; rw [z1, v1] at h; simp only [if_pos h]
      · rw [if_neg h, if_pos hg, b177, v1, z2, z3, z4, v2, v3, v4]; rw [z1, v1] at h; simp only [if_neg h]
    rw [b133]
    obtain ⟨u, e1, e2, e3, e4, e5⟩ := ih (k + 1) n (m2 (m2 (m2 (m2 μ 32 0 (jn z (V k)).1) 33 0 (jn z (V k)).2.1) 34 0 (jn z (V k)).2.2.1) 35 0 (jn z (V k)).2.2.2) (jn z (V k)) (by omega) (by omega) (by omega) (by unfold at4; simp [m2_at]) (fun i h6 h7 => by
      have := h5 i h6 h7
      unfold at4 at this ⊢
      simpa [m2_at, show ¬ i = 0 by omega] using this)
    exact ⟨u, e1, e2, e3, fr_tr (fr_m2 (fr_m2 (fr_m2 (fr_m2 fr_rf (by simp)) (by simp)) (by simp)) (by simp)) e4, fo_tr (fo_m2o (fo_m2o (fo_m2o (fo_m2o fo_rf (by decide)) (by decide)) (by decide)) (by decide)) e5⟩
theorem min7 (a b c d e f z : Int) : min (min (min (min (min (min a b) c) d) e) f) z = min (min (min (min (min (min z a) b) c) d) e) f := by
  rw [Int.min_comm _ z, ← Int.min_assoc, ← Int.min_assoc, ← Int.min_assoc, ← Int.min_assoc, ← Int.min_assoc]
theorem max7 (a b c d e f z : Int) : max (max (max (max (max (max a b) c) d) e) f) z = max (max (max (max (max (max z a) b) c) d) e) f := by
  rw [Int.max_comm _ z, ← Int.max_assoc, ← Int.max_assoc, ← Int.max_assoc, ← Int.max_assoc, ← Int.max_assoc]
theorem jlo (x y : Int32) : (if x ≤ y then x else y).toInt = min x.toInt y.toInt := by
  by_cases h : x ≤ y
  · rw [if_pos h]; rw [z_le] at h; omega
  · rw [if_neg h]; rw [z_le] at h; omega
theorem jhi (x y : Int32) : (if y ≤ x then x else y).toInt = max x.toInt y.toInt := by
  by_cases h : y ≤ x
  · rw [if_pos h]; rw [z_le] at h; omega
  · rw [if_neg h]; rw [z_le] at h; omega
theorem max_m1 (a b : Int) : max (a - 1) (b - 1) = max a b - 1 := by omega
theorem join_eq (d0 d1 d2 d3 d4 d5 z : Evt) (h0 : rOK d0) (h1 : rOK d1) (h2 : rOK d2) (h3 : rOK d3) (h4 : rOK d4) (h5 : rOK d5) (hz : rOK z) :
    jn (jn (jn (jn (jn (jn (dinc d0) (dinc d1)) (dinc d2)) (dinc d3)) (dinc d4)) (dinc d5)) (dinc z) = dinc (djn (djn (djn (djn (djn (djn z d0) d1) d2) d3) d4) d5) := by
  have hm : ∀ d : Evt, rOK d → (d.2.2.1 - 1).toInt = d.2.2.1.toInt - 1 ∧ (d.2.2.2 - 1).toInt = d.2.2.2.toInt - 1 := fun d hd => by
    unfold rOK at hd
    exact ⟨by rw [z_sub (by rw [zk_1]; omega) (by rw [zk_1]; omega), zk_1], by rw [z_sub (by rw [zk_1]; omega) (by rw [zk_1]; omega), zk_1]⟩
  have hj := hm _ (djn_ok (djn_ok (djn_ok (djn_ok (djn_ok (djn_ok hz h0) h1) h2) h3) h4) h5)
  refine Prod.ext ?_ (Prod.ext ?_ (Prod.ext ?_ ?_))
  · rw [z_eq]; unfold jn dinc djn; simp only [jlo, mmin_i]; exact min7 _ _ _ _ _ _ _
  · rw [z_eq]; unfold jn dinc djn; simp only [jlo, mmin_i]; exact min7 _ _ _ _ _ _ _
  · rw [z_eq]
    refine Eq.trans ?_ hj.1.symm
    unfold jn dinc djn
    simp only [jhi, mmax_i, (hm _ h0).1, (hm _ h1).1, (hm _ h2).1, (hm _ h3).1, (hm _ h4).1, (hm _ h5).1, (hm _ hz).1, max_m1]
    rw [max7]
  · rw [z_eq]
    refine Eq.trans ?_ hj.2.symm
    unfold jn dinc djn
    simp only [jhi, mmax_i, (hm _ h0).2, (hm _ h1).2, (hm _ h2).2, (hm _ h3).2, (hm _ h4).2, (hm _ h5).2, (hm _ hz).2, max_m1]
    rw [max7]
end MB
