/-! Pure part: the store. -/
section PS
theorem i32_swap (a b : Int32) : a - b + 1 = a + 1 - b := by
  rw [Int32.sub_eq_add_neg, Int32.sub_eq_add_neg, Int32.add_assoc, Int32.add_assoc, Int32.add_comm (-b) 1]
/-- the first stretch of free cells, searched from k on, d cells -/
def ffind (fr : Nat → Bool) (size : Int32) : Nat → Nat → Int32 → Int32
  | 0, _, _ => -1
  | d + 1, k, run => if (if fr k then run + 1 else 0) = size then nI k - size + 1 else ffind fr size d (k + 1) (if fr k then run + 1 else 0)
theorem ffind_ext (fr fr' : Nat → Bool) (size : Int32) : ∀ (d k : Nat) (run : Int32), (∀ c, k ≤ c → c < k + d → fr c = fr' c) → ffind fr size d k run = ffind fr' size d k run := by
  intro d
  induction d with
  | zero => intros; rfl
  | succ d ih =>
    intro k run h
    have hk := h k (Nat.le_refl _) (by omega)
    unfold ffind
    rw [hk, ih (k + 1) _ (fun c h1 h2 => h c (by omega) (by omega))]
theorem ffind_spec (fr : Nat → Bool) (sz : Nat) (hs : 1 ≤ sz) (hs2 : sz ≤ 400) : ∀ (d k r : Nat), k + d = 400 → r ≤ k → r < sz → (∀ c, k - r ≤ c → c < k → fr c = true) →
    ffind fr (nI sz) d k (nI r) = -1 ∨ ∃ s, ffind fr (nI sz) d k (nI r) = nI s ∧ s + sz ≤ 400 ∧ ∀ c, s ≤ c → c < s + sz → fr c = true := by
  intro d
  induction d with
  | zero => intros; left; rfl
  | succ d ih =>
    intro k r h1 h2 h3 h4
    unfold ffind
    by_cases hf : fr k = true
    · simp only [hf, if_true, nI_1]
      by_cases he : r + 1 = sz
      · rw [if_pos (by rw [he])]
        right
        refine ⟨k + 1 - sz, ?_, by omega, fun c hc1 hc2 => ?_⟩
        · rw [i32_swap, nI_1, pk_sub (by omega)]
        · by_cases hck : c = k
          · rw [hck]; exact hf
          · exact h4 c (by omega) (by omega)
      · rw [if_neg (by rw [nI_eq (by omega) (by omega)]; exact he)]
        exact ih (k + 1) (r + 1) (by omega) (by omega) (by omega) (fun c hc1 hc2 => by
          by_cases hck : c = k
          · rw [hck]; exact hf
          · exact h4 c (by omega) (by omega))
    · have hf' : fr k = false := by simpa using hf
      simp only [hf', Bool.false_eq_true, if_false]
      rw [if_neg (by rw [show (0 : Int32) = nI 0 from rfl, nI_eq (by omega) (by omega)]; omega)]
      exact ih (k + 1) 0 (by omega) (by omega) (by omega) (fun c hc1 hc2 => by omega)
theorem T_find_l (σ : Mem) (size : Int32) : ∀ (d k n : Nat) (run : Int32), k + d = 400 → d < n → f_T_firstFree_4 n σ size run (nI k) = some (ffind (fun c => decide (σ 8 c = 0)) size d k run, σ) := by
  intro d
  induction d with
  | zero =>
    intro k n run h1 h2
    obtain ⟨n, rfl⟩ : ∃ j, n = j + 1 := ⟨n - 1, by omega⟩
    show f_T_firstFree_4B (f_T_firstFree_4 n) σ size run (nI k) = _
    unfold f_T_firstFree_4B
    rw [if_pos (by simp (disch := (first | omega | (simp (disch := omega) only [nI_toInt, zk_0, zk_1, zk_2, zk_3, zk_4, zk_5, zk_6, zk_7, zk_8, zk_11, zk_12, zk_15, zk_16, zk_23, zk_24, zk_31, zk_32, zk_50, zk_255, zk_384, zk_400, zk_1023, zk_3072, zk_m1, zk_m50]; omega))) only [z_le, z_lt, z_eq, z_gin, z_cl, nI_toInt, z_add, z_sub, zk_0, zk_1, zk_2, zk_3, zk_4, zk_5, zk_6, zk_7, zk_8, zk_11, zk_12, zk_15, zk_16, zk_23, zk_24, zk_31, zk_32, zk_50, zk_255, zk_384, zk_400, zk_1023, zk_3072, zk_m1, zk_m50]; omega)]; rfl
  | succ d ih =>
    intro k n run h1 h2
    obtain ⟨n, rfl⟩ : ∃ j, n = j + 1 := ⟨n - 1, by omega⟩
    show f_T_firstFree_4B (f_T_firstFree_4 n) σ size run (nI k) = _
    unfold f_T_firstFree_4B f_T_firstFree_27 ffind
    rw [if_neg (by simp (disch := (first | omega | (simp (disch := omega) only [nI_toInt, zk_0, zk_1, zk_2, zk_3, zk_4, zk_5, zk_6, zk_7, zk_8, zk_11, zk_12, zk_15, zk_16, zk_23, zk_24, zk_31, zk_32, zk_50, zk_255, zk_384, zk_400, zk_1023, zk_3072, zk_m1, zk_m50]; omega))) only [z_le, z_lt, z_eq, z_gin, z_cl, nI_toInt, z_add, z_sub, zk_0, zk_1, zk_2, zk_3, zk_4, zk_5, zk_6, zk_7, zk_8, zk_11, zk_12, zk_15, zk_16, zk_23, zk_24, zk_31, zk_32, zk_50, zk_255, zk_384, zk_400, zk_1023, zk_3072, zk_m1, zk_m50]; omega), if_pos (gin_nI (by omega) (by omega)), nI_clamp (by omega), nI_1]
    by_cases h : σ 8 k = 0
    · simp only [h, decide_true, if_true]
      by_cases h5 : run + 1 = size
      · rw [if_pos h5, if_pos h5]
      · rw [if_neg h5, if_neg h5, ih (k + 1) n (run + 1) (by omega) (by omega)]
    · simp only [h, decide_false, if_false, Bool.false_eq_true]
      by_cases h5 : 0 = size
      · rw [if_pos h5, if_pos h5]
      · rw [if_neg h5, if_neg h5, ih (k + 1) n 0 (by omega) (by omega)]
theorem e_T_firstFree (σ : Mem) (size : Int32) : f_T_firstFree size σ = some (ffind (fun c => decide (σ 8 c = 0)) size 400 0 0, σ) :=
  T_find_l σ size 400 0 gN 0 rfl (by decide)
/-- the longest stretch of free cells -/
def flng (fr : Nat → Bool) : Nat → Nat → Int32 → Int32 → Int32
  | 0, _, best, _ => best
  | d + 1, k, best, run => flng fr d (k + 1) (mmax best (if fr k then run + 1 else 0)) (if fr k then run + 1 else 0)
theorem flng_ext (fr fr' : Nat → Bool) : ∀ (d k : Nat) (best run : Int32), (∀ c, k ≤ c → c < k + d → fr c = fr' c) → flng fr d k best run = flng fr' d k best run := by
  intro d
  induction d with
  | zero => intros; rfl
  | succ d ih =>
    intro k best run h
    have hk := h k (Nat.le_refl _) (by omega)
    unfold flng
    rw [hk, ih (k + 1) _ _ (fun c h1 h2 => h c (by omega) (by omega))]
theorem fcnt_ext (fr fr' : Nat → Bool) : ∀ (d k : Nat) (acc : Int32), (∀ c, k ≤ c → c < k + d → fr c = fr' c) → fcnt fr d k acc = fcnt fr' d k acc := by
  intro d
  induction d with
  | zero => intros; rfl
  | succ d ih =>
    intro k acc h
    have hk := h k (Nat.le_refl _) (by omega)
    unfold fcnt
    rw [hk, ih (k + 1) _ (fun c h1 h2 => h c (by omega) (by omega))]
theorem T_lng_l (σ : Mem) : ∀ (d k n : Nat) (best run : Int32), k + d = 400 → d < n → f_T_longestFree_6 n σ best run (nI k) = some (flng (fun c => decide (σ 8 c = 0)) d k best run, σ) := by
  intro d
  induction d with
  | zero =>
    intro k n best run h1 h2
    obtain ⟨n, rfl⟩ : ∃ j, n = j + 1 := ⟨n - 1, by omega⟩
    show f_T_longestFree_6B (f_T_longestFree_6 n) σ best run (nI k) = _
    unfold f_T_longestFree_6B
    rw [if_pos (by simp (disch := (first | omega | (simp (disch := omega) only [nI_toInt, zk_0, zk_1, zk_2, zk_3, zk_4, zk_5, zk_6, zk_7, zk_8, zk_11, zk_12, zk_15, zk_16, zk_23, zk_24, zk_31, zk_32, zk_50, zk_255, zk_384, zk_400, zk_1023, zk_3072, zk_m1, zk_m50]; omega))) only [z_le, z_lt, z_eq, z_gin, z_cl, nI_toInt, z_add, z_sub, zk_0, zk_1, zk_2, zk_3, zk_4, zk_5, zk_6, zk_7, zk_8, zk_11, zk_12, zk_15, zk_16, zk_23, zk_24, zk_31, zk_32, zk_50, zk_255, zk_384, zk_400, zk_1023, zk_3072, zk_m1, zk_m50]; omega)]; rfl
  | succ d ih =>
    intro k n best run h1 h2
    obtain ⟨n, rfl⟩ : ∃ j, n = j + 1 := ⟨n - 1, by omega⟩
    show f_T_longestFree_6B (f_T_longestFree_6 n) σ best run (nI k) = _
    unfold f_T_longestFree_6B f_T_longestFree_29 flng
    rw [if_neg (by simp (disch := (first | omega | (simp (disch := omega) only [nI_toInt, zk_0, zk_1, zk_2, zk_3, zk_4, zk_5, zk_6, zk_7, zk_8, zk_11, zk_12, zk_15, zk_16, zk_23, zk_24, zk_31, zk_32, zk_50, zk_255, zk_384, zk_400, zk_1023, zk_3072, zk_m1, zk_m50]; omega))) only [z_le, z_lt, z_eq, z_gin, z_cl, nI_toInt, z_add, z_sub, zk_0, zk_1, zk_2, zk_3, zk_4, zk_5, zk_6, zk_7, zk_8, zk_11, zk_12, zk_15, zk_16, zk_23, zk_24, zk_31, zk_32, zk_50, zk_255, zk_384, zk_400, zk_1023, zk_3072, zk_m1, zk_m50]; omega), if_pos (gin_nI (by omega) (by omega)), nI_clamp (by omega), nI_1]
    by_cases h : σ 8 k = 0
    · simp only [h, decide_true, if_true, gbi_e]
      rw [ih (k + 1) n _ _ (by omega) (by omega)]
    · simp only [h, decide_false, if_false, Bool.false_eq_true, gbi_e]
      rw [ih (k + 1) n _ _ (by omega) (by omega)]
theorem e_T_longestFree (σ : Mem) : f_T_longestFree σ = some (flng (fun c => decide (σ 8 c = 0)) 400 0 0 0, σ) :=
  T_lng_l σ 400 0 gN 0 0 rfl (by decide)
theorem T_take_l (s sz : Nat) (hs : s + sz ≤ 400) : ∀ (d k n : Nat) (μ : Mem), k + d = s + sz → s ≤ k → d < n → ∃ u, f_T_take_2 n μ (nI s) (nI sz) (nI k) = some u ∧ (∀ c, u 8 c = if k ≤ c ∧ c < s + sz then 1 else μ 8 c) ∧ (∀ c, u 6 c = if k ≤ c ∧ c < s + sz then 0 else μ 6 c) ∧ fr [6, 8] μ u := by
  intro d
  induction d with
  | zero =>
    intro k n μ h1 h2 h3
    obtain ⟨n, rfl⟩ : ∃ j, n = j + 1 := ⟨n - 1, by omega⟩
    show ∃ u, f_T_take_2B (f_T_take_2 n) μ (nI s) (nI sz) (nI k) = some u ∧ _
    unfold f_T_take_2B
    rw [nI_add, if_pos (by simp (disch := (first | omega | (simp (disch := omega) only [nI_toInt, zk_0, zk_1, zk_2, zk_3, zk_4, zk_5, zk_6, zk_7, zk_8, zk_11, zk_12, zk_15, zk_16, zk_23, zk_24, zk_31, zk_32, zk_50, zk_255, zk_384, zk_400, zk_1023, zk_3072, zk_m1, zk_m50]; omega))) only [z_le, z_lt, z_eq, z_gin, z_cl, nI_toInt, z_add, z_sub, zk_0, zk_1, zk_2, zk_3, zk_4, zk_5, zk_6, zk_7, zk_8, zk_11, zk_12, zk_15, zk_16, zk_23, zk_24, zk_31, zk_32, zk_50, zk_255, zk_384, zk_400, zk_1023, zk_3072, zk_m1, zk_m50]; omega)]
    exact ⟨μ, rfl, fun c => by rw [if_neg (by omega)], fun c => by rw [if_neg (by omega)], fr_rf⟩
  | succ d ih =>
    intro k n μ h1 h2 h3
    obtain ⟨n, rfl⟩ : ∃ j, n = j + 1 := ⟨n - 1, by omega⟩
    show ∃ u, f_T_take_2B (f_T_take_2 n) μ (nI s) (nI sz) (nI k) = some u ∧ _
    unfold f_T_take_2B
    rw [nI_add, if_neg (by simp (disch := (first | omega | (simp (disch := omega) only [nI_toInt, zk_0, zk_1, zk_2, zk_3, zk_4, zk_5, zk_6, zk_7, zk_8, zk_11, zk_12, zk_15, zk_16, zk_23, zk_24, zk_31, zk_32, zk_50, zk_255, zk_384, zk_400, zk_1023, zk_3072, zk_m1, zk_m50]; omega))) only [z_le, z_lt, z_eq, z_gin, z_cl, nI_toInt, z_add, z_sub, zk_0, zk_1, zk_2, zk_3, zk_4, zk_5, zk_6, zk_7, zk_8, zk_11, zk_12, zk_15, zk_16, zk_23, zk_24, zk_31, zk_32, zk_50, zk_255, zk_384, zk_400, zk_1023, zk_3072, zk_m1, zk_m50]; omega)]
    simp only [if_pos (gin_nI (show k < 400 by omega) (show 400 < 2147483648 by omega)), nI_clamp (show k < 2 ^ 31 by omega), gbm_e, nI_1]
    obtain ⟨u, e1, e2, e3, e4⟩ := ih (k + 1) n (m2 (m2 μ 8 k 1) 6 k 0) (by omega) (by omega) (by omega)
    refine ⟨u, e1, fun c => ?_, fun c => ?_, fr_tr (fr_m2 (fr_m2 fr_rf (by simp)) (by simp)) e4⟩
    · rw [e2 c]
      by_cases hc : c = k
      · subst hc; rw [if_neg (by omega), if_pos (by omega)]; simp [m2_at]
      · simp only [m2_at, hc, and_false, if_false]
        by_cases h5 : k + 1 ≤ c ∧ c < s + sz
        · rw [if_pos h5, if_pos (by omega)]
        · rw [if_neg h5, if_neg (by omega)]
    · rw [e3 c]
      by_cases hc : c = k
      · subst hc; rw [if_neg (by omega), if_pos (by omega)]; simp [m2_at]
      · simp only [m2_at, hc, and_false, if_false]
        by_cases h5 : k + 1 ≤ c ∧ c < s + sz
        · rw [if_pos h5, if_pos (by omega)]
        · rw [if_neg h5, if_neg (by omega)]
theorem e_T_take (σ : Mem) (s sz : Nat) (hs : s + sz ≤ 400) : ∃ u, f_T_take (nI s) (nI sz) σ = some u ∧ (∀ c, u 8 c = if s ≤ c ∧ c < s + sz then 1 else σ 8 c) ∧ (∀ c, u 6 c = if s ≤ c ∧ c < s + sz then 0 else σ 6 c) ∧ fr [6, 8] σ u :=
  T_take_l s sz hs sz s gN σ rfl (Nat.le_refl _) (by unfold gN; omega)
theorem T_rel_l (s sz : Nat) (hs : s + sz ≤ 400) : ∀ (d k n : Nat) (μ : Mem), k + d = s + sz → s ≤ k → d < n → ∃ u, f_T_release_2 n μ (nI s) (nI sz) (nI k) = some u ∧ (∀ c, u 8 c = if k ≤ c ∧ c < s + sz then 0 else μ 8 c) ∧ fr [8] μ u := by
  intro d
  induction d with
  | zero =>
    intro k n μ h1 h2 h3
    obtain ⟨n, rfl⟩ : ∃ j, n = j + 1 := ⟨n - 1, by omega⟩
    show ∃ u, f_T_release_2B (f_T_release_2 n) μ (nI s) (nI sz) (nI k) = some u ∧ _
    unfold f_T_release_2B
    rw [nI_add, if_pos (by simp (disch := (first | omega | (simp (disch := omega) only [nI_toInt, zk_0, zk_1, zk_2, zk_3, zk_4, zk_5, zk_6, zk_7, zk_8, zk_11, zk_12, zk_15, zk_16, zk_23, zk_24, zk_31, zk_32, zk_50, zk_255, zk_384, zk_400, zk_1023, zk_3072, zk_m1, zk_m50]; omega))) only [z_le, z_lt, z_eq, z_gin, z_cl, nI_toInt, z_add, z_sub, zk_0, zk_1, zk_2, zk_3, zk_4, zk_5, zk_6, zk_7, zk_8, zk_11, zk_12, zk_15, zk_16, zk_23, zk_24, zk_31, zk_32, zk_50, zk_255, zk_384, zk_400, zk_1023, zk_3072, zk_m1, zk_m50]; omega)]
    exact ⟨μ, rfl, fun c => by rw [if_neg (by omega)], fr_rf⟩
  | succ d ih =>
    intro k n μ h1 h2 h3
    obtain ⟨n, rfl⟩ : ∃ j, n = j + 1 := ⟨n - 1, by omega⟩
    show ∃ u, f_T_release_2B (f_T_release_2 n) μ (nI s) (nI sz) (nI k) = some u ∧ _
    unfold f_T_release_2B
    rw [nI_add, if_neg (by simp (disch := (first | omega | (simp (disch := omega) only [nI_toInt, zk_0, zk_1, zk_2, zk_3, zk_4, zk_5, zk_6, zk_7, zk_8, zk_11, zk_12, zk_15, zk_16, zk_23, zk_24, zk_31, zk_32, zk_50, zk_255, zk_384, zk_400, zk_1023, zk_3072, zk_m1, zk_m50]; omega))) only [z_le, z_lt, z_eq, z_gin, z_cl, nI_toInt, z_add, z_sub, zk_0, zk_1, zk_2, zk_3, zk_4, zk_5, zk_6, zk_7, zk_8, zk_11, zk_12, zk_15, zk_16, zk_23, zk_24, zk_31, zk_32, zk_50, zk_255, zk_384, zk_400, zk_1023, zk_3072, zk_m1, zk_m50]; omega)]
    simp only [if_pos (gin_nI (show k < 400 by omega) (show 400 < 2147483648 by omega)), nI_clamp (show k < 2 ^ 31 by omega), gbm_e, nI_1]
    obtain ⟨u, e1, e2, e4⟩ := ih (k + 1) n (m2 μ 8 k 0) (by omega) (by omega) (by omega)
    refine ⟨u, e1, fun c => ?_, fr_tr (fr_m2 fr_rf (by simp)) e4⟩
    rw [e2 c]
    by_cases hc : c = k
    · subst hc; rw [if_neg (by omega), if_pos (by omega)]; simp [m2_at]
    · simp only [m2_at, hc, and_false, if_false]
      by_cases h5 : k + 1 ≤ c ∧ c < s + sz
      · rw [if_pos h5, if_pos (by omega)]
      · rw [if_neg h5, if_neg (by omega)]
theorem e_T_release (σ : Mem) (s sz : Nat) (hs : s + sz ≤ 400) : ∃ u, f_T_release (nI s) (nI sz) σ = some u ∧ (∀ c, u 8 c = if s ≤ c ∧ c < s + sz then 0 else σ 8 c) ∧ fr [8] σ u :=
  T_rel_l s sz hs sz s gN σ rfl (Nat.le_refl _) (by unfold gN; omega)
theorem e_T_keepOld (σ : Mem) : ∃ u, f_T_keepOld σ = some u ∧ (∀ c, c < 400 → u 7 c = σ 6 c) ∧ fr [7] σ u := by
  refine ⟨_, rfl, fun c hc => ?_, fun q hq => ?_⟩
  · rw [mA_self]
    show (if 0 ≤ c ∧ c < 0 + 400 then σ 6 (0 + (c - 0)) else σ 7 c) = σ 6 c
    rw [if_pos (by omega)]; congr 1; omega
  · exact mA_ne σ _ (by simpa using hq)
end PS
section PS2
/-- window k's stretch holds cell c -/
def blk (W : Nat → Nat → Int32) (c k : Nat) : Bool := decide (¬ W k 0 = 0) && decide (¬ nI c < W k 5) && decide (nI c < W k 5 + W k 3 * W k 4)
def frD (W : Nat → Nat → Int32) (c : Nat) : Nat → Nat → Bool → Bool
  | 0, _, b => b
  | d + 1, k, b => frD W c d (k + 1) (b && !blk W c k)
/-- cell c is free -/
def frW (W : Nat → Nat → Int32) (c : Nat) : Bool := frD W c 8 0 true
theorem frD_iff (W : Nat → Nat → Int32) (c : Nat) : ∀ (d k : Nat) (b : Bool), frD W c d k b = true ↔ b = true ∧ ∀ i, k ≤ i → i < k + d → blk W c i = false := by
  intro d
  induction d with
  | zero => intro k b; simp only [frD]; constructor
            · intro h; exact ⟨h, fun i h1 h2 => by omega⟩
            · intro h; exact h.1
  | succ d ih =>
    intro k b
    simp only [frD]
    rw [ih (k + 1)]
    constructor
    · rintro ⟨h1, h2⟩
      simp only [Bool.and_eq_true, Bool.not_eq_true'] at h1
      refine ⟨h1.1, fun i hi1 hi2 => ?_⟩
      by_cases hik : i = k
      · rw [hik]; exact h1.2
      · exact h2 i (by omega) (by omega)
    · rintro ⟨h1, h2⟩
      refine ⟨?_, fun i hi1 hi2 => h2 i (by omega) (by omega)⟩
      simp only [Bool.and_eq_true, Bool.not_eq_true']
      exact ⟨h1, h2 k (Nat.le_refl _) (by omega)⟩
theorem frW_iff (W : Nat → Nat → Int32) (c : Nat) : frW W c = true ↔ ∀ i, i < 8 → blk W c i = false := by
  unfold frW; rw [frD_iff]
  constructor
  · rintro ⟨-, h⟩ i hi; exact h i (by omega) (by omega)
  · intro h; exact ⟨rfl, fun i _ hi => h i (by omega)⟩
end PS2
