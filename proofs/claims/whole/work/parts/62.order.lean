/-! Pure part: the class's order of windows. -/
section PO
/-- the order's cells hold the list O -/
def Cord (σ : Mem) (O : List Nat) : Prop := σ 3 1 = nI O.length ∧ O.length ≤ 8 ∧ ∀ i, i < O.length → σ 4 i = nI (O.getD i 0)
theorem Cord.keep {σ u : Mem} {O : List Nat} (h : Cord σ O) (h3 : u 3 = σ 3) (h4 : u 4 = σ 4) : Cord u O := by
  unfold Cord; rw [h3, h4]; exact h
def hdI (O : List Nat) : Int32 := match O with
  | [] => -1
  | w :: _ => nI w
def lsI (O : List Nat) : Int32 := if O.length = 0 then -1 else nI (O.getD (O.length - 1) 0)
theorem e_O_first {σ : Mem} {O : List Nat} (h : Cord σ O) : f_O_first σ = some (hdI O, σ) := by
  obtain ⟨h1, h2, h3⟩ := h
  unfold f_O_first f_O_first_0 f_O_first_17
  cases O with
  | nil => rw [h1, if_pos (by decide)]; rfl
  | cons w t =>
    rw [h1, if_neg (by simp only [List.length_cons] at h2 ⊢; simp (disch := (first | omega | (simp (disch := omega) only [nI_toInt, zk_0, zk_1, zk_2, zk_3, zk_4, zk_5, zk_6, zk_7, zk_8, zk_11, zk_12, zk_15, zk_16, zk_23, zk_24, zk_31, zk_32, zk_50, zk_255, zk_384, zk_400, zk_1023, zk_3072, zk_m1, zk_m50]; omega))) only [z_le, z_lt, z_eq, z_gin, z_cl, nI_toInt, z_add, z_sub, zk_0, zk_1, zk_2, zk_3, zk_4, zk_5, zk_6, zk_7, zk_8, zk_11, zk_12, zk_15, zk_16, zk_23, zk_24, zk_31, zk_32, zk_50, zk_255, zk_384, zk_400, zk_1023, zk_3072, zk_m1, zk_m50]; omega), if_pos (by decide)]
    have := h3 0 (by simp)
    rw [show (0 : Int32).toNatClampNeg = 0 from rfl, this]; rfl
theorem e_O_last {σ : Mem} {O : List Nat} (h : Cord σ O) : f_O_last σ = some (lsI O, σ) := by
  obtain ⟨h1, h2, h3⟩ := h
  unfold f_O_last f_O_last_0 f_O_last_22 lsI
  by_cases h0 : O.length = 0
  · rw [h1, if_pos (by rw [h0]; decide), if_pos h0]
  · have e1 : nI O.length - 1 = nI (O.length - 1) := by
      rw [z_eq]; simp (disch := (first | omega | (simp (disch := omega) only [nI_toInt, zk_0, zk_1, zk_2, zk_3, zk_4, zk_5, zk_6, zk_7, zk_8, zk_11, zk_12, zk_15, zk_16, zk_23, zk_24, zk_31, zk_32, zk_50, zk_255, zk_384, zk_400, zk_1023, zk_3072, zk_m1, zk_m50]; omega))) only [z_le, z_lt, z_eq, z_gin, z_cl, nI_toInt, z_add, z_sub, zk_0, zk_1, zk_2, zk_3, zk_4, zk_5, zk_6, zk_7, zk_8, zk_11, zk_12, zk_15, zk_16, zk_23, zk_24, zk_31, zk_32, zk_50, zk_255, zk_384, zk_400, zk_1023, zk_3072, zk_m1, zk_m50]; omega
    rw [h1, if_neg (by simp (disch := (first | omega | (simp (disch := omega) only [nI_toInt, zk_0, zk_1, zk_2, zk_3, zk_4, zk_5, zk_6, zk_7, zk_8, zk_11, zk_12, zk_15, zk_16, zk_23, zk_24, zk_31, zk_32, zk_50, zk_255, zk_384, zk_400, zk_1023, zk_3072, zk_m1, zk_m50]; omega))) only [z_le, z_lt, z_eq, z_gin, z_cl, nI_toInt, z_add, z_sub, zk_0, zk_1, zk_2, zk_3, zk_4, zk_5, zk_6, zk_7, zk_8, zk_11, zk_12, zk_15, zk_16, zk_23, zk_24, zk_31, zk_32, zk_50, zk_255, zk_384, zk_400, zk_1023, zk_3072, zk_m1, zk_m50]; omega), e1, if_pos (gin_nI (by omega) (by omega)), nI_clamp (by omega), h3 _ (by omega), if_neg h0]
theorem O_front_l (x : Int32) (old : Nat → Int32) (len : Nat) (hlen : len < 8) : ∀ (r n : Nat) (μ : Mem), r < n → r ≤ len → (∀ i, μ 4 i = if r < i ∧ i ≤ len then old (i - 1) else old i) →
    ∃ u, f_O_addInFront_15 n μ x (nI r) = some u ∧ (∀ i, u 4 i = if i = 0 then x else if i ≤ len then old (i - 1) else old i) ∧ u 3 1 = μ 3 1 + 1 ∧ fr [3, 4] μ u := by
  intro r
  induction r with
  | zero =>
    intro n μ hn hr hμ
    obtain ⟨n, rfl⟩ : ∃ j, n = j + 1 := ⟨n - 1, by omega⟩
    show ∃ u, f_O_addInFront_15B (f_O_addInFront_15 n) μ x (nI 0) = some u ∧ _
    unfold f_O_addInFront_15B
    rw [if_pos (by decide), if_pos (by decide)]
    refine ⟨_, rfl, fun i => ?_, ?_, fr_m2 (fr_m2 fr_rf (by simp)) (by simp)⟩
    · rw [m2_at, if_neg (by omega), m2_at, hμ i]
      show (if 4 = 4 ∧ i = 0 then x else _) = _
      by_cases hi : i = 0
      · simp [hi]
      · simp only [hi, and_false, if_false]
        by_cases h2 : i ≤ len
        · rw [if_pos ⟨by omega, h2⟩, if_pos h2]
        · rw [if_neg (by omega), if_neg h2]
    · rw [m2_at, if_pos ⟨rfl, rfl⟩, m2_at, if_neg (by omega)]
  | succ r ih =>
    intro n μ hn hr hμ
    obtain ⟨n, rfl⟩ : ∃ j, n = j + 1 := ⟨n - 1, by omega⟩
    show ∃ u, f_O_addInFront_15B (f_O_addInFront_15 n) μ x (nI (r + 1)) = some u ∧ _
    unfold f_O_addInFront_15B
    have e1 : nI (r + 1) - 1 = nI r := nI_pred r
    have e2 : nI (r + 1) + (-1) = nI r := pk_m1 r
    rw [if_neg (by simp (disch := (first | omega | (simp (disch := omega) only [nI_toInt, zk_0, zk_1, zk_2, zk_3, zk_4, zk_5, zk_6, zk_7, zk_8, zk_11, zk_12, zk_15, zk_16, zk_23, zk_24, zk_31, zk_32, zk_50, zk_255, zk_384, zk_400, zk_1023, zk_3072, zk_m1, zk_m50]; omega))) only [z_le, z_lt, z_eq, z_gin, z_cl, nI_toInt, z_add, z_sub, zk_0, zk_1, zk_2, zk_3, zk_4, zk_5, zk_6, zk_7, zk_8, zk_11, zk_12, zk_15, zk_16, zk_23, zk_24, zk_31, zk_32, zk_50, zk_255, zk_384, zk_400, zk_1023, zk_3072, zk_m1, zk_m50]; omega), e1, e2, if_pos (gin_nI (by omega) (by omega)), if_pos (gin_nI (by omega) (by omega)), nI_clamp (by omega), nI_clamp (by omega)]
    obtain ⟨u, h1, h2, h3, h4⟩ := ih n (m2 μ 4 (r + 1) (μ 4 r)) (by omega) (by omega) (fun i => by
      rw [m2_at, hμ i]
      by_cases hi : i = r + 1
      · subst hi
        rw [if_pos ⟨rfl, rfl⟩, hμ r, if_neg (by omega), if_pos ⟨by omega, by omega⟩]; congr 1
      · rw [if_neg (by omega)]
        by_cases h5 : r + 1 < i ∧ i ≤ len
        · rw [if_pos h5, if_pos ⟨by omega, h5.2⟩]
        · rw [if_neg h5, if_neg (by omega)])
    refine ⟨u, h1, h2, ?_, fr_tr (fr_m2 fr_rf (by simp)) h4⟩
    rw [h3, m2_at, if_neg (by omega)]
theorem e_O_addInFront {σ : Mem} {O : List Nat} (w : Nat) (h : Cord σ O) (hl : O.length < 8) : ∃ u, f_O_addInFront (nI w) σ = some u ∧ Cord u (w :: O) ∧ fr [3, 4] σ u := by
  obtain ⟨h1, h2, h3⟩ := h
  unfold f_O_addInFront f_O_addInFront_0
  rw [h1, if_pos (by simp (disch := (first | omega | (simp (disch := omega) only [nI_toInt, zk_0, zk_1, zk_2, zk_3, zk_4, zk_5, zk_6, zk_7, zk_8, zk_11, zk_12, zk_15, zk_16, zk_23, zk_24, zk_31, zk_32, zk_50, zk_255, zk_384, zk_400, zk_1023, zk_3072, zk_m1, zk_m50]; omega))) only [z_le, z_lt, z_eq, z_gin, z_cl, nI_toInt, z_add, z_sub, zk_0, zk_1, zk_2, zk_3, zk_4, zk_5, zk_6, zk_7, zk_8, zk_11, zk_12, zk_15, zk_16, zk_23, zk_24, zk_31, zk_32, zk_50, zk_255, zk_384, zk_400, zk_1023, zk_3072, zk_m1, zk_m50]; omega)]
  obtain ⟨u, e1, e2, e3, e4⟩ := O_front_l (nI w) (σ 4) O.length hl O.length gN σ (by unfold gN; omega) (Nat.le_refl _) (fun i => by rw [if_neg (by omega)])
  refine ⟨u, e1, ⟨?_, by simp only [List.length_cons]; omega, fun i hi => ?_⟩, e4⟩
  · rw [e3, h1]; simp only [List.length_cons]; exact nI_1 _
  · rw [e2 i]
    cases i with
    | zero => rfl
    | succ j =>
      simp only [List.length_cons] at hi
      rw [if_neg (by omega), if_pos (by omega), Nat.add_sub_cancel, h3 j (by omega)]; rfl
theorem e_O_addBehind {σ : Mem} {O : List Nat} (w : Nat) (h : Cord σ O) (hl : O.length < 8) : ∃ u, f_O_addBehind (nI w) σ = some u ∧ Cord u (O ++ [w]) ∧ fr [3, 4] σ u := by
  obtain ⟨h1, h2, h3⟩ := h
  unfold f_O_addBehind f_O_addBehind_0
  rw [h1, if_pos (by simp (disch := (first | omega | (simp (disch := omega) only [nI_toInt, zk_0, zk_1, zk_2, zk_3, zk_4, zk_5, zk_6, zk_7, zk_8, zk_11, zk_12, zk_15, zk_16, zk_23, zk_24, zk_31, zk_32, zk_50, zk_255, zk_384, zk_400, zk_1023, zk_3072, zk_m1, zk_m50]; omega))) only [z_le, z_lt, z_eq, z_gin, z_cl, nI_toInt, z_add, z_sub, zk_0, zk_1, zk_2, zk_3, zk_4, zk_5, zk_6, zk_7, zk_8, zk_11, zk_12, zk_15, zk_16, zk_23, zk_24, zk_31, zk_32, zk_50, zk_255, zk_384, zk_400, zk_1023, zk_3072, zk_m1, zk_m50]; omega), if_pos (gin_nI (by omega) (by omega)), nI_clamp (by omega)]
  refine ⟨_, rfl, ⟨?_, by simp only [List.length_append, List.length_cons, List.length_nil]; omega, fun i hi => ?_⟩, fr_m2 (fr_m2 fr_rf (by simp)) (by simp)⟩
  · rw [m2_at, if_pos ⟨rfl, rfl⟩, m2_at, if_neg (by omega), h1]
    simp only [List.length_append, List.length_cons, List.length_nil]; exact nI_1 _
  · rw [m2_at, if_neg (by omega), m2_at]
    simp only [List.length_append, List.length_cons, List.length_nil] at hi
    by_cases h5 : i = O.length
    · subst h5; simp [List.getD_eq_getElem?_getD]
    · rw [if_neg (by omega), h3 i (by omega)]
      simp [List.getD_eq_getElem?_getD, List.getElem?_append_left (show i < O.length by omega)]
end PO
