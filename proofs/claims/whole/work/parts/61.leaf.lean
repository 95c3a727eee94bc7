/-! Pure part: what the small methods of the class do. -/
section PL
/-- the cell (u, v) lies in the picture of the pane at q -/
def hasB (σ : Mem) (q : Nat) (u v : Int32) : Bool := decide (0 ≤ u) && decide (u < σ q 3) && decide (0 ≤ v) && decide (v < σ q 4)
theorem e_P_has (q : Nat) (u v : Int32) (σ : Mem) : f_P_has q u v σ = some (bI (hasB σ q u v), σ) := by
  unfold f_P_has f_P_has_0 f_P_has_28 f_P_has_29 hasB
  simp only [z_lt, z_le, zk_0]
  by_cases h1 : u.toInt < 0
  · rw [if_pos h1]; simp [show ¬ 0 ≤ u.toInt by omega, bI]
  rw [if_neg h1]
  by_cases h2 : (σ q 3).toInt ≤ u.toInt
  · rw [if_pos h2]; simp [show ¬ u.toInt < (σ q 3).toInt by omega, bI]
  rw [if_neg h2]
  by_cases h3 : v.toInt < 0
  · rw [if_pos h3]; simp [show ¬ 0 ≤ v.toInt by omega, bI]
  rw [if_neg h3]
  by_cases h4 : (σ q 4).toInt ≤ v.toInt
  · rw [if_pos h4]; simp [show ¬ v.toInt < (σ q 4).toInt by omega, bI]
  rw [if_neg h4]
  simp [show 0 ≤ u.toInt by omega, show u.toInt < (σ q 3).toInt by omega, show 0 ≤ v.toInt by omega, show v.toInt < (σ q 4).toInt by omega, bI]
theorem e_P_covers (q : Nat) (x y : Int32) (σ : Mem) : f_P_covers q x y σ = some (bI (hasB σ q (x - σ q 1) (y - σ q 2)), σ) := by
  unfold f_P_covers f_P_covers_0
  rw [e_P_has, gb_some, if_pos (bI_and _)]
theorem e_P_cell (q : Nat) (u v : Int32) (σ : Mem) : f_P_cell q u v σ = some (σ q 5 + v * σ q 3 + u, σ) := rfl
theorem e_P_putPen (q : Nat) (u v : Int32) (σ : Mem) : f_P_putPen q u v σ = some (m2 (m2 σ q 6 u) q 7 v) := rfl
theorem e_P_place (q : Nat) (u v : Int32) (σ : Mem) : f_P_place q u v σ = some (m2 (m2 σ q 1 u) q 2 v) := rfl
theorem e_P_end (q : Nat) (σ : Mem) : f_P_end q σ = some (m2 σ q 0 0) := rfl
theorem e_P_begin (q : Nat) (a b c : Int32) (σ : Mem) : f_P_begin q a b c σ = some (m2 (m2 (m2 (m2 (m2 (m2 σ q 0 1) q 5 a) q 3 b) q 4 c) q 6 0) q 7 0) := rfl
theorem e_D_forget (σ : Mem) : f_D_forget σ = some (m2 σ 9 4 0) := rfl
/-- free cells counted from k on, d of them -/
def fcnt (fr : Nat → Bool) : Nat → Nat → Int32 → Int32
  | 0, _, acc => acc
  | d + 1, k, acc => fcnt fr d (k + 1) (if fr k then acc + 1 else acc)
theorem e_T_free_l (σ : Mem) : ∀ (d k n : Nat) (acc : Int32), k + d = 400 → d < n → f_T_freeCells_4 n σ acc (nI k) = some (fcnt (fun c => decide (σ 8 c = 0)) d k acc, σ) := by
  intro d
  induction d with
  | zero =>
    intro k n acc h1 h2
    obtain ⟨n, rfl⟩ : ∃ j, n = j + 1 := ⟨n - 1, by omega⟩
    show f_T_freeCells_4B (f_T_freeCells_4 n) σ acc (nI k) = _
    unfold f_T_freeCells_4B
    rw [if_pos (by simp (disch := omega) only [z_le, z_lt, z_eq, z_gin, z_cl, nI_toInt, z_add, z_sub, zk_0, zk_1, zk_2, zk_3, zk_4, zk_5, zk_6, zk_7, zk_8, zk_11, zk_12, zk_15, zk_16, zk_23, zk_24, zk_31, zk_32, zk_50, zk_255, zk_384, zk_400, zk_1023, zk_3072, zk_m1, zk_m50]; omega)]; rfl
  | succ d ih =>
    intro k n acc h1 h2
    obtain ⟨n, rfl⟩ : ∃ j, n = j + 1 := ⟨n - 1, by omega⟩
    show f_T_freeCells_4B (f_T_freeCells_4 n) σ acc (nI k) = _
    unfold f_T_freeCells_4B f_T_freeCells_23
    rw [if_neg (by simp (disch := omega) only [z_le, z_lt, z_eq, z_gin, z_cl, nI_toInt, z_add, z_sub, zk_0, zk_1, zk_2, zk_3, zk_4, zk_5, zk_6, zk_7, zk_8, zk_11, zk_12, zk_15, zk_16, zk_23, zk_24, zk_31, zk_32, zk_50, zk_255, zk_384, zk_400, zk_1023, zk_3072, zk_m1, zk_m50]; omega), if_pos (by simp (disch := omega) only [z_le, z_lt, z_eq, z_gin, z_cl, nI_toInt, z_add, z_sub, zk_0, zk_1, zk_2, zk_3, zk_4, zk_5, zk_6, zk_7, zk_8, zk_11, zk_12, zk_15, zk_16, zk_23, zk_24, zk_31, zk_32, zk_50, zk_255, zk_384, zk_400, zk_1023, zk_3072, zk_m1, zk_m50]; omega), nI_clamp (by omega), nI_1]
    rw [ih (k + 1) n (acc + 1) (by omega) (by omega), ih (k + 1) n acc (by omega) (by omega)]
    by_cases h : σ 8 k = 0
    · rw [if_pos h]; simp [fcnt, h]
    · rw [if_neg h]; simp [fcnt, h]
theorem e_T_freeCells (σ : Mem) : f_T_freeCells σ = some (fcnt (fun c => decide (σ 8 c = 0)) 400 0 0, σ) :=
  e_T_free_l σ 400 0 gN 0 rfl (by decide)
end PL
