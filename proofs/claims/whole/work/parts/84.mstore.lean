/-! Pure part: the reference's store and counts. -/
section MF
variable {σ : Mem} {W : Wnd} {O : List Nat} {P : Nat → Nat → Nat → Int32} {S : Nat → Int32} {D E : List Evt} {X : Int32} {T : Evt} {F N : Int32} {M : Int}
theorem M_free_l (hw : Mwin σ W) (c : Nat) : ∀ (d k n : Nat) (b : Bool), k + d = 8 → d < n → f_M_isFree_19 n σ (nI c) (bI b) (nI k) = some (bI (frD W c d k b), σ) := by
  intro d
  induction d with
  | zero =>
    intro k n b h1 h2
    obtain ⟨n, rfl⟩ : ∃ j, n = j + 1 := ⟨n - 1, by omega⟩
    show f_M_isFree_19B (f_M_isFree_19 n) σ (nI c) (bI b) (nI k) = _
    unfold f_M_isFree_19B
    rw [if_pos (by simp (disch := (first | omega | (simp (disch := omega) only [nI_toInt, zk_0, zk_1, zk_2, zk_3, zk_4, zk_5, zk_6, zk_7, zk_8, zk_11, zk_12, zk_15, zk_16, zk_23, zk_24, zk_31, zk_32, zk_50, zk_255, zk_384, zk_400, zk_1023, zk_3072, zk_m1, zk_m50]; omega))) only [z_le, z_lt, z_eq, z_gin, z_cl, nI_toInt, z_add, z_sub, zk_0, zk_1, zk_2, zk_3, zk_4, zk_5, zk_6, zk_7, zk_8, zk_11, zk_12, zk_15, zk_16, zk_23, zk_24, zk_31, zk_32, zk_50, zk_255, zk_384, zk_400, zk_1023, zk_3072, zk_m1, zk_m50]; omega), if_pos (bI_and b)]; rfl
  | succ d ih =>
    intro k n b h1 h2
    obtain ⟨n, rfl⟩ : ∃ j, n = j + 1 := ⟨n - 1, by omega⟩
    show f_M_isFree_19B (f_M_isFree_19 n) σ (nI c) (bI b) (nI k) = _
    unfold f_M_isFree_19B f_M_isFree_76 f_M_isFree_72 f_M_isFree_77
    have hg : gin (nI k) 8 = true := gin_nI (by omega) (by omega)
    have hc : (nI k).toNatClampNeg = k := nI_clamp (by omega)
    obtain ⟨a0, -, -, a3, a4, a5, -⟩ := hw k (by omega)
    have i0 := ih (k + 1) n false (by omega) (by omega)
    have i1 := ih (k + 1) n true (by omega) (by omega)
    rw [bI_f] at i0; rw [bI_t] at i1
    rw [if_neg (by simp (disch := (first | omega | (simp (disch := omega) only [nI_toInt, zk_0, zk_1, zk_2, zk_3, zk_4, zk_5, zk_6, zk_7, zk_8, zk_11, zk_12, zk_15, zk_16, zk_23, zk_24, zk_31, zk_32, zk_50, zk_255, zk_384, zk_400, zk_1023, zk_3072, zk_m1, zk_m50]; omega))) only [z_le, z_lt, z_eq, z_gin, z_cl, nI_toInt, z_add, z_sub, zk_0, zk_1, zk_2, zk_3, zk_4, zk_5, zk_6, zk_7, zk_8, zk_11, zk_12, zk_15, zk_16, zk_23, zk_24, zk_31, zk_32, zk_50, zk_255, zk_384, zk_400, zk_1023, zk_3072, zk_m1, zk_m50]; omega), if_pos hg, if_pos hg, if_pos hg, if_pos hg, if_pos hg, hc, nI_1, a0, a3, a4, a5, i0, i1]
    show _ = some (bI (frD W c d (k + 1) (b && !blk W c k)), σ)
    cases b with
    | false => rw [if_pos (by decide), Bool.false_and]
    | true =>
      rw [if_neg (by decide), Bool.true_and]
      unfold blk
      by_cases h0 : W k 0 = 0
      · rw [if_pos h0]; simp [h0]
      rw [if_neg h0]
      by_cases h5 : nI c < W k 5
      · rw [if_pos h5]; simp [h5]
      rw [if_neg h5]
      by_cases h6 : nI c < W k 5 + W k 3 * W k 4
      · rw [if_pos h6]; simp [h0, h5, h6]
      · rw [if_neg h6]; simp [h6]
theorem e_M_isFree (hw : Mwin σ W) {c : Nat} (hc : c < 400) : f_M_isFree (nI c) σ = some (bI (frW W c), σ) := by
  unfold f_M_isFree f_M_isFree_0 f_M_isFree_16
  rw [if_neg (by simp (disch := (first | omega | (simp (disch := omega) only [nI_toInt, zk_0, zk_1, zk_2, zk_3, zk_4, zk_5, zk_6, zk_7, zk_8, zk_11, zk_12, zk_15, zk_16, zk_23, zk_24, zk_31, zk_32, zk_50, zk_255, zk_384, zk_400, zk_1023, zk_3072, zk_m1, zk_m50]; omega))) only [z_le, z_lt, z_eq, z_gin, z_cl, nI_toInt, z_add, z_sub, zk_0, zk_1, zk_2, zk_3, zk_4, zk_5, zk_6, zk_7, zk_8, zk_11, zk_12, zk_15, zk_16, zk_23, zk_24, zk_31, zk_32, zk_50, zk_255, zk_384, zk_400, zk_1023, zk_3072, zk_m1, zk_m50]; omega), if_neg (by simp (disch := (first | omega | (simp (disch := omega) only [nI_toInt, zk_0, zk_1, zk_2, zk_3, zk_4, zk_5, zk_6, zk_7, zk_8, zk_11, zk_12, zk_15, zk_16, zk_23, zk_24, zk_31, zk_32, zk_50, zk_255, zk_384, zk_400, zk_1023, zk_3072, zk_m1, zk_m50]; omega))) only [z_le, z_lt, z_eq, z_gin, z_cl, nI_toInt, z_add, z_sub, zk_0, zk_1, zk_2, zk_3, zk_4, zk_5, zk_6, zk_7, zk_8, zk_11, zk_12, zk_15, zk_16, zk_23, zk_24, zk_31, zk_32, zk_50, zk_255, zk_384, zk_400, zk_1023, zk_3072, zk_m1, zk_m50]; omega)]
  exact M_free_l hw c 8 0 gN true rfl (by decide)
theorem M_str_l (hw : Mwin σ W) (size : Int32) : ∀ (d k n : Nat) (run : Int32), k + d = 400 → d < n → f_M_stretch_4 n σ size run (nI k) = some (ffind (frW W) size d k run, σ) := by
  intro d
  induction d with
  | zero =>
    intro k n run h1 h2
    obtain ⟨n, rfl⟩ : ∃ j, n = j + 1 := ⟨n - 1, by omega⟩
    show f_M_stretch_4B (f_M_stretch_4 n) σ size run (nI k) = _
    unfold f_M_stretch_4B
    rw [if_pos (by simp (disch := (first | omega | (simp (disch := omega) only [nI_toInt, zk_0, zk_1, zk_2, zk_3, zk_4, zk_5, zk_6, zk_7, zk_8, zk_11, zk_12, zk_15, zk_16, zk_23, zk_24, zk_31, zk_32, zk_50, zk_255, zk_384, zk_400, zk_1023, zk_3072, zk_m1, zk_m50]; omega))) only [z_le, z_lt, z_eq, z_gin, z_cl, nI_toInt, z_add, z_sub, zk_0, zk_1, zk_2, zk_3, zk_4, zk_5, zk_6, zk_7, zk_8, zk_11, zk_12, zk_15, zk_16, zk_23, zk_24, zk_31, zk_32, zk_50, zk_255, zk_384, zk_400, zk_1023, zk_3072, zk_m1, zk_m50]; omega)]; rfl
  | succ d ih =>
    intro k n run h1 h2
    obtain ⟨n, rfl⟩ : ∃ j, n = j + 1 := ⟨n - 1, by omega⟩
    show f_M_stretch_4B (f_M_stretch_4 n) σ size run (nI k) = _
    unfold f_M_stretch_4B f_M_stretch_26 ffind
    rw [if_neg (by simp (disch := (first | omega | (simp (disch := omega) only [nI_toInt, zk_0, zk_1, zk_2, zk_3, zk_4, zk_5, zk_6, zk_7, zk_8, zk_11, zk_12, zk_15, zk_16, zk_23, zk_24, zk_31, zk_32, zk_50, zk_255, zk_384, zk_400, zk_1023, zk_3072, zk_m1, zk_m50]; omega))) only [z_le, z_lt, z_eq, z_gin, z_cl, nI_toInt, z_add, z_sub, zk_0, zk_1, zk_2, zk_3, zk_4, zk_5, zk_6, zk_7, zk_8, zk_11, zk_12, zk_15, zk_16, zk_23, zk_24, zk_31, zk_32, zk_50, zk_255, zk_384, zk_400, zk_1023, zk_3072, zk_m1, zk_m50]; omega), e_M_isFree hw (by omega), gb_some, i32_swap]
    cases hf : frW W k with
    | false =>
      rw [if_pos (by decide), if_neg (show ¬ (false = true) by decide), nI_1, ih (k + 1) n 0 (by omega) (by omega)]
      by_cases h5 : 0 = size
      · rw [if_pos h5, if_pos h5]
      · rw [if_neg h5, if_neg h5]
    | true =>
      rw [if_neg (by decide), if_pos rfl, nI_1, ih (k + 1) n (run + 1) (by omega) (by omega)]
      by_cases h5 : run + 1 = size
      · rw [if_pos h5, if_pos h5]
      · rw [if_neg h5, if_neg h5]
theorem e_M_stretch (hw : Mwin σ W) (size : Int32) : f_M_stretch size σ = some (ffind (frW W) size 400 0 0, σ) :=
  M_str_l hw size 400 0 gN 0 rfl (by decide)
theorem M_fc_l (hw : Mwin σ W) (x : Int32) : ∀ (d k n : Nat) (acc run best : Int32), k + d = 400 → d < n → f_M_freeCells_10 n σ x acc run best (nI k) = some (if x = 0 then fcnt (frW W) d k acc else flng (frW W) d k best run, σ) := by
  intro d
  induction d with
  | zero =>
    intro k n acc run best h1 h2
    obtain ⟨n, rfl⟩ : ∃ j, n = j + 1 := ⟨n - 1, by omega⟩
    show f_M_freeCells_10B (f_M_freeCells_10 n) σ x acc run best (nI k) = _
    unfold f_M_freeCells_10B f_M_freeCells_82
    rw [if_pos (by simp (disch := (first | omega | (simp (disch := omega) only [nI_toInt, zk_0, zk_1, zk_2, zk_3, zk_4, zk_5, zk_6, zk_7, zk_8, zk_11, zk_12, zk_15, zk_16, zk_23, zk_24, zk_31, zk_32, zk_50, zk_255, zk_384, zk_400, zk_1023, zk_3072, zk_m1, zk_m50]; omega))) only [z_le, z_lt, z_eq, z_gin, z_cl, nI_toInt, z_add, z_sub, zk_0, zk_1, zk_2, zk_3, zk_4, zk_5, zk_6, zk_7, zk_8, zk_11, zk_12, zk_15, zk_16, zk_23, zk_24, zk_31, zk_32, zk_50, zk_255, zk_384, zk_400, zk_1023, zk_3072, zk_m1, zk_m50]; omega)]
    by_cases hx : x = 0
    · rw [if_pos hx, if_pos hx]; rfl
    · rw [if_neg hx, if_neg hx]; rfl
  | succ d ih =>
    intro k n acc run best h1 h2
    obtain ⟨n, rfl⟩ : ∃ j, n = j + 1 := ⟨n - 1, by omega⟩
    show f_M_freeCells_10B (f_M_freeCells_10 n) σ x acc run best (nI k) = _
    have key : ∀ s0 : Int32, f_M_freeCells_51 (f_M_freeCells_10 n) σ x acc best (nI k) s0 = f_M_freeCells_10 n σ x acc s0 (mmax best s0) (nI (k + 1)) := fun s0 => by
      unfold f_M_freeCells_51 f_M_freeCells_64 mmax
      rw [nI_1]
      by_cases h : s0 ≤ best
      · rw [if_pos h, if_neg (by rw [z_le] at h; rw [z_lt]; omega)]
      · rw [if_neg h, if_pos (by rw [z_le] at h; rw [z_lt]; omega)]
    have key1 : ∀ s0 : Int32, f_M_freeCells_51 (f_M_freeCells_10 n) σ x (acc + 1) best (nI k) s0 = f_M_freeCells_10 n σ x (acc + 1) s0 (mmax best s0) (nI (k + 1)) := fun s0 => by
      unfold f_M_freeCells_51 f_M_freeCells_64 mmax
      rw [nI_1]
      by_cases h : s0 ≤ best
      · rw [if_pos h, if_neg (by rw [z_le] at h; rw [z_lt]; omega)]
      · rw [if_neg h, if_pos (by rw [z_le] at h; rw [z_lt]; omega)]
    unfold f_M_freeCells_10B f_M_freeCells_37 fcnt flng
    rw [if_neg (by simp (disch := (first | omega | (simp (disch := omega) only [nI_toInt, zk_0, zk_1, zk_2, zk_3, zk_4, zk_5, zk_6, zk_7, zk_8, zk_11, zk_12, zk_15, zk_16, zk_23, zk_24, zk_31, zk_32, zk_50, zk_255, zk_384, zk_400, zk_1023, zk_3072, zk_m1, zk_m50]; omega))) only [z_le, z_lt, z_eq, z_gin, z_cl, nI_toInt, z_add, z_sub, zk_0, zk_1, zk_2, zk_3, zk_4, zk_5, zk_6, zk_7, zk_8, zk_11, zk_12, zk_15, zk_16, zk_23, zk_24, zk_31, zk_32, zk_50, zk_255, zk_384, zk_400, zk_1023, zk_3072, zk_m1, zk_m50]; omega), e_M_isFree hw (by omega), gb_some]
    cases hf : frW W k with
    | false =>
      rw [if_pos (by decide), gbi_e, if_pos (by decide), Int32.add_zero, key, ih (k + 1) n _ _ _ (by omega) (by omega)]
      simp only [Bool.false_eq_true, if_false]
    | true =>
      rw [if_neg (by decide), gbi_e, if_neg (by decide), key1, ih (k + 1) n _ _ _ (by omega) (by omega)]
      simp only [if_true]
theorem e_M_freeCells (hw : Mwin σ W) (x : Int32) : f_M_freeCells x σ = some (if x = 0 then fcnt (frW W) 400 0 0 else flng (frW W) 400 0 0 0, σ) :=
  M_fc_l hw x 400 0 gN 0 0 0 rfl (by decide)
theorem M_fst_l (hw : Mwin σ W) : ∀ (d k n : Nat), k + d = 8 → d < n → f_M_firstClosed_2 n σ (nI k) = some (nI (lcD W d k), σ) := by
  intro d
  induction d with
  | zero =>
    intro k n h1 h2
    obtain ⟨n, rfl⟩ : ∃ j, n = j + 1 := ⟨n - 1, by omega⟩
    show f_M_firstClosed_2B (f_M_firstClosed_2 n) σ (nI k) = _
    unfold f_M_firstClosed_2B f_M_firstClosed_23
    rw [if_pos (by simp (disch := (first | omega | (simp (disch := omega) only [nI_toInt, zk_0, zk_1, zk_2, zk_3, zk_4, zk_5, zk_6, zk_7, zk_8, zk_11, zk_12, zk_15, zk_16, zk_23, zk_24, zk_31, zk_32, zk_50, zk_255, zk_384, zk_400, zk_1023, zk_3072, zk_m1, zk_m50]; omega))) only [z_le, z_lt, z_eq, z_gin, z_cl, nI_toInt, z_add, z_sub, zk_0, zk_1, zk_2, zk_3, zk_4, zk_5, zk_6, zk_7, zk_8, zk_11, zk_12, zk_15, zk_16, zk_23, zk_24, zk_31, zk_32, zk_50, zk_255, zk_384, zk_400, zk_1023, zk_3072, zk_m1, zk_m50]; omega)]; rfl
  | succ d ih =>
    intro k n h1 h2
    obtain ⟨n, rfl⟩ : ∃ j, n = j + 1 := ⟨n - 1, by omega⟩
    show f_M_firstClosed_2B (f_M_firstClosed_2 n) σ (nI k) = _
    unfold f_M_firstClosed_2B f_M_firstClosed_23 lcD
    have hg : gin (nI k) 8 = true := gin_nI (by omega) (by omega)
    have hc : (nI k).toNatClampNeg = k := nI_clamp (by omega)
    rw [if_neg (by simp (disch := (first | omega | (simp (disch := omega) only [nI_toInt, zk_0, zk_1, zk_2, zk_3, zk_4, zk_5, zk_6, zk_7, zk_8, zk_11, zk_12, zk_15, zk_16, zk_23, zk_24, zk_31, zk_32, zk_50, zk_255, zk_384, zk_400, zk_1023, zk_3072, zk_m1, zk_m50]; omega))) only [z_le, z_lt, z_eq, z_gin, z_cl, nI_toInt, z_add, z_sub, zk_0, zk_1, zk_2, zk_3, zk_4, zk_5, zk_6, zk_7, zk_8, zk_11, zk_12, zk_15, zk_16, zk_23, zk_24, zk_31, zk_32, zk_50, zk_255, zk_384, zk_400, zk_1023, zk_3072, zk_m1, zk_m50]; omega), if_pos hg, hc, nI_1, (hw k (by omega)).1, ih (k + 1) n (by omega) (by omega)]
    by_cases h0 : W k 0 = 0
    · rw [if_pos h0, if_pos h0]
    · rw [if_neg h0, if_neg h0]
theorem e_M_firstClosed (hw : Mwin σ W) : f_M_firstClosed σ = some (nI (lcD W 8 0), σ) := M_fst_l hw 8 0 gN rfl (by decide)
theorem M_cnt_l (hw : Mwin σ W) : ∀ (d k n : Nat) (acc : Int32), k + d = 8 → d < n → f_M_openOnes_4 n σ acc (nI k) = some (fcnt (fun w => !decide (W w 0 = 0)) d k acc, σ) := by
  intro d
  induction d with
  | zero =>
    intro k n acc h1 h2
    obtain ⟨n, rfl⟩ : ∃ j, n = j + 1 := ⟨n - 1, by omega⟩
    show f_M_openOnes_4B (f_M_openOnes_4 n) σ acc (nI k) = _
    unfold f_M_openOnes_4B
    rw [if_pos (by simp (disch := (first | omega | (simp (disch := omega) only [nI_toInt, zk_0, zk_1, zk_2, zk_3, zk_4, zk_5, zk_6, zk_7, zk_8, zk_11, zk_12, zk_15, zk_16, zk_23, zk_24, zk_31, zk_32, zk_50, zk_255, zk_384, zk_400, zk_1023, zk_3072, zk_m1, zk_m50]; omega))) only [z_le, z_lt, z_eq, z_gin, z_cl, nI_toInt, z_add, z_sub, zk_0, zk_1, zk_2, zk_3, zk_4, zk_5, zk_6, zk_7, zk_8, zk_11, zk_12, zk_15, zk_16, zk_23, zk_24, zk_31, zk_32, zk_50, zk_255, zk_384, zk_400, zk_1023, zk_3072, zk_m1, zk_m50]; omega)]; rfl
  | succ d ih =>
    intro k n acc h1 h2
    obtain ⟨n, rfl⟩ : ∃ j, n = j + 1 := ⟨n - 1, by omega⟩
    show f_M_openOnes_4B (f_M_openOnes_4 n) σ acc (nI k) = _
    unfold f_M_openOnes_4B f_M_openOnes_25 fcnt
    have hg : gin (nI k) 8 = true := gin_nI (by omega) (by omega)
    have hc : (nI k).toNatClampNeg = k := nI_clamp (by omega)
    rw [if_neg (by simp (disch := (first | omega | (simp (disch := omega) only [nI_toInt, zk_0, zk_1, zk_2, zk_3, zk_4, zk_5, zk_6, zk_7, zk_8, zk_11, zk_12, zk_15, zk_16, zk_23, zk_24, zk_31, zk_32, zk_50, zk_255, zk_384, zk_400, zk_1023, zk_3072, zk_m1, zk_m50]; omega))) only [z_le, z_lt, z_eq, z_gin, z_cl, nI_toInt, z_add, z_sub, zk_0, zk_1, zk_2, zk_3, zk_4, zk_5, zk_6, zk_7, zk_8, zk_11, zk_12, zk_15, zk_16, zk_23, zk_24, zk_31, zk_32, zk_50, zk_255, zk_384, zk_400, zk_1023, zk_3072, zk_m1, zk_m50]; omega), if_pos hg, hc, nI_1, (hw k (by omega)).1, gbi_e, gbi_e, Int32.add_zero, ih (k + 1) n _ (by omega) (by omega), ih (k + 1) n _ (by omega) (by omega)]
    by_cases h0 : W k 0 = 0
    · rw [if_pos h0]; simp [h0]
    · rw [if_neg h0]; simp [h0]
theorem sub_len : ∀ (l1 l2 : List Nat), l1.Nodup → (∀ x ∈ l1, x ∈ l2) → l1.length ≤ l2.length := by
  intro l1
  induction l1 with
  | nil => intro l2 _ _; simp
  | cons a t ih =>
    intro l2 hn hs
    rw [List.nodup_cons] at hn
    have h1 := ih (l2.erase a) hn.2 (fun x hx => (List.mem_erase_of_ne (by rintro rfl; exact hn.1 hx)).2 (hs x (by simp [hx])))
    have h2 : a ∈ l2 := hs a (by simp)
    rw [List.length_erase_of_mem h2] at h1
    have h3 := List.length_pos_of_mem h2
    simp only [List.length_cons]; omega
theorem fcnt_len (g : Nat → Bool) : ∀ (d k acc : Nat), fcnt g d k (nI acc) = nI (acc + ((List.range' k d).filter g).length) := by
  intro d
  induction d with
  | zero => intro k acc; rfl
  | succ d ih =>
    intro k acc
    simp only [fcnt]
    rw [List.range'_succ, List.filter_cons]
    cases hg : g k with
    | false => simp only [Bool.false_eq_true, if_false]; exact ih (k + 1) acc
    | true => simp only [if_true]; rw [nI_1, ih (k + 1) (acc + 1)]; simp only [List.length_cons]; congr 1; omega
theorem open_len (hO : OI W O) : fcnt (fun w => !decide (W w 0 = 0)) 8 0 0 = nI O.length := by
  have h : fcnt (fun w => !decide (W w 0 = 0)) 8 0 0 = nI (0 + ((List.range' 0 8).filter (fun w => !decide (W w 0 = 0))).length) := fcnt_len (fun w => !decide (W w 0 = 0)) 8 0 0
  rw [h, Nat.zero_add]
  have hm : ∀ x, x ∈ (List.range' 0 8).filter (fun w => !decide (W w 0 = 0)) ↔ x ∈ O := fun x => by
    rw [List.mem_filter, hO.2 x, List.mem_range'_1]
    simp only [Bool.not_eq_true', decide_eq_false_iff_not]
    constructor
    · rintro ⟨h1, h2⟩; exact ⟨by omega, h2⟩
    · rintro ⟨h1, h2⟩; exact ⟨⟨by omega, by omega⟩, h2⟩
  congr 1
  have a := sub_len _ O ((List.nodup_range' (s := 0) (n := 8)).filter (fun w => !decide (W w 0 = 0))) (fun x hx => (hm x).1 hx)
  have b := sub_len O _ hO.1 (fun x hx => (hm x).2 hx)
  omega
theorem e_M_openOnes (hw : Mwin σ W) (hO : OI W O) : f_M_openOnes σ = some (nI O.length, σ) := by
  rw [← open_len hO]; exact M_cnt_l hw 8 0 gN 0 rfl (by decide)
/-- figures -/
theorem M_figure (hR : RM σ W O P S D E X T F N M) (hO : OI W O) (x : Int32) : ∃ u, f_M_figure x σ = some ((figV W O D E X F N x.toInt).getD 0, u) ∧ RM u W O P S D E X T F N M ∧ modF σ u ∧ u 19 0 = (if (figV W O D E X F N x.toInt).isSome then 0 else 1) := by
  have key : ∀ c : Int32, f_M_figure_16 σ x c = some ((figV W O D E X F N x.toInt).getD 0, m2 σ 19 0 c) := fun c => by
    obtain ⟨r, m, z⟩ := RM_code hR c
    unfold f_M_figure_16 figV
    rw [gbm_e, e_M_openOnes r.1 hO, e_M_foremost r.1 r.2.1 hO, e_M_freeCells r.1 0, e_M_freeCells r.1 1, r.2.2.2.2.2.2.1, r.2.2.2.2.1.1, r.2.2.2.2.2.1.1, r.2.2.2.2.2.1.2.2.2.1, r.2.2.2.2.2.2.2.1]
    rw [if_pos rfl, if_neg (by decide)]
    generalize fcnt (frW W) 400 0 0 = v3
    generalize flng (frW W) 400 0 0 0 = v4
    simp only [gsw, gb_some]
    generalize x.toInt = z
    by_cases a0 : z = 0
    · subst a0; rfl
    by_cases a1 : z = 1
    · subst a1; rfl
    by_cases a2 : z = 2
    · subst a2; rfl
    by_cases a3 : z = 3
    · subst a3; rfl
    by_cases a4 : z = 4
    · subst a4; rfl
    by_cases a5 : z = 5
    · subst a5; rfl
    by_cases a6 : z = 6
    · subst a6; rfl
    by_cases a7 : z = 7
    · subst a7; rfl
    by_cases a8 : z = 8
    · subst a8; rfl
    rw [if_neg a0, if_neg (by omega), if_neg (by omega), if_neg (by omega), if_neg (by omega), if_neg (by omega), if_neg (by omega), if_neg (by omega), if_neg (by omega), if_neg a0, if_neg a1, if_neg a2, if_neg a3, if_neg a4, if_neg a5, if_neg a6, if_neg a7, if_neg a8]; rfl
  have hs : (figV W O D E X F N x.toInt).isSome = (decide (0 ≤ x.toInt) && decide (x.toInt ≤ 8)) := by
    unfold figV
    generalize x.toInt = z
    by_cases a0 : z = 0
    · subst a0; rfl
    by_cases a1 : z = 1
    · subst a1; rfl
    by_cases a2 : z = 2
    · subst a2; rfl
    by_cases a3 : z = 3
    · subst a3; rfl
    by_cases a4 : z = 4
    · subst a4; rfl
    by_cases a5 : z = 5
    · subst a5; rfl
    by_cases a6 : z = 6
    · subst a6; rfl
    by_cases a7 : z = 7
    · subst a7; rfl
    by_cases a8 : z = 8
    · subst a8; rfl
    rw [if_neg a0, if_neg a1, if_neg a2, if_neg a3, if_neg a4, if_neg a5, if_neg a6, if_neg a7, if_neg a8]
    symm
    show _ = false
    rw [Bool.and_eq_false_iff]; simp only [decide_eq_false_iff_not]; omega
  unfold f_M_figure f_M_figure_0 f_M_figure_11
  rw [hs, key 0, key 1]
  by_cases h1 : x < 0
  · rw [if_pos h1]; rw [z_lt, zk_0] at h1
    obtain ⟨r, m, z⟩ := RM_code hR 1
    exact ⟨_, rfl, r, m, by rw [z, if_neg (by simp; omega)]⟩
  rw [if_neg h1]; rw [z_lt, zk_0] at h1
  by_cases h2 : x ≤ 8
  · rw [if_pos h2]; rw [z_le, zk_8] at h2
    obtain ⟨r, m, z⟩ := RM_code hR 0
    exact ⟨_, rfl, r, m, by rw [z, if_pos (by simp; omega)]⟩
  · rw [if_neg h2]; rw [z_le, zk_8] at h2
    obtain ⟨r, m, z⟩ := RM_code hR 1
    exact ⟨_, rfl, r, m, by rw [z, if_neg (by simp; omega)]⟩
end MF
