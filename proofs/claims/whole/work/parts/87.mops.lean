/-! Pure part: the reference's click, key, next, event, visible, flush. -/
section MI
variable {σ : Mem} {W : Wnd} {O : List Nat} {P : Nat → Nat → Nat → Int32} {S : Nat → Int32} {D E : List Evt} {X : Int32} {T : Evt} {F N : Int32} {M : Int}
/-- a window's number or none -/
def FI (x : Int32) : Prop := x = -1 ∨ ∃ w, w < 8 ∧ x = nI w
theorem FI_neg {x : Int32} (h : FI x) : x < 0 ↔ x = -1 := by
  rcases h with rfl | ⟨w, hw, rfl⟩
  · decide
  · constructor
    · intro h; exfalso; revert h; simp (disch := (first | omega | (simp (disch := omega) only [nI_toInt, zk_0, zk_1, zk_2, zk_3, zk_4, zk_5, zk_6, zk_7, zk_8, zk_11, zk_12, zk_15, zk_16, zk_23, zk_24, zk_31, zk_32, zk_50, zk_255, zk_384, zk_400, zk_1023, zk_3072, zk_m1, zk_m50]; omega))) only [z_le, z_lt, z_eq, z_gin, z_cl, nI_toInt, z_add, z_sub, zk_0, zk_1, zk_2, zk_3, zk_4, zk_5, zk_6, zk_7, zk_8, zk_11, zk_12, zk_15, zk_16, zk_23, zk_24, zk_31, zk_32, zk_50, zk_255, zk_384, zk_400, zk_1023, zk_3072, zk_m1, zk_m50]; omega
    · intro h; exfalso; revert h; simp (disch := (first | omega | (simp (disch := omega) only [nI_toInt, zk_0, zk_1, zk_2, zk_3, zk_4, zk_5, zk_6, zk_7, zk_8, zk_11, zk_12, zk_15, zk_16, zk_23, zk_24, zk_31, zk_32, zk_50, zk_255, zk_384, zk_400, zk_1023, zk_3072, zk_m1, zk_m50]; omega))) only [z_le, z_lt, z_eq, z_gin, z_cl, nI_toInt, z_add, z_sub, zk_0, zk_1, zk_2, zk_3, zk_4, zk_5, zk_6, zk_7, zk_8, zk_11, zk_12, zk_15, zk_16, zk_23, zk_24, zk_31, zk_32, zk_50, zk_255, zk_384, zk_400, zk_1023, zk_3072, zk_m1, zk_m50]; omega
theorem FI_le {x : Int32} (h : FI x) : 0 ≤ x ↔ ¬ x = -1 := by
  rcases h with rfl | ⟨w, hw, rfl⟩
  · decide
  · constructor
    · intro _; simp (disch := (first | omega | (simp (disch := omega) only [nI_toInt, zk_0, zk_1, zk_2, zk_3, zk_4, zk_5, zk_6, zk_7, zk_8, zk_11, zk_12, zk_15, zk_16, zk_23, zk_24, zk_31, zk_32, zk_50, zk_255, zk_384, zk_400, zk_1023, zk_3072, zk_m1, zk_m50]; omega))) only [z_le, z_lt, z_eq, z_gin, z_cl, nI_toInt, z_add, z_sub, zk_0, zk_1, zk_2, zk_3, zk_4, zk_5, zk_6, zk_7, zk_8, zk_11, zk_12, zk_15, zk_16, zk_23, zk_24, zk_31, zk_32, zk_50, zk_255, zk_384, zk_400, zk_1023, zk_3072, zk_m1, zk_m50]; omega
    · intro _; simp (disch := (first | omega | (simp (disch := omega) only [nI_toInt, zk_0, zk_1, zk_2, zk_3, zk_4, zk_5, zk_6, zk_7, zk_8, zk_11, zk_12, zk_15, zk_16, zk_23, zk_24, zk_31, zk_32, zk_50, zk_255, zk_384, zk_400, zk_1023, zk_3072, zk_m1, zk_m50]; omega))) only [z_le, z_lt, z_eq, z_gin, z_cl, nI_toInt, z_add, z_sub, zk_0, zk_1, zk_2, zk_3, zk_4, zk_5, zk_6, zk_7, zk_8, zk_11, zk_12, zk_15, zk_16, zk_23, zk_24, zk_31, zk_32, zk_50, zk_255, zk_384, zk_400, zk_1023, zk_3072, zk_m1, zk_m50]; omega
theorem RM_tell (hR : RM σ W O P S D E X T F N M) (e : Evt) : ∃ u, f_M_tell e.1 e.2.1 e.2.2.1 e.2.2.2 σ = some u ∧ RM u W O P S D (tE E e) (tX E X) T F N M ∧ modF σ u ∧ u 19 0 = σ 19 0 := by
  obtain ⟨u, e1, v1, f1, s1⟩ := e_M_tell e hR.2.2.2.2.2.1
  obtain ⟨r1, m1, z1⟩ := RM_ev hR v1 f1 (fo_up s1 (by decide))
  exact ⟨u, e1, r1, m1, z1⟩
theorem M_c59 (hR : RM σ W O P S D E X T F N M) {x : Int32} (hx : FI x) (a b : Int32) : ∃ u, f_M_click_59 σ a b x = f_M_click_79 u a b x ∧ RM u W O P S D (if x = -1 then E else if F = x then E else tE E (3, x, 0, 0)) (if x = -1 then X else if F = x then X else tX E X) T F N M ∧ modF σ u ∧ u 19 0 = σ 19 0 := by
  unfold f_M_click_59
  by_cases h1 : x = -1
  · rw [if_pos ((FI_neg hx).2 h1), if_pos h1, if_pos h1]; exact ⟨σ, rfl, hR, modF_rf, rfl⟩
  · rw [if_neg (fun h => h1 ((FI_neg hx).1 h)), if_neg h1, if_neg h1, hR.2.2.2.2.2.2.1]
    by_cases h2 : F = x
    · rw [if_pos h2, if_pos h2, if_pos h2]; exact ⟨σ, rfl, hR, modF_rf, rfl⟩
    · rw [if_neg h2, if_neg h2, if_neg h2]
      obtain ⟨u, e1, r1, m1, z1⟩ := RM_tell hR (3, x, 0, 0)
      rw [show f_M_tell 3 x 0 0 σ = some u from e1, gbv_some]
      exact ⟨u, rfl, r1, m1, z1⟩
theorem M_cfoc (hR : RM σ W O P S D E X T F N M) (hF : FI F) {x : Int32} (hx : FI x) (a b : Int32) : ∃ u, (if F = x then f_M_click_59 σ a b x else if F < 0 then f_M_click_59 σ a b x else gbv (f_M_tell 4 F 0 0 σ) fun u4 => f_M_click_59 u4 a b x) = f_M_click_79 u a b x ∧ RM u W O P S D (gfE E F x) (gfX E X F x) T F N M ∧ modF σ u ∧ u 19 0 = σ 19 0 := by
  unfold gfE gfX gE1 gX1
  by_cases h1 : F = x
  · obtain ⟨u, e1, r1, m1, z1⟩ := M_c59 hR hx a b
    rw [if_pos h1, if_pos h1.symm, if_pos h1.symm]
    refine ⟨u, e1, ?_, m1, z1⟩
    by_cases h2 : x = -1
    · rw [if_pos h2, if_pos h2] at r1; exact r1
    · rw [if_neg h2, if_neg h2, if_pos h1, if_pos h1] at r1; exact r1
  have h1' : ¬ x = F := fun h => h1 h.symm
  rw [if_neg h1, if_neg h1', if_neg h1']
  by_cases h3 : F = -1
  · obtain ⟨u, e1, r1, m1, z1⟩ := M_c59 hR hx a b
    have h2 : ¬ x = -1 := fun h => h1 (h3.trans h.symm)
    rw [if_pos ((FI_neg hF).2 h3), if_neg h2, if_neg h2, if_pos h3, if_pos h3]
    rw [if_neg h2, if_neg h2, if_neg h1, if_neg h1] at r1
    exact ⟨u, e1, r1, m1, z1⟩
  · rw [if_neg (fun h => h3 ((FI_neg hF).1 h)), if_neg h3, if_neg h3]
    obtain ⟨u4, e4, r4, m4, z4⟩ := RM_tell hR (4, F, 0, 0)
    rw [show f_M_tell 4 F 0 0 σ = some u4 from e4, gbv_some]
    obtain ⟨u, e1, r1, m1, z1⟩ := M_c59 r4 hx a b
    refine ⟨u, e1, ?_, modF_tr m4 m1, z1.trans z4⟩
    by_cases h2 : x = -1
    · rw [if_pos h2, if_pos h2] at r1 ⊢; exact r1
    · rw [if_neg h2, if_neg h2, if_neg h1, if_neg h1] at r1; rw [if_neg h2, if_neg h2]; exact r1
theorem M_click_no (hR : RM σ W O P S D E X T F N M) {x y : Int32} (h : scrB x y = false) : ∃ r u, f_M_click x y σ = some (r, u) ∧ RM u W O P S D E X T F N M ∧ modF σ u ∧ u 19 0 = 1 := by
  obtain ⟨r, m, z⟩ := RM_code hR 1
  unfold f_M_click f_M_click_0 f_M_click_14
  rw [e_M_onScreen, gb_some, h, if_pos (by decide), gbm_e, z, if_neg (by decide)]
  exact ⟨_, _, rfl, r, m, z⟩
theorem M_click_hd (hR : RM σ W O P S D E X T F N M) (hO : OI W O) (hF : FI F) {x y : Int32} (h : scrB x y = true) : ∃ u, f_M_click x y σ = f_M_click_79 u x y (owI (O.find? (cov W x y))) ∧ RM u W O P S D (gfE E F (owI (O.find? (cov W x y)))) (gfX E X F (owI (O.find? (cov W x y)))) T F N M ∧ modF σ u ∧ u 19 0 = 0 := by
  obtain ⟨r, m, z⟩ := RM_code hR 0
  have hx : FI (owI (O.find? (cov W x y))) := by
    cases hf : O.find? (cov W x y) with
    | none => exact Or.inl rfl
    | some w => exact Or.inr ⟨w, hO.lt w (List.mem_of_find?_eq_some hf), rfl⟩
  unfold f_M_click f_M_click_0 f_M_click_14
  rw [e_M_onScreen, gb_some, h, if_neg (by decide), gbm_e, z, if_pos (by decide), e_M_owner r.1 r.2.1 hO, gb_some, r.2.2.2.2.2.2.1]
  obtain ⟨u, e1, r1, m1, z1⟩ := M_cfoc r hF hx x y
  exact ⟨u, e1, r1, modF_tr m m1, z1.trans z⟩
theorem M_click_none (hR : RM σ W O P S D E X T F N M) (hO : OI W O) (hF : FI F) {x y : Int32} (h : scrB x y = true) (hn : O.find? (cov W x y) = none) : ∃ u, f_M_click x y σ = some (-1, u) ∧ RM u W O P S D (gfE E F (-1)) (gfX E X F (-1)) T (-1) N M ∧ modF σ u ∧ u 19 0 = 0 := by
  obtain ⟨u, e1, r1, m1, z1⟩ := M_click_hd hR hO hF h
  rw [hn] at e1 r1
  rw [e1]
  unfold f_M_click_79 f_M_click_117
  obtain ⟨r2, m2', z2⟩ := RM_foc r1 (-1)
  rw [gbm_e, if_pos (show owI none < 0 by decide)]
  exact ⟨_, rfl, r2, modF_tr m1 m2', z2.trans z1⟩
theorem M_click_ok (hR : RM σ W O P S D E X T F N M) (hD : DI D) (hI : WI W) (hO : OI W O) (hM : M ≤ 1000000) (hF : FI F) {x y : Int32} (h : scrB x y = true) {w : Nat} (hn : O.find? (cov W x y) = some w) : ∃ u, f_M_click x y σ = some (nI w, u) ∧
    RM u W (rord O w true) P S (rdm D W O w true) (tE (gfE E F (nI w)) (1, nI w, x - W w 1, y - W w 2)) (tX (gfE E F (nI w)) (gfX E X F (nI w))) T (nI w) N (M + 1) ∧ modF σ u ∧ u 19 0 = 0 := by
  have hm := List.mem_of_find?_eq_some hn
  obtain ⟨hw, ho⟩ := (hO.2 w).1 hm
  obtain ⟨u1, e1, r1, m1, z1⟩ := M_click_hd hR hO hF h
  rw [hn] at e1 r1
  rw [e1]
  unfold f_M_click_79 f_M_click_117
  obtain ⟨r2, m2', z2⟩ := RM_foc r1 (nI w)
  have hg : gin (nI w) 8 = true := gin_nI hw (by omega)
  have hc : (nI w).toNatClampNeg = w := nI_clamp (by omega)
  rw [gbm_e, if_neg (owI_lt0 w hw)]
  obtain ⟨u3, e3, r3, m3, z3⟩ := e_M_lift r2 hD hI hO hM hw ho 1
  rw [show (!decide ((1 : Int32) = 0)) = true from by decide] at r3 e3
  rw [show f_M_lift (owI (some w)) 1 (m2 u1 19 15 (owI (some w))) = _ from e3, gb_some, show owI (some w) = nI w from rfl, if_pos hg, if_pos hg, hc]
  obtain ⟨-, a1, a2, -⟩ := r3.1 w hw
  rw [a1, a2]
  obtain ⟨u4, e4, r4, m4, z4⟩ := RM_tell r3 (1, nI w, x - W w 1, y - W w 2)
  rw [show f_M_tell 1 (nI w) (x - W w 1) (y - W w 2) u3 = some u4 from e4, gbv_some]
  exact ⟨u4, rfl, r4, modF_tr m1 (modF_tr m2' (modF_tr m3 m4)), by rw [z4, z3, z2, z1]⟩
/-- key -/
theorem M_key_no (hR : RM σ W O P S D E X T F N M) {c : Int32} (h : F = -1) : ∃ u, f_M_key c σ = some (0, u) ∧ RM u W O P S D E X T F N M ∧ modF σ u := by
  obtain ⟨r, m, z⟩ := RM_code hR 0
  unfold f_M_key f_M_key_0
  rw [gbm_e, r.2.2.2.2.2.2.1, if_neg (by rw [h]; decide)]
  exact ⟨_, rfl, r, m⟩
theorem M_key_ok (hR : RM σ W O P S D E X T F N M) (hF : FI F) {c : Int32} (h : ¬ F = -1) : ∃ u, f_M_key c σ = some (1, u) ∧ RM u W O P S D (tE E (2, F, c, 0)) (tX E X) T F N M ∧ modF σ u := by
  obtain ⟨r, m, z⟩ := RM_code hR 0
  unfold f_M_key f_M_key_0
  rw [gbm_e, r.2.2.2.2.2.2.1, if_pos ((FI_le hF).2 h)]
  obtain ⟨u, e1, r1, m1, z1⟩ := RM_tell r (2, F, c, 0)
  rw [show f_M_tell 2 F c 0 (m2 σ 19 0 0) = some u from e1, gbv_some]
  exact ⟨u, rfl, r1, modF_tr m m1⟩
/-- next -/
theorem M_next_no (hR : RM σ W O P S D [] X T F N M) : ∃ r u, f_M_next σ = some (r, u) ∧ RM u W O P S D [] X T F N M ∧ modF σ u ∧ u 19 0 = 1 := by
  obtain ⟨r, m, z⟩ := RM_code hR 1
  unfold f_M_next f_M_next_0 f_M_next_13
  rw [hR.2.2.2.2.2.1.1, if_pos (by decide), gbm_e, z, if_neg (by decide)]
  exact ⟨_, _, rfl, r, m, z⟩
theorem M_next_l (E : List Evt) (hE : E.length + 1 ≤ 12) (x : Int32) : ∀ (d k n : Nat) (μ : Mem), k + d = E.length → d < n →
    (∀ i, i < k → μ 36 i = (E.getD i ev0).1 ∧ μ 37 i = (E.getD i ev0).2.1 ∧ μ 38 i = (E.getD i ev0).2.2.1 ∧ μ 39 i = (E.getD i ev0).2.2.2) → (∀ i, k ≤ i → i < E.length → μ 36 (i + 1) = (E.getD i ev0).1 ∧ μ 37 (i + 1) = (E.getD i ev0).2.1 ∧ μ 38 (i + 1) = (E.getD i ev0).2.2.1 ∧ μ 39 (i + 1) = (E.getD i ev0).2.2.2) →
    μ 19 26 = nI E.length → ∃ u, f_M_next_79 n μ x (nI k) = some (x, u) ∧ Ev u 36 37 38 39 E ∧ fr [36, 37, 38, 39] μ u := by
  intro d
  induction d with
  | zero =>
    intro k n μ hk hn h1 h2 h3
    obtain ⟨n, rfl⟩ : ∃ j, n = j + 1 := ⟨n - 1, by omega⟩
    have hk' : k = E.length := by omega
    subst hk'
    show ∃ u, f_M_next_79B (f_M_next_79 n) μ x (nI E.length) = _ ∧ _
    unfold f_M_next_79B
    rw [h3, if_pos (by simp (disch := (first | omega | (simp (disch := omega) only [nI_toInt, zk_0, zk_1, zk_2, zk_3, zk_4, zk_5, zk_6, zk_7, zk_8, zk_11, zk_12, zk_15, zk_16, zk_23, zk_24, zk_31, zk_32, zk_50, zk_255, zk_384, zk_400, zk_1023, zk_3072, zk_m1, zk_m50]; omega))) only [z_le, z_lt, z_eq, z_gin, z_cl, nI_toInt, z_add, z_sub, zk_0, zk_1, zk_2, zk_3, zk_4, zk_5, zk_6, zk_7, zk_8, zk_11, zk_12, zk_15, zk_16, zk_23, zk_24, zk_31, zk_32, zk_50, zk_255, zk_384, zk_400, zk_1023, zk_3072, zk_m1, zk_m50]; omega)]
    exact ⟨μ, rfl, h1, fr_rf⟩
  | succ d ih =>
    intro k n μ hk hn h1 h2 h3
    obtain ⟨n, rfl⟩ : ∃ j, n = j + 1 := ⟨n - 1, by omega⟩
    show ∃ u, f_M_next_79B (f_M_next_79 n) μ x (nI k) = _ ∧ _
    unfold f_M_next_79B
    rw [h3, if_neg (by simp (disch := (first | omega | (simp (disch := omega) only [nI_toInt, zk_0, zk_1, zk_2, zk_3, zk_4, zk_5, zk_6, zk_7, zk_8, zk_11, zk_12, zk_15, zk_16, zk_23, zk_24, zk_31, zk_32, zk_50, zk_255, zk_384, zk_400, zk_1023, zk_3072, zk_m1, zk_m50]; omega))) only [z_le, z_lt, z_eq, z_gin, z_cl, nI_toInt, z_add, z_sub, zk_0, zk_1, zk_2, zk_3, zk_4, zk_5, zk_6, zk_7, zk_8, zk_11, zk_12, zk_15, zk_16, zk_23, zk_24, zk_31, zk_32, zk_50, zk_255, zk_384, zk_400, zk_1023, zk_3072, zk_m1, zk_m50]; omega), nI_1, e_M_moveEvent μ (k + 1) k (by omega) (by omega), gbv_some]
    have hfr := cp4_fr μ 36 37 38 39 (k + 1) k
    obtain ⟨u, e1, e2, e3⟩ := ih (k + 1) n (cp4 μ 36 37 38 39 (k + 1) k) (by omega) (by omega) (fun i hi => by
      by_cases h5 : i = k
      · subst h5; simpa [cp4] using h2 i (Nat.le_refl _) (by omega)
      · simpa [cp4, h5] using h1 i (by omega)) (fun i hi hi2 => by
      simp only [cp4_rest μ 36 37 38 39 (k + 1) k _ (i + 1) (by omega)]; exact h2 i (by omega) hi2) (by
      rw [hfr 19 (by decide)]; exact h3)
    exact ⟨u, e1, e2, fr_tr hfr e3⟩
theorem M_next_ok {e : Evt} (hR : RM σ W O P S D (e :: E) X T F N M) (he : ¬ e.1 = -1) : ∃ u, f_M_next σ = some (e.1, u) ∧ RM u W O P S D E X e F N M ∧ modF σ u ∧ u 19 0 = 0 := by
  obtain ⟨r, m, z⟩ := RM_code hR 0
  have hme := r.2.2.2.2.2.1
  obtain ⟨h1, h2, h3, h4, h5, h6⟩ := hme
  simp only [List.length_cons] at h1 h2
  unfold f_M_next f_M_next_0 f_M_next_13
  rw [hR.2.2.2.2.2.1.1, if_neg (by simp only [List.length_cons]; simp (disch := (first | omega | (simp (disch := omega) only [nI_toInt, zk_0, zk_1, zk_2, zk_3, zk_4, zk_5, zk_6, zk_7, zk_8, zk_11, zk_12, zk_15, zk_16, zk_23, zk_24, zk_31, zk_32, zk_50, zk_255, zk_384, zk_400, zk_1023, zk_3072, zk_m1, zk_m50]; omega))) only [z_le, z_lt, z_eq, z_gin, z_cl, nI_toInt, z_add, z_sub, zk_0, zk_1, zk_2, zk_3, zk_4, zk_5, zk_6, zk_7, zk_8, zk_11, zk_12, zk_15, zk_16, zk_23, zk_24, zk_31, zk_32, zk_50, zk_255, zk_384, zk_400, zk_1023, zk_3072, zk_m1, zk_m50]; omega), gbm_e, z, if_pos (by decide)]
  have g0 : gin 0 12 = true := by decide
  have c0 : (0 : Int32).toNatClampNeg = 0 := rfl
  simp only [if_pos g0, c0, gbm_e, gbi_e]
  have h0 := h3 0 (by simp)
  simp only [List.getD_cons_zero] at h0
  have q36 : ∀ (μ : Mem) (f : Nat) (v : Int32) (q i : Nat), q ≠ 19 → m2 μ 19 f v q i = μ q i := fun μ f v q i hq => by rw [m2_at, if_neg (by omega)]
  have q26 : ∀ (μ : Mem) (f : Nat) (v : Int32), f ≠ 26 → m2 μ 19 f v 19 26 = μ 19 26 := fun μ f v hq => by rw [m2_at, if_neg (by omega)]
  rw [q36 _ 33 _ 39 0 (by decide), q36 _ 32 _ 39 0 (by decide), q36 _ 31 _ 39 0 (by decide), q36 _ 32 _ 38 0 (by decide), q36 _ 31 _ 38 0 (by decide), q36 _ 31 _ 37 0 (by decide), q26 _ 34 _ (by decide), q26 _ 33 _ (by decide), q26 _ 32 _ (by decide), q26 _ 31 _ (by decide), h1, h0.1, h0.2.1, h0.2.2.1, h0.2.2.2, nI_pred]
  have fa : fr [19] (m2 σ 19 0 0) (m2 (m2 (m2 (m2 (m2 (m2 σ 19 0 0) 19 31 1) 19 32 e.2.1) 19 33 e.2.2.1) 19 34 e.2.2.2) 19 26 (nI E.length)) := fr_m2 (fr_m2 (fr_m2 (fr_m2 (fr_m2 fr_rf (by simp)) (by simp)) (by simp)) (by simp)) (by simp)
  have fs : fo [26, 31, 32, 33, 34] (m2 σ 19 0 0) (m2 (m2 (m2 (m2 (m2 (m2 σ 19 0 0) 19 31 1) 19 32 e.2.1) 19 33 e.2.2.1) 19 34 e.2.2.2) 19 26 (nI E.length)) := fo_m2 (fo_m2 (fo_m2 (fo_m2 (fo_m2 fo_rf (by simp)) (by simp)) (by simp)) (by simp)) (by simp)
  have k31 : m2 (m2 (m2 (m2 (m2 (m2 σ 19 0 0) 19 31 1) 19 32 e.2.1) 19 33 e.2.2.1) 19 34 e.2.2.2) 19 26 (nI E.length) 19 31 = 1 ∧ m2 (m2 (m2 (m2 (m2 (m2 σ 19 0 0) 19 31 1) 19 32 e.2.1) 19 33 e.2.2.1) 19 34 e.2.2.2) 19 26 (nI E.length) 19 32 = e.2.1 ∧ m2 (m2 (m2 (m2 (m2 (m2 σ 19 0 0) 19 31 1) 19 32 e.2.1) 19 33 e.2.2.1) 19 34 e.2.2.2) 19 26 (nI E.length) 19 33 = e.2.2.1 ∧ m2 (m2 (m2 (m2 (m2 (m2 σ 19 0 0) 19 31 1) 19 32 e.2.1) 19 33 e.2.2.1) 19 34 e.2.2.2) 19 26 (nI E.length) 19 34 = e.2.2.2 ∧ m2 (m2 (m2 (m2 (m2 (m2 σ 19 0 0) 19 31 1) 19 32 e.2.1) 19 33 e.2.2.1) 19 34 e.2.2.2) 19 26 (nI E.length) 19 26 = nI E.length := by simp [m2_at]
  generalize m2 (m2 (m2 (m2 (m2 (m2 σ 19 0 0) 19 31 1) 19 32 e.2.1) 19 33 e.2.2.1) 19 34 e.2.2.2) 19 26 (nI E.length) = μ at fa fs k31 ⊢
  obtain ⟨k1, k2, k3, k4, k5⟩ := k31
  obtain ⟨u, e1, v1, f1⟩ := M_next_l E h2 e.1 E.length 0 gN μ (by omega) (by unfold gN; omega) (fun i hi => by omega) (fun i _ hi => by
    have := h3 (i + 1) (by simp; omega)
    rw [fa 36 (by decide), fa 37 (by decide), fa 38 (by decide), fa 39 (by decide)]
    simpa using this) k5
  have e19 : u 19 = μ 19 := f1 19 (by decide)
  have v2 : ME u E X e := by
    refine ⟨by rw [e19]; exact k5, by omega, v1, ?_, ?_, fun _ => ?_⟩
    · rw [e19, fs 35 (by decide)]; exact h4
    · rw [e19, k1, if_neg he]
    · rw [e19]; exact ⟨k2, k3, k4⟩
  obtain ⟨r2, m2', z2⟩ := RM_ev r v2 (fr_tr (fr_up fa (by decide)) (fr_up f1 (by decide))) (fo_tr (fo_up fs (by decide)) (fo_fr f1 (by decide)))
  rw [show f_M_next_79 gN μ e.1 0 = some (e.1, u) from e1]
  exact ⟨u, rfl, r2, modF_tr m m2', z2.trans z⟩
/-- event -/
theorem M_event_no (hR : RM σ W O P S D E X T F N M) {x : Int32} (h : T.1 = -1) : ∃ r u, f_M_event x σ = some (r, u) ∧ RM u W O P S D E X T F N M ∧ modF σ u ∧ u 19 0 = 1 := by
  obtain ⟨r, m, z⟩ := RM_code hR 1
  unfold f_M_event f_M_event_0 f_M_event_26 f_M_event_67
  rw [hR.2.2.2.2.2.1.2.2.2.2.1, if_pos h, if_pos rfl, gbm_e, z, if_neg (by decide)]
  exact ⟨_, _, rfl, r, m, z⟩
theorem M_event_bad (hR : RM σ W O P S D E X T F N M) {x : Int32} (h : ¬ T.1 = -1) (hx : ¬ (0 ≤ x.toInt ∧ x.toInt ≤ 2)) : ∃ r u, f_M_event x σ = some (r, u) ∧ RM u W O P S D E X T F N M ∧ modF σ u ∧ u 19 0 = 2 := by
  obtain ⟨r, m, z⟩ := RM_code hR 2
  unfold f_M_event f_M_event_0 f_M_event_21 f_M_event_26 f_M_event_67
  rw [hR.2.2.2.2.2.1.2.2.2.2.1, if_neg h, if_neg (by decide), gbm_e, z, if_neg (show ¬ (2 : Int32) ≤ 0 by decide)]
  by_cases h1 : x < 0
  · rw [if_pos h1]; exact ⟨_, _, rfl, r, m, z⟩
  · rw [if_neg h1, if_neg (by rw [z_lt, zk_0] at h1; rw [z_le, zk_2]; omega)]; exact ⟨_, _, rfl, r, m, z⟩
theorem M_event_ok (hR : RM σ W O P S D E X T F N M) {x : Int32} (h : ¬ T.1 = -1) (hx : 0 ≤ x.toInt ∧ x.toInt ≤ 2) : ∃ u, f_M_event x σ = some (if x.toInt = 0 then T.2.1 else if x.toInt = 1 then T.2.2.1 else T.2.2.2, u) ∧ RM u W O P S D E X T F N M ∧ modF σ u ∧ u 19 0 = 0 := by
  obtain ⟨r, m, z⟩ := RM_code hR 0
  obtain ⟨t1, t2, t3⟩ := r.2.2.2.2.2.1.2.2.2.2.2 h
  unfold f_M_event f_M_event_0 f_M_event_26 f_M_event_67
  rw [hR.2.2.2.2.2.1.2.2.2.2.1, if_neg h, if_neg (by decide), if_neg (by rw [z_lt, zk_0]; omega), if_pos (by rw [z_le, zk_2]; omega), gbm_e, z, if_pos (by decide), t1, t2, t3]
  refine ⟨_, ?_, r, m, z⟩
  by_cases a0 : x.toInt = 0
  · rw [if_pos (by rw [z_eq, zk_0]; exact a0), if_pos a0]
  by_cases a1 : x.toInt = 1
  · rw [if_neg (by rw [z_eq, zk_0]; exact a0), if_pos (by rw [z_eq, zk_1]; exact a1), if_neg a0, if_pos a1]
  · rw [if_neg (by rw [z_eq, zk_0]; exact a0), if_neg (by rw [z_eq, zk_1]; exact a1), if_neg a0, if_neg a1]
end MI
