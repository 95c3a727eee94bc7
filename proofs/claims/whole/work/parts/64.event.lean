/-! Pure part: lines of events. -/
section PE
abbrev Evt : Type := Int32 × Int32 × Int32 × Int32
abbrev ev0 : Evt := (0, 0, 0, 0)
/-- four arrays hold the events E -/
def Ev (σ : Mem) (a b c d : Nat) (E : List Evt) : Prop := ∀ i, i < E.length → σ a i = (E.getD i ev0).1 ∧ σ b i = (E.getD i ev0).2.1 ∧ σ c i = (E.getD i ev0).2.2.1 ∧ σ d i = (E.getD i ev0).2.2.2
theorem Ev.keep {σ u : Mem} {a b c d : Nat} {E : List Evt} (h : Ev σ a b c d E) (ha : u a = σ a) (hb : u b = σ b) (hc : u c = σ c) (hd : u d = σ d) : Ev u a b c d E := by
  unfold Ev; rw [ha, hb, hc, hd]; exact h
/-- the event at i copied to j -/
def cp4 (σ : Mem) (a b c d i j : Nat) : Mem := fun q f => if (q = a ∨ q = b ∨ q = c ∨ q = d) ∧ f = j then σ q i else σ q f
theorem cp4_fr (σ : Mem) (a b c d i j : Nat) : fr [a, b, c, d] σ (cp4 σ a b c d i j) := by
  intro q hq
  simp only [List.mem_cons, List.not_mem_nil, or_false] at hq
  funext f; unfold cp4; rw [if_neg (fun h => hq h.1)]
/-- an event put at j -/
def pt4 (σ : Mem) (a b c d j : Nat) (e : Evt) : Mem := m2 (m2 (m2 (m2 σ a j e.1) b j e.2.1) c j e.2.2.1) d j e.2.2.2
theorem e_E_copy (σ : Mem) (i j : Nat) (hi : i < 12) (hj : j < 12) : f_E_copy (nI i) (nI j) σ = some (cp4 σ 15 16 17 18 i j) := by
  unfold f_E_copy f_E_copy_0
  simp only [if_pos (gin_nI hi (show 12 < 2147483648 by omega)), if_pos (gin_nI hj (show 12 < 2147483648 by omega)), nI_clamp (show i < 2 ^ 31 by omega), nI_clamp (show j < 2 ^ 31 by omega), gbm_e]
  congr 1
  funext q f
  simp only [m2_at, cp4]
  by_cases h1 : f = j
  · subst h1
    by_cases h2 : q = 15
    · subst h2; simp
    by_cases h3 : q = 16
    · subst h3; simp
    by_cases h4 : q = 17
    · subst h4; simp
    by_cases h5 : q = 18
    · subst h5; simp
    simp [h2, h3, h4, h5]
  · simp [h1]
theorem e_M_moveEvent (σ : Mem) (i j : Nat) (hi : i < 12) (hj : j < 12) : f_M_moveEvent (nI i) (nI j) σ = some (cp4 σ 36 37 38 39 i j) := by
  unfold f_M_moveEvent f_M_moveEvent_0
  simp only [if_pos (gin_nI hi (show 12 < 2147483648 by omega)), if_pos (gin_nI hj (show 12 < 2147483648 by omega)), nI_clamp (show i < 2 ^ 31 by omega), nI_clamp (show j < 2 ^ 31 by omega), gbm_e]
  congr 1
  funext q f
  simp only [m2_at, cp4]
  by_cases h1 : f = j
  · subst h1
    by_cases h2 : q = 36
    · subst h2; simp
    by_cases h3 : q = 37
    · subst h3; simp
    by_cases h4 : q = 38
    · subst h4; simp
    by_cases h5 : q = 39
    · subst h5; simp
    simp [h2, h3, h4, h5]
  · simp [h1]
/-- what a line does with an event, what it counts -/
def tE (E : List Evt) (e : Evt) : List Evt := if E.length < 12 then E ++ [e] else E
def tX (E : List Evt) (X : Int32) : Int32 := if E.length < 12 then X else X + 1
theorem Ev_put {σ : Mem} {a b c d : Nat} {E : List Evt} (e : Evt) (h : Ev σ a b c d E) (hab : a ≠ b) (hac : a ≠ c) (had : a ≠ d) (hbc : b ≠ c) (hbd : b ≠ d) (hcd : c ≠ d) : Ev (pt4 σ a b c d E.length e) a b c d (E ++ [e]) := by
  intro i hi
  simp only [List.length_append, List.length_cons, List.length_nil] at hi
  unfold pt4
  simp only [m2_at]
  by_cases h5 : i = E.length
  · subst h5; rw [getD_app_r]
    simp [hab, hac, had, hbc, hbd, hcd, hab.symm, hac.symm, had.symm, hbc.symm, hbd.symm, hcd.symm]
  · rw [getD_app_l _ _ _ _ (by omega)]
    simpa [h5] using h i (by omega)
def CE (σ : Mem) (E : List Evt) (X : Int32) (T : Evt) : Prop := σ 14 4 = nI E.length ∧ E.length ≤ 12 ∧ Ev σ 15 16 17 18 E ∧ σ 14 5 = X ∧ σ 14 6 = T.1 ∧ σ 14 7 = T.2.1 ∧ σ 14 8 = T.2.2.1 ∧ σ 14 9 = T.2.2.2
theorem CE.keep {σ u : Mem} {E : List Evt} {X : Int32} {T : Evt} (h : CE σ E X T) (hf : ∀ q, 14 ≤ q → q ≤ 18 → u q = σ q) : CE u E X T := by
  unfold CE Ev
  rw [hf 14 (by omega) (by omega), hf 15 (by omega) (by omega), hf 16 (by omega) (by omega), hf 17 (by omega) (by omega), hf 18 (by omega) (by omega)]
  exact h
theorem e_E_tell {σ : Mem} {E : List Evt} {X : Int32} {T : Evt} (e : Evt) (h : CE σ E X T) : ∃ u, f_E_tell e.1 e.2.1 e.2.2.1 e.2.2.2 σ = some u ∧ CE u (tE E e) (tX E X) T ∧ fr [14, 15, 16, 17, 18] σ u := by
  obtain ⟨h1, h2, h3, h4, h5, h6, h7, h8⟩ := h
  unfold f_E_tell f_E_tell_0 tE tX
  by_cases hl : E.length < 12
  · rw [if_pos (by rw [h1]; simp (disch := (first | omega | (simp (disch := omega) only [nI_toInt, zk_0, zk_1, zk_2, zk_3, zk_4, zk_5, zk_6, zk_7, zk_8, zk_11, zk_12, zk_15, zk_16, zk_23, zk_24, zk_31, zk_32, zk_50, zk_255, zk_384, zk_400, zk_1023, zk_3072, zk_m1, zk_m50]; omega))) only [z_le, z_lt, z_eq, z_gin, z_cl, nI_toInt, z_add, z_sub, zk_0, zk_1, zk_2, zk_3, zk_4, zk_5, zk_6, zk_7, zk_8, zk_11, zk_12, zk_15, zk_16, zk_23, zk_24, zk_31, zk_32, zk_50, zk_255, zk_384, zk_400, zk_1023, zk_3072, zk_m1, zk_m50]; omega), if_pos hl, if_pos hl]
    simp only [gbm_e, m2_at, h1]
    simp only [show ¬ (14 = 15 ∧ (4 : Nat) = (nI E.length).toNatClampNeg) by omega, show ¬ (14 = 16 ∧ (4 : Nat) = (nI E.length).toNatClampNeg) by omega, show ¬ (14 = 17 ∧ (4 : Nat) = (nI E.length).toNatClampNeg) by omega, show ¬ (14 = 18 ∧ (4 : Nat) = (nI E.length).toNatClampNeg) by omega, if_false, h1]
    rw [if_pos (gin_nI hl (by omega))]
    simp only [if_pos (gin_nI hl (show 12 < 2147483648 by omega)), nI_clamp (show E.length < 2 ^ 31 by omega)]
    have hp := Ev_put e h3 (by decide) (by decide) (by decide) (by decide) (by decide) (by decide)
    refine ⟨_, rfl, ⟨?_, ?_, ?_, ?_, ?_, ?_, ?_, ?_⟩, ?_⟩
    · rw [m2_at, if_pos ⟨rfl, rfl⟩]; simp only [List.length_append, List.length_cons, List.length_nil]; exact nI_1 _
    · simp only [List.length_append, List.length_cons, List.length_nil]; omega
    · exact hp.keep (m2_ne _ _ _ (by decide)) (m2_ne _ _ _ (by decide)) (m2_ne _ _ _ (by decide)) (m2_ne _ _ _ (by decide))
    · simpa [m2_at] using h4
    · simpa [m2_at] using h5
    · simpa [m2_at] using h6
    · simpa [m2_at] using h7
    · simpa [m2_at] using h8
    · exact fr_m2 (fr_m2 (fr_m2 (fr_m2 (fr_m2 fr_rf (by simp)) (by simp)) (by simp)) (by simp)) (by simp)
  · rw [if_neg (by rw [h1]; simp (disch := (first | omega | (simp (disch := omega) only [nI_toInt, zk_0, zk_1, zk_2, zk_3, zk_4, zk_5, zk_6, zk_7, zk_8, zk_11, zk_12, zk_15, zk_16, zk_23, zk_24, zk_31, zk_32, zk_50, zk_255, zk_384, zk_400, zk_1023, zk_3072, zk_m1, zk_m50]; omega))) only [z_le, z_lt, z_eq, z_gin, z_cl, nI_toInt, z_add, z_sub, zk_0, zk_1, zk_2, zk_3, zk_4, zk_5, zk_6, zk_7, zk_8, zk_11, zk_12, zk_15, zk_16, zk_23, zk_24, zk_31, zk_32, zk_50, zk_255, zk_384, zk_400, zk_1023, zk_3072, zk_m1, zk_m50]; omega), if_neg hl, if_neg hl]
    refine ⟨_, rfl, ⟨?_, h2, ?_, ?_, ?_, ?_, ?_, ?_⟩, fr_m2 fr_rf (by simp)⟩
    · simpa [m2_at] using h1
    · exact h3.keep (m2_ne _ _ _ (by decide)) (m2_ne _ _ _ (by decide)) (m2_ne _ _ _ (by decide)) (m2_ne _ _ _ (by decide))
    · simp [m2_at, h4]
    · simpa [m2_at] using h5
    · simpa [m2_at] using h6
    · simpa [m2_at] using h7
    · simpa [m2_at] using h8
theorem Ev_cp4_app {σ : Mem} {a b c d k : Nat} {E T : List Evt} (hk : k < E.length) (hT : Ev σ a b c d T) (hE : ∀ i, k ≤ i → i < E.length → σ a i = (E.getD i ev0).1 ∧ σ b i = (E.getD i ev0).2.1 ∧ σ c i = (E.getD i ev0).2.2.1 ∧ σ d i = (E.getD i ev0).2.2.2) :
    Ev (cp4 σ a b c d k T.length) a b c d (T ++ [E.getD k ev0]) := by
  intro i hi
  simp only [List.length_append, List.length_cons, List.length_nil] at hi
  unfold cp4
  by_cases h5 : i = T.length
  · subst h5; rw [getD_app_r]
    simpa using hE k (Nat.le_refl _) hk
  · rw [getD_app_l _ _ _ _ (by omega)]
    simpa [h5] using hT i (by omega)
theorem cp4_rest (σ : Mem) (a b c d k j : Nat) (q i : Nat) (h : j < i) : cp4 σ a b c d k j q i = σ q i := by
  unfold cp4; rw [if_neg (by omega)]
theorem E_rem_l (E : List Evt) (w : Int32) (hE : E.length ≤ 12) (X : Int32) (T0 : Evt) : ∀ (d k n : Nat) (μ : Mem), k + d = E.length → d < n →
    Ev μ 15 16 17 18 ((E.take k).filter (fun x => decide (x.2.1 ≠ w))) → (∀ i, k ≤ i → i < E.length → μ 15 i = (E.getD i ev0).1 ∧ μ 16 i = (E.getD i ev0).2.1 ∧ μ 17 i = (E.getD i ev0).2.2.1 ∧ μ 18 i = (E.getD i ev0).2.2.2) →
    (μ 14 4 = nI E.length ∧ μ 14 5 = X ∧ μ 14 6 = T0.1 ∧ μ 14 7 = T0.2.1 ∧ μ 14 8 = T0.2.2.1 ∧ μ 14 9 = T0.2.2.2) →
    ∃ u, f_E_removeAllOf_4 n μ w (nI ((E.take k).filter (fun x => decide (x.2.1 ≠ w))).length) (nI k) = some u ∧ CE u (E.filter (fun x => decide (x.2.1 ≠ w))) X T0 ∧ fr [14, 15, 16, 17, 18] μ u := by
  intro d
  induction d with
  | zero =>
    intro k n μ hk hn h1 h2 h3
    obtain ⟨n, rfl⟩ : ∃ j, n = j + 1 := ⟨n - 1, by omega⟩
    have hk' : k = E.length := by omega
    subst hk'
    rw [List.take_length] at h1 ⊢
    show ∃ u, f_E_removeAllOf_4B (f_E_removeAllOf_4 n) μ w (nI (E.filter (fun x => decide (x.2.1 ≠ w))).length) (nI E.length) = some u ∧ _
    unfold f_E_removeAllOf_4B
    rw [h3.1, if_pos (by simp (disch := (first | omega | (simp (disch := omega) only [nI_toInt, zk_0, zk_1, zk_2, zk_3, zk_4, zk_5, zk_6, zk_7, zk_8, zk_11, zk_12, zk_15, zk_16, zk_23, zk_24, zk_31, zk_32, zk_50, zk_255, zk_384, zk_400, zk_1023, zk_3072, zk_m1, zk_m50]; omega))) only [z_le, z_lt, z_eq, z_gin, z_cl, nI_toInt, z_add, z_sub, zk_0, zk_1, zk_2, zk_3, zk_4, zk_5, zk_6, zk_7, zk_8, zk_11, zk_12, zk_15, zk_16, zk_23, zk_24, zk_31, zk_32, zk_50, zk_255, zk_384, zk_400, zk_1023, zk_3072, zk_m1, zk_m50]; omega)]
    have hle := List.length_filter_le (fun x : Evt => decide (x.2.1 ≠ w)) E
    refine ⟨_, rfl, ⟨?_, by omega, ?_, ?_⟩, fr_m2 fr_rf (by simp)⟩
    · rw [m2_at, if_pos ⟨rfl, rfl⟩]
    · exact h1.keep (m2_ne _ _ _ (by decide)) (m2_ne _ _ _ (by decide)) (m2_ne _ _ _ (by decide)) (m2_ne _ _ _ (by decide))
    · simpa [m2_at] using h3.2
  | succ d ih =>
    intro k n μ hk hn h1 h2 h3
    obtain ⟨n, rfl⟩ : ∃ j, n = j + 1 := ⟨n - 1, by omega⟩
    have hT := filt_le (fun x : Evt => decide (x.2.1 ≠ w)) E k
    have hs := take_succ_f (fun x : Evt => decide (x.2.1 ≠ w)) E ev0 k (by omega)
    generalize hTe : (E.take k).filter (fun x => decide (x.2.1 ≠ w)) = T at h1 hT hs ⊢
    show ∃ u, f_E_removeAllOf_4B (f_E_removeAllOf_4 n) μ w (nI T.length) (nI k) = some u ∧ _
    unfold f_E_removeAllOf_4B f_E_removeAllOf_31
    rw [h3.1, if_neg (by simp (disch := (first | omega | (simp (disch := omega) only [nI_toInt, zk_0, zk_1, zk_2, zk_3, zk_4, zk_5, zk_6, zk_7, zk_8, zk_11, zk_12, zk_15, zk_16, zk_23, zk_24, zk_31, zk_32, zk_50, zk_255, zk_384, zk_400, zk_1023, zk_3072, zk_m1, zk_m50]; omega))) only [z_le, z_lt, z_eq, z_gin, z_cl, nI_toInt, z_add, z_sub, zk_0, zk_1, zk_2, zk_3, zk_4, zk_5, zk_6, zk_7, zk_8, zk_11, zk_12, zk_15, zk_16, zk_23, zk_24, zk_31, zk_32, zk_50, zk_255, zk_384, zk_400, zk_1023, zk_3072, zk_m1, zk_m50]; omega), if_pos (gin_nI (by omega) (by omega)), nI_clamp (by omega), (h2 k (Nat.le_refl _) (by omega)).2.1]
    by_cases he : (E.getD k ev0).2.1 = w
    · rw [if_pos he]
      have hs1 : (E.take (k + 1)).filter (fun x => decide (x.2.1 ≠ w)) = T := by rw [hs, if_neg (fun h => (of_decide_eq_true h) he), List.append_nil]
      have := ih (k + 1) n μ (by omega) (by omega) (by rw [hs1]; exact h1) (fun i hi => h2 i (by omega)) h3
      rw [hs1] at this
      rw [nI_1]; exact this
    · rw [if_neg he, e_E_copy μ k T.length (by omega) (by omega)]
      have hs1 : (E.take (k + 1)).filter (fun x => decide (x.2.1 ≠ w)) = T ++ [E.getD k ev0] := by rw [hs, if_pos (decide_eq_true he)]
      have hfr := cp4_fr μ 15 16 17 18 k T.length
      have := ih (k + 1) n (cp4 μ 15 16 17 18 k T.length) (by omega) (by omega) (by rw [hs1]; exact Ev_cp4_app (by omega) h1 h2) (fun i hi hi2 => by
        simp only [cp4_rest μ 15 16 17 18 k T.length _ i (by omega)]; exact h2 i (by omega) hi2) (by
        rw [hfr 14 (by decide)]; exact h3)
      rw [hs1] at this
      simp only [List.length_append, List.length_cons, List.length_nil] at this
      obtain ⟨u, e1, e2, e3⟩ := this
      refine ⟨u, ?_, e2, fr_tr (fr_up hfr (by decide)) e3⟩
      simp only [gbv_some]
      rw [nI_1, nI_1]; exact e1
theorem e_E_removeAllOf {σ : Mem} {E : List Evt} {X : Int32} {T : Evt} (w : Int32) (h : CE σ E X T) : ∃ u, f_E_removeAllOf w σ = some u ∧ CE u (E.filter (fun x => decide (x.2.1 ≠ w))) X T ∧ fr [14, 15, 16, 17, 18] σ u :=
  E_rem_l E w h.2.1 X T E.length 0 gN σ (by omega) (by unfold gN; have := h.2.1; omega) (fun i hi => by simp at hi) (fun i _ hi => h.2.2.1 i hi) ⟨h.1, h.2.2.2⟩
theorem E_take_l (e : Evt) (E : List Evt) (hE : E.length + 1 ≤ 12) (X : Int32) (T0 : Evt) : ∀ (d k n : Nat) (μ : Mem), k + d = E.length → d < n →
    (∀ i, i < k → μ 15 i = (E.getD i ev0).1 ∧ μ 16 i = (E.getD i ev0).2.1 ∧ μ 17 i = (E.getD i ev0).2.2.1 ∧ μ 18 i = (E.getD i ev0).2.2.2) → (∀ i, k ≤ i → i < E.length → μ 15 (i + 1) = (E.getD i ev0).1 ∧ μ 16 (i + 1) = (E.getD i ev0).2.1 ∧ μ 17 (i + 1) = (E.getD i ev0).2.2.1 ∧ μ 18 (i + 1) = (E.getD i ev0).2.2.2) →
    (μ 14 4 = nI (E.length + 1) ∧ μ 14 5 = X ∧ μ 14 6 = T0.1 ∧ μ 14 7 = T0.2.1 ∧ μ 14 8 = T0.2.2.1 ∧ μ 14 9 = T0.2.2.2) →
    ∃ u, f_E_takeFirst_50 n μ (nI (k + 1)) = some u ∧ CE u E X T0 ∧ fr [14, 15, 16, 17, 18] μ u := by
  intro d
  induction d with
  | zero =>
    intro k n μ hk hn h1 h2 h3
    obtain ⟨n, rfl⟩ : ∃ j, n = j + 1 := ⟨n - 1, by omega⟩
    have hk' : k = E.length := by omega
    subst hk'
    show ∃ u, f_E_takeFirst_50B (f_E_takeFirst_50 n) μ (nI (E.length + 1)) = some u ∧ _
    unfold f_E_takeFirst_50B
    rw [h3.1, if_pos (by simp (disch := (first | omega | (simp (disch := omega) only [nI_toInt, zk_0, zk_1, zk_2, zk_3, zk_4, zk_5, zk_6, zk_7, zk_8, zk_11, zk_12, zk_15, zk_16, zk_23, zk_24, zk_31, zk_32, zk_50, zk_255, zk_384, zk_400, zk_1023, zk_3072, zk_m1, zk_m50]; omega))) only [z_le, z_lt, z_eq, z_gin, z_cl, nI_toInt, z_add, z_sub, zk_0, zk_1, zk_2, zk_3, zk_4, zk_5, zk_6, zk_7, zk_8, zk_11, zk_12, zk_15, zk_16, zk_23, zk_24, zk_31, zk_32, zk_50, zk_255, zk_384, zk_400, zk_1023, zk_3072, zk_m1, zk_m50]; omega)]
    refine ⟨_, rfl, ⟨?_, by omega, ?_, ?_⟩, fr_m2 fr_rf (by simp)⟩
    · rw [m2_at, if_pos ⟨rfl, rfl⟩]; exact nI_pred _
    · exact Ev.keep (σ := μ) h1 (m2_ne _ _ _ (by decide)) (m2_ne _ _ _ (by decide)) (m2_ne _ _ _ (by decide)) (m2_ne _ _ _ (by decide))
    · simpa [m2_at] using h3.2
  | succ d ih =>
    intro k n μ hk hn h1 h2 h3
    obtain ⟨n, rfl⟩ : ∃ j, n = j + 1 := ⟨n - 1, by omega⟩
    show ∃ u, f_E_takeFirst_50B (f_E_takeFirst_50 n) μ (nI (k + 1)) = some u ∧ _
    unfold f_E_takeFirst_50B
    rw [h3.1, if_neg (by simp (disch := (first | omega | (simp (disch := omega) only [nI_toInt, zk_0, zk_1, zk_2, zk_3, zk_4, zk_5, zk_6, zk_7, zk_8, zk_11, zk_12, zk_15, zk_16, zk_23, zk_24, zk_31, zk_32, zk_50, zk_255, zk_384, zk_400, zk_1023, zk_3072, zk_m1, zk_m50]; omega))) only [z_le, z_lt, z_eq, z_gin, z_cl, nI_toInt, z_add, z_sub, zk_0, zk_1, zk_2, zk_3, zk_4, zk_5, zk_6, zk_7, zk_8, zk_11, zk_12, zk_15, zk_16, zk_23, zk_24, zk_31, zk_32, zk_50, zk_255, zk_384, zk_400, zk_1023, zk_3072, zk_m1, zk_m50]; omega), nI_pred, e_E_copy μ (k + 1) k (by omega) (by omega), gbv_some, nI_1]
    have hfr := cp4_fr μ 15 16 17 18 (k + 1) k
    obtain ⟨u, e1, e2, e3⟩ := ih (k + 1) n (cp4 μ 15 16 17 18 (k + 1) k) (by omega) (by omega) (fun i hi => by
      by_cases h5 : i = k
      · subst h5; simpa [cp4] using h2 i (Nat.le_refl _) (by omega)
      · simpa [cp4, h5] using h1 i (by omega)) (fun i hi hi2 => by
      simp only [cp4_rest μ 15 16 17 18 (k + 1) k _ (i + 1) (by omega)]; exact h2 i (by omega) hi2) (by
      rw [hfr 14 (by decide)]; exact h3)
    exact ⟨u, e1, e2, fr_tr (fr_up hfr (by decide)) e3⟩
theorem e_E_takeFirst {σ : Mem} {E : List Evt} {X : Int32} {T : Evt} (e : Evt) (h : CE σ (e :: E) X T) : ∃ u, f_E_takeFirst σ = some u ∧ CE u E X e ∧ fr [14, 15, 16, 17, 18] σ u := by
  obtain ⟨h1, h2, h3, h4, h5, h6, h7, h8⟩ := h
  simp only [List.length_cons] at h1 h2
  unfold f_E_takeFirst f_E_takeFirst_0
  have g0 : gin 0 12 = true := by decide
  rw [h1, if_neg (by simp (disch := (first | omega | (simp (disch := omega) only [nI_toInt, zk_0, zk_1, zk_2, zk_3, zk_4, zk_5, zk_6, zk_7, zk_8, zk_11, zk_12, zk_15, zk_16, zk_23, zk_24, zk_31, zk_32, zk_50, zk_255, zk_384, zk_400, zk_1023, zk_3072, zk_m1, zk_m50]; omega))) only [z_le, z_lt, z_eq, z_gin, z_cl, nI_toInt, z_add, z_sub, zk_0, zk_1, zk_2, zk_3, zk_4, zk_5, zk_6, zk_7, zk_8, zk_11, zk_12, zk_15, zk_16, zk_23, zk_24, zk_31, zk_32, zk_50, zk_255, zk_384, zk_400, zk_1023, zk_3072, zk_m1, zk_m50]; omega)]
  simp only [if_pos g0, gbm_e, m2_at, show (0 : Int32).toNatClampNeg = 0 from rfl]
  have h0 := h3 0 (by simp)
  simp only [List.getD_cons_zero] at h0
  obtain ⟨u, e1, e2, e3⟩ := E_take_l e E h2 X e E.length 0 gN (m2 (m2 (m2 (m2 σ 14 6 (σ 15 0)) 14 7 (σ 16 0)) 14 8 (σ 17 0)) 14 9 (σ 18 0)) (by omega) (by unfold gN; omega) (fun i hi => by omega) (fun i _ hi => by
    have := h3 (i + 1) (by simp; omega)
    simpa [m2_at] using this) (by
    refine ⟨?_, ?_, ?_, ?_, ?_, ?_⟩
    · simpa [m2_at] using h1
    · simpa [m2_at] using h4
    · simpa [m2_at] using h0.1
    · simpa [m2_at] using h0.2.1
    · simpa [m2_at] using h0.2.2.1
    · simpa [m2_at] using h0.2.2.2)
  refine ⟨u, ?_, e2, fr_tr (fr_m2 (fr_m2 (fr_m2 (fr_m2 fr_rf (by simp)) (by simp)) (by simp)) (by simp)) e3⟩
  simpa using (show f_E_takeFirst_50 gN (m2 (m2 (m2 (m2 σ 14 6 (σ 15 0)) 14 7 (σ 16 0)) 14 8 (σ 17 0)) 14 9 (σ 18 0)) 1 = some u from e1)
end PE
