/-! Pure part: taking out of an order, of a line of events. -/
section PF
theorem take_succ_f {α : Type} (p : α → Bool) (O : List α) (d : α) (k : Nat) (hk : k < O.length) : (O.take (k + 1)).filter p = (O.take k).filter p ++ (if p (O.getD k d) then [O.getD k d] else []) := by
  have e1 : O.getD k d = O[k] := by simp [List.getD_eq_getElem?_getD, hk]
  rw [List.take_succ, List.filter_append, List.getElem?_eq_getElem hk, e1]
  simp only [Option.toList_some, List.filter_cons, List.filter_nil]
theorem filt_le {α : Type} (p : α → Bool) (O : List α) (k : Nat) : ((O.take k).filter p).length ≤ k := by
  have h1 := List.length_filter_le p (O.take k)
  have h2 := List.length_take_le k O
  omega
theorem getD_app_l {α : Type} (a b : List α) (d : α) (i : Nat) (h : i < a.length) : (a ++ b).getD i d = a.getD i d := by
  simp [List.getD_eq_getElem?_getD, List.getElem?_append_left h]
theorem getD_app_r {α : Type} (a : List α) (x d : α) : (a ++ [x]).getD a.length d = x := by
  simp [List.getD_eq_getElem?_getD]
theorem getD_mem {α : Type} (O : List α) (d : α) (k : Nat) (hk : k < O.length) : O.getD k d ∈ O := by
  have e1 : O.getD k d = O[k] := by simp [List.getD_eq_getElem?_getD, hk]
  rw [e1]; exact List.getElem_mem hk
theorem O_rem_l (O : List Nat) (w : Nat) (hO : O.length ≤ 8) (hb : ∀ x ∈ O, x < 8) (hw : w < 8) : ∀ (d k n : Nat) (μ : Mem), k + d = O.length → d < n →
    (∀ i, i < ((O.take k).filter (fun x => decide (x ≠ w))).length → μ 4 i = nI (((O.take k).filter (fun x => decide (x ≠ w))).getD i 0)) → (∀ i, k ≤ i → i < O.length → μ 4 i = nI (O.getD i 0)) → μ 3 1 = nI O.length →
    ∃ u, f_O_remove_4 n μ (nI w) (nI ((O.take k).filter (fun x => decide (x ≠ w))).length) (nI k) = some u ∧ Cord u (O.filter (fun x => decide (x ≠ w))) ∧ fr [3, 4] μ u := by
  intro d
  induction d with
  | zero =>
    intro k n μ hk hn h1 h2 h3
    obtain ⟨n, rfl⟩ : ∃ j, n = j + 1 := ⟨n - 1, by omega⟩
    have hk' : k = O.length := by omega
    subst hk'
    rw [List.take_length] at h1 ⊢
    show ∃ u, f_O_remove_4B (f_O_remove_4 n) μ (nI w) (nI (O.filter (fun x => decide (x ≠ w))).length) (nI O.length) = some u ∧ _
    unfold f_O_remove_4B
    rw [h3, if_pos (by simp (disch := (first | omega | (simp (disch := omega) only [nI_toInt, zk_0, zk_1, zk_2, zk_3, zk_4, zk_5, zk_6, zk_7, zk_8, zk_11, zk_12, zk_15, zk_16, zk_23, zk_24, zk_31, zk_32, zk_50, zk_255, zk_384, zk_400, zk_1023, zk_3072, zk_m1, zk_m50]; omega))) only [z_le, z_lt, z_eq, z_gin, z_cl, nI_toInt, z_add, z_sub, zk_0, zk_1, zk_2, zk_3, zk_4, zk_5, zk_6, zk_7, zk_8, zk_11, zk_12, zk_15, zk_16, zk_23, zk_24, zk_31, zk_32, zk_50, zk_255, zk_384, zk_400, zk_1023, zk_3072, zk_m1, zk_m50]; omega)]
    have hle := List.length_filter_le (fun x => decide (x ≠ w)) O
    refine ⟨_, rfl, ⟨?_, by omega, fun i hi => ?_⟩, fr_m2 fr_rf (by simp)⟩
    · rw [m2_at, if_pos ⟨rfl, rfl⟩]
    · rw [m2_at, if_neg (by omega)]; exact h1 i hi
  | succ d ih =>
    intro k n μ hk hn h1 h2 h3
    obtain ⟨n, rfl⟩ : ∃ j, n = j + 1 := ⟨n - 1, by omega⟩
    have hT := filt_le (fun x => decide (x ≠ w)) O k
    have hs := take_succ_f (fun x => decide (x ≠ w)) O 0 k (by omega)
    have hx : O.getD k 0 < 8 := hb _ (getD_mem O 0 k (by omega))
    generalize hTe : (O.take k).filter (fun x => decide (x ≠ w)) = T at h1 hT hs ⊢
    show ∃ u, f_O_remove_4B (f_O_remove_4 n) μ (nI w) (nI T.length) (nI k) = some u ∧ _
    unfold f_O_remove_4B f_O_remove_37
    rw [h3, if_neg (by simp (disch := (first | omega | (simp (disch := omega) only [nI_toInt, zk_0, zk_1, zk_2, zk_3, zk_4, zk_5, zk_6, zk_7, zk_8, zk_11, zk_12, zk_15, zk_16, zk_23, zk_24, zk_31, zk_32, zk_50, zk_255, zk_384, zk_400, zk_1023, zk_3072, zk_m1, zk_m50]; omega))) only [z_le, z_lt, z_eq, z_gin, z_cl, nI_toInt, z_add, z_sub, zk_0, zk_1, zk_2, zk_3, zk_4, zk_5, zk_6, zk_7, zk_8, zk_11, zk_12, zk_15, zk_16, zk_23, zk_24, zk_31, zk_32, zk_50, zk_255, zk_384, zk_400, zk_1023, zk_3072, zk_m1, zk_m50]; omega), if_pos (gin_nI (by omega) (by omega)), nI_clamp (by omega), h2 k (Nat.le_refl _) (by omega)]
    by_cases he : O.getD k 0 = w
    · rw [if_pos (by rw [he])]
      have hs1 : (O.take (k + 1)).filter (fun x => decide (x ≠ w)) = T := by rw [hs, if_neg (fun h => (of_decide_eq_true h) he), List.append_nil]
      have := ih (k + 1) n μ (by omega) (by omega) (by rw [hs1]; exact h1) (fun i hi => h2 i (by omega)) h3
      rw [hs1] at this
      rw [nI_1]; exact this
    · have hne : ¬ nI (O.getD k 0) = nI w := by rw [nI_eq (by omega) (by omega)]; exact he
      rw [if_neg hne, if_pos (gin_nI (by omega) (by omega)), if_pos (gin_nI (by omega) (by omega)), nI_clamp (by omega)]
      have hs1 : (O.take (k + 1)).filter (fun x => decide (x ≠ w)) = T ++ [O.getD k 0] := by rw [hs, if_pos (decide_eq_true he)]
      have := ih (k + 1) n (m2 μ 4 T.length (nI (O.getD k 0))) (by omega) (by omega) (by
        rw [hs1]
        intro i hi
        simp only [List.length_append, List.length_cons, List.length_nil] at hi
        rw [m2_at]
        by_cases h5 : i = T.length
        · subst h5; rw [if_pos ⟨rfl, rfl⟩, getD_app_r]
        · rw [if_neg (by omega), getD_app_l _ _ _ _ (by omega)]; exact h1 i (by omega)) (fun i hi hi2 => by
        rw [m2_at, if_neg (by omega)]; exact h2 i (by omega) hi2) (by rw [m2_at, if_neg (by omega)]; exact h3)
      rw [hs1] at this
      simp only [List.length_append, List.length_cons, List.length_nil] at this
      obtain ⟨u, e1, e2, e3⟩ := this
      refine ⟨u, ?_, e2, fr_tr (fr_m2 fr_rf (by simp)) e3⟩
      simp only [gbm_e]
      rw [nI_1, nI_1]; exact e1
theorem e_O_remove {σ : Mem} {O : List Nat} (w : Nat) (h : Cord σ O) (hb : ∀ x ∈ O, x < 8) (hw : w < 8) : ∃ u, f_O_remove (nI w) σ = some u ∧ Cord u (O.filter (fun x => decide (x ≠ w))) ∧ fr [3, 4] σ u := by
  have := O_rem_l O w h.2.1 hb hw O.length 0 gN σ (by omega) (by unfold gN; have := h.2.1; omega) (fun i hi => by simp at hi) (fun i _ hi => h.2.2 i hi) h.1
  exact this
end PF
