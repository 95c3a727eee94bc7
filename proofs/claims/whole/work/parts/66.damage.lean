/-! Pure part: the class's damage. A rectangle: left, top, right, bottom (right and bottom the first behind it). -/
section PD
theorem drop_getD {α : Type} (D : List α) (d : α) (k : Nat) (h : k < D.length) : D.drop k = D.getD k d :: D.drop (k + 1) := by
  have e1 : D.getD k d = D[k] := by simp [List.getD_eq_getElem?_getD, h]
  rw [e1]; exact List.drop_eq_getElem_cons h
def CD (σ : Mem) (D : List Evt) : Prop := σ 9 4 = nI D.length ∧ D.length ≤ 6 ∧ Ev σ 10 11 12 13 D
theorem CD.keep {σ u : Mem} {D : List Evt} (h : CD σ D) (hf : ∀ q, 9 ≤ q → q ≤ 13 → u q = σ q) : CD u D := by
  unfold CD Ev
  rw [hf 9 (by omega) (by omega), hf 10 (by omega) (by omega), hf 11 (by omega) (by omega), hf 12 (by omega) (by omega), hf 13 (by omega) (by omega)]
  exact h
def djn (z d : Evt) : Evt := (mmin z.1 d.1, mmin z.2.1 d.2.1, mmax z.2.2.1 d.2.2.1, mmax z.2.2.2 d.2.2.2)
/-- the rectangle cut to the screen -/
def dclip (l t r b : Int32) : Evt := (mmax l 0, mmax t 0, mmin r 24, mmin b 16)
def dadd (D : List Evt) (l t r b : Int32) : List Evt := if (dclip l t r b).2.2.1 ≤ (dclip l t r b).1 ∨ (dclip l t r b).2.2.2 ≤ (dclip l t r b).2.1 then D else if D.length < 6 then D ++ [dclip l t r b] else [D.foldl djn (dclip l t r b)]
theorem e_D_put (σ : Mem) (k : Nat) (hk : k < 6) (e : Evt) : f_D_put (nI k) e.1 e.2.1 e.2.2.1 e.2.2.2 σ = some (pt4 σ 10 11 12 13 k e) := by
  unfold f_D_put f_D_put_0
  simp only [if_pos (gin_nI hk (show 6 < 2147483648 by omega)), nI_clamp (show k < 2 ^ 31 by omega), gbm_e]
  rfl
theorem pt4_fr (σ : Mem) (a b c d j : Nat) (e : Evt) : fr [a, b, c, d] σ (pt4 σ a b c d j e) :=
  fr_m2 (fr_m2 (fr_m2 (fr_m2 fr_rf (by simp)) (by simp)) (by simp)) (by simp)
theorem D_join_l (D : List Evt) (hD : D.length ≤ 6) : ∀ (d k n : Nat) (μ : Mem) (z : Evt), k + d = D.length → d < n → CD μ D → ∃ u, f_D_joinAllWith_16 n μ z.1 z.2.1 z.2.2.1 z.2.2.2 (nI k) = some u ∧ CD u [(D.drop k).foldl djn z] ∧ fr [9, 10, 11, 12, 13] μ u := by
  intro d
  induction d with
  | zero =>
    intro k n μ z h1 h2 h3
    obtain ⟨n, rfl⟩ : ∃ j, n = j + 1 := ⟨n - 1, by omega⟩
    have hk' : k = D.length := by omega
    subst hk'
    show ∃ u, f_D_joinAllWith_16B (f_D_joinAllWith_16 n) μ z.1 z.2.1 z.2.2.1 z.2.2.2 (nI D.length) = some u ∧ _
    unfold f_D_joinAllWith_16B
    rw [h3.1, if_pos (by simp (disch := (first | omega | (simp (disch := omega) only [nI_toInt, zk_0, zk_1, zk_2, zk_3, zk_4, zk_5, zk_6, zk_7, zk_8, zk_11, zk_12, zk_15, zk_16, zk_23, zk_24, zk_31, zk_32, zk_50, zk_255, zk_384, zk_400, zk_1023, zk_3072, zk_m1, zk_m50]; omega))) only [z_le, z_lt, z_eq, z_gin, z_cl, nI_toInt, z_add, z_sub, zk_0, zk_1, zk_2, zk_3, zk_4, zk_5, zk_6, zk_7, zk_8, zk_11, zk_12, zk_15, zk_16, zk_23, zk_24, zk_31, zk_32, zk_50, zk_255, zk_384, zk_400, zk_1023, zk_3072, zk_m1, zk_m50]; omega), List.drop_length]
    have hp := e_D_put μ 0 (by omega) z
    rw [show nI 0 = 0 from rfl] at hp
    rw [hp]
    have hv : Ev (pt4 μ 10 11 12 13 0 z) 10 11 12 13 ([] ++ [z]) := Ev_put (E := []) z (fun i hi => by simp at hi) (by decide) (by decide) (by decide) (by decide) (by decide) (by decide)
    refine ⟨_, rfl, ⟨?_, by simp, ?_⟩, fr_m2 (fr_up (pt4_fr μ 10 11 12 13 0 z) (by decide)) (by simp)⟩
    · rw [m2_at, if_pos ⟨rfl, rfl⟩]; rfl
    · exact hv.keep (m2_ne _ _ _ (by decide)) (m2_ne _ _ _ (by decide)) (m2_ne _ _ _ (by decide)) (m2_ne _ _ _ (by decide))
  | succ d ih =>
    intro k n μ z h1 h2 h3
    obtain ⟨n, rfl⟩ : ∃ j, n = j + 1 := ⟨n - 1, by omega⟩
    show ∃ u, f_D_joinAllWith_16B (f_D_joinAllWith_16 n) μ z.1 z.2.1 z.2.2.1 z.2.2.2 (nI k) = some u ∧ _
    unfold f_D_joinAllWith_16B
    rw [h3.1, if_neg (by simp (disch := (first | omega | (simp (disch := omega) only [nI_toInt, zk_0, zk_1, zk_2, zk_3, zk_4, zk_5, zk_6, zk_7, zk_8, zk_11, zk_12, zk_15, zk_16, zk_23, zk_24, zk_31, zk_32, zk_50, zk_255, zk_384, zk_400, zk_1023, zk_3072, zk_m1, zk_m50]; omega))) only [z_le, z_lt, z_eq, z_gin, z_cl, nI_toInt, z_add, z_sub, zk_0, zk_1, zk_2, zk_3, zk_4, zk_5, zk_6, zk_7, zk_8, zk_11, zk_12, zk_15, zk_16, zk_23, zk_24, zk_31, zk_32, zk_50, zk_255, zk_384, zk_400, zk_1023, zk_3072, zk_m1, zk_m50]; omega)]
    simp only [if_pos (gin_nI (show k < 6 by omega) (show 6 < 2147483648 by omega)), nI_clamp (show k < 2 ^ 31 by omega), gbi_e, nI_1]
    obtain ⟨a1, a2, a3, a4⟩ := h3.2.2 k (by omega)
    rw [a1, a2, a3, a4, drop_getD D ev0 k (by omega), List.foldl_cons]
    exact ih (k + 1) n μ (djn z (D.getD k ev0)) (by omega) (by omega) h3
theorem e_D_add {σ : Mem} {D : List Evt} (l t r b : Int32) (h : CD σ D) : ∃ u, f_D_add l t r b σ = some u ∧ CD u (dadd D l t r b) ∧ fr [9, 10, 11, 12, 13] σ u := by
  unfold f_D_add f_D_add_0 f_D_add_45 f_D_add_96 dadd
  simp only [gbi_e]
  by_cases h1 : mmin r 24 ≤ mmax l 0
  · rw [if_pos h1, if_pos (show ((dclip l t r b).2.2.1 ≤ (dclip l t r b).1 ∨ (dclip l t r b).2.2.2 ≤ (dclip l t r b).2.1) from Or.inl h1)]; exact ⟨σ, rfl, h, fr_rf⟩
  by_cases h2 : mmin b 16 ≤ mmax t 0
  · rw [if_neg h1, if_neg (by rw [z_lt]; rw [z_le] at h2; omega), if_pos (show ((dclip l t r b).2.2.1 ≤ (dclip l t r b).1 ∨ (dclip l t r b).2.2.2 ≤ (dclip l t r b).2.1) from Or.inr h2)]; exact ⟨σ, rfl, h, fr_rf⟩
  rw [if_neg h1, if_pos (by rw [z_lt]; rw [z_le] at h2; omega), if_neg (show ¬ ((dclip l t r b).2.2.1 ≤ (dclip l t r b).1 ∨ (dclip l t r b).2.2.2 ≤ (dclip l t r b).2.1) from fun q => q.elim h1 h2)]
  obtain ⟨a1, a2, a3⟩ := h
  by_cases h3 : D.length < 6
  · rw [if_neg (by rw [a1]; simp (disch := (first | omega | (simp (disch := omega) only [nI_toInt, zk_0, zk_1, zk_2, zk_3, zk_4, zk_5, zk_6, zk_7, zk_8, zk_11, zk_12, zk_15, zk_16, zk_23, zk_24, zk_31, zk_32, zk_50, zk_255, zk_384, zk_400, zk_1023, zk_3072, zk_m1, zk_m50]; omega))) only [z_le, z_lt, z_eq, z_gin, z_cl, nI_toInt, z_add, z_sub, zk_0, zk_1, zk_2, zk_3, zk_4, zk_5, zk_6, zk_7, zk_8, zk_11, zk_12, zk_15, zk_16, zk_23, zk_24, zk_31, zk_32, zk_50, zk_255, zk_384, zk_400, zk_1023, zk_3072, zk_m1, zk_m50]; omega), if_pos h3, a1]
    have hp := e_D_put σ D.length h3 (dclip l t r b)
    rw [show f_D_put (nI D.length) (mmax l 0) (mmax t 0) (mmin r 24) (mmin b 16) σ = _ from hp, gbv_some]
    have hv := Ev_put (dclip l t r b) a3 (by decide) (by decide) (by decide) (by decide) (by decide) (by decide)
    have hf := pt4_fr σ 10 11 12 13 D.length (dclip l t r b)
    refine ⟨_, rfl, ⟨?_, by simp only [List.length_append, List.length_cons, List.length_nil]; omega, ?_⟩, fr_m2 (fr_up hf (by decide)) (by simp)⟩
    · rw [m2_at, if_pos ⟨rfl, rfl⟩, hf 9 (by decide), a1]; simp only [List.length_append, List.length_cons, List.length_nil]; exact nI_1 _
    · exact hv.keep (m2_ne _ _ _ (by decide)) (m2_ne _ _ _ (by decide)) (m2_ne _ _ _ (by decide)) (m2_ne _ _ _ (by decide))
  · rw [if_pos (by rw [a1]; simp (disch := (first | omega | (simp (disch := omega) only [nI_toInt, zk_0, zk_1, zk_2, zk_3, zk_4, zk_5, zk_6, zk_7, zk_8, zk_11, zk_12, zk_15, zk_16, zk_23, zk_24, zk_31, zk_32, zk_50, zk_255, zk_384, zk_400, zk_1023, zk_3072, zk_m1, zk_m50]; omega))) only [z_le, z_lt, z_eq, z_gin, z_cl, nI_toInt, z_add, z_sub, zk_0, zk_1, zk_2, zk_3, zk_4, zk_5, zk_6, zk_7, zk_8, zk_11, zk_12, zk_15, zk_16, zk_23, zk_24, zk_31, zk_32, zk_50, zk_255, zk_384, zk_400, zk_1023, zk_3072, zk_m1, zk_m50]; omega), if_neg h3]
    obtain ⟨u, e1, e2, e3⟩ := D_join_l D a2 D.length 0 gN σ (dclip l t r b) (by omega) (by unfold gN; omega) ⟨a1, a2, a3⟩
    refine ⟨u, ?_, by simpa using e2, e3⟩
    rw [show f_D_joinAllWith (mmax l 0) (mmax t 0) (mmin r 24) (mmin b 16) σ = _ from e1, gbv_some]
/-- the damage holds the place (x, y) -/
def din (x y : Int32) (d : Evt) : Bool := !decide (x < d.1) && !decide (d.2.2.1 ≤ x) && !decide (y < d.2.1) && !decide (d.2.2.2 ≤ y)
theorem D_holds_l (D : List Evt) (hD : D.length ≤ 6) (σ : Mem) (h : CD σ D) (x y : Int32) : ∀ (d k n : Nat), k + d = D.length → d < n → f_D_holds_2 n σ x y (nI k) = some (bI ((D.drop k).any (din x y)), σ) := by
  intro d
  induction d with
  | zero =>
    intro k n h1 h2
    obtain ⟨n, rfl⟩ : ∃ j, n = j + 1 := ⟨n - 1, by omega⟩
    have hk' : k = D.length := by omega
    subst hk'
    show f_D_holds_2B (f_D_holds_2 n) σ x y (nI D.length) = _
    unfold f_D_holds_2B
    rw [h.1, if_pos (by simp (disch := (first | omega | (simp (disch := omega) only [nI_toInt, zk_0, zk_1, zk_2, zk_3, zk_4, zk_5, zk_6, zk_7, zk_8, zk_11, zk_12, zk_15, zk_16, zk_23, zk_24, zk_31, zk_32, zk_50, zk_255, zk_384, zk_400, zk_1023, zk_3072, zk_m1, zk_m50]; omega))) only [z_le, z_lt, z_eq, z_gin, z_cl, nI_toInt, z_add, z_sub, zk_0, zk_1, zk_2, zk_3, zk_4, zk_5, zk_6, zk_7, zk_8, zk_11, zk_12, zk_15, zk_16, zk_23, zk_24, zk_31, zk_32, zk_50, zk_255, zk_384, zk_400, zk_1023, zk_3072, zk_m1, zk_m50]; omega), List.drop_length]; rfl
  | succ d ih =>
    intro k n h1 h2
    obtain ⟨n, rfl⟩ : ∃ j, n = j + 1 := ⟨n - 1, by omega⟩
    show f_D_holds_2B (f_D_holds_2 n) σ x y (nI k) = _
    unfold f_D_holds_2B f_D_holds_52
    rw [h.1, if_neg (by simp (disch := (first | omega | (simp (disch := omega) only [nI_toInt, zk_0, zk_1, zk_2, zk_3, zk_4, zk_5, zk_6, zk_7, zk_8, zk_11, zk_12, zk_15, zk_16, zk_23, zk_24, zk_31, zk_32, zk_50, zk_255, zk_384, zk_400, zk_1023, zk_3072, zk_m1, zk_m50]; omega))) only [z_le, z_lt, z_eq, z_gin, z_cl, nI_toInt, z_add, z_sub, zk_0, zk_1, zk_2, zk_3, zk_4, zk_5, zk_6, zk_7, zk_8, zk_11, zk_12, zk_15, zk_16, zk_23, zk_24, zk_31, zk_32, zk_50, zk_255, zk_384, zk_400, zk_1023, zk_3072, zk_m1, zk_m50]; omega)]
    simp only [if_pos (gin_nI (show k < 6 by omega) (show 6 < 2147483648 by omega)), nI_clamp (show k < 2 ^ 31 by omega), nI_1]
    obtain ⟨a1, a2, a3, a4⟩ := h.2.2 k (by omega)
    rw [a1, a2, a3, a4, drop_getD D ev0 k (by omega), List.any_cons, ih (k + 1) n (by omega) (by omega)]
    unfold din
    by_cases c1 : x < (D.getD k ev0).1
    · rw [if_pos c1, decide_eq_true c1]; simp
    by_cases c2 : (D.getD k ev0).2.2.1 ≤ x
    · rw [if_neg c1, if_pos c2, decide_eq_true c2]; simp
    by_cases c3 : y < (D.getD k ev0).2.1
    · rw [if_neg c1, if_neg c2, if_pos c3, decide_eq_true c3]; simp
    by_cases c4 : (D.getD k ev0).2.2.2 ≤ y
    · rw [if_neg c1, if_neg c2, if_neg c3, if_pos c4, decide_eq_true c4]; simp
    rw [if_neg c1, if_neg c2, if_neg c3, if_neg c4, decide_eq_false c1, decide_eq_false c2, decide_eq_false c3, decide_eq_false c4]; simp [bI]
theorem e_D_holds {σ : Mem} {D : List Evt} (x y : Int32) (h : CD σ D) : f_D_holds x y σ = some (bI (D.any (din x y)), σ) :=
  D_holds_l D h.2.1 σ h x y D.length 0 gN (by omega) (by unfold gN; have := h.2.1; omega)
theorem e_S_damagePart {σ : Mem} {D : List Evt} (q : Nat) (l t r b : Int32) (h : CD σ D) : ∃ u, f_S_damagePart q l t r b σ = some u ∧ CD u (dadd D (σ q 1 + l) (σ q 2 + t) (σ q 1 + r) (σ q 2 + b)) ∧ fr [9, 10, 11, 12, 13] σ u := by
  unfold f_S_damagePart f_S_damagePart_0
  obtain ⟨u, e1, e2, e3⟩ := e_D_add (σ q 1 + l) (σ q 2 + t) (σ q 1 + r) (σ q 2 + b) h
  exact ⟨u, by rw [e1]; rfl, e2, e3⟩
theorem e_S_damageFrame {σ : Mem} {D : List Evt} (q : Nat) (h : CD σ D) : ∃ u, f_S_damageFrame q σ = some u ∧ CD u (dadd D (σ q 1 + 0) (σ q 2 + 0) (σ q 1 + σ q 3) (σ q 2 + σ q 4)) ∧ fr [9, 10, 11, 12, 13] σ u := by
  unfold f_S_damageFrame f_S_damageFrame_0
  obtain ⟨u, e1, e2, e3⟩ := e_S_damagePart q 0 0 (σ q 3) (σ q 4) h
  exact ⟨u, by rw [e1]; rfl, e2, e3⟩
end PD
