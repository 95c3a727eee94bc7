/-! Pure part: the class's fill and scroll. -/
section PX
variable {σ : Mem} {W : Wnd} {O : List Nat} {P : Nat → Nat → Nat → Int32} {S : Nat → Int32} {D E : List Evt} {X : Int32} {T : Evt} {F N : Int32}
/-- the picture filled row by row up to row j, column i -/
def pfl (P : Nat → Nat → Nat → Int32) (w l r t j i : Nat) (c : Int32) : Nat → Nat → Nat → Int32 := fun w' u v => if w' = w ∧ l ≤ u ∧ u < r ∧ t ≤ v ∧ (v < j ∨ (v = j ∧ u < i)) then c else P w' u v
def pbox (P : Nat → Nat → Nat → Int32) (w l t r b : Nat) (c : Int32) : Nat → Nat → Nat → Int32 := fun w' u v => if w' = w ∧ l ≤ u ∧ u < r ∧ t ≤ v ∧ v < b then c else P w' u v
theorem pfl_step {w l r t j i : Nat} {c : Int32} (h1 : l ≤ i) (h2 : i < r) (h3 : t ≤ j) : pset (pfl P w l r t j i c) w i j c = pfl P w l r t j (i + 1) c := by
  funext w' u v; unfold pset pfl
  by_cases h : w' = w ∧ u = i ∧ v = j
  · rw [if_pos h, if_pos ⟨h.1, by omega, by omega, by omega, Or.inr ⟨h.2.2, by omega⟩⟩]
  · rw [if_neg h]
    by_cases h5 : w' = w ∧ l ≤ u ∧ u < r ∧ t ≤ v ∧ (v < j ∨ (v = j ∧ u < i))
    · rw [if_pos h5, if_pos ⟨h5.1, h5.2.1, h5.2.2.1, h5.2.2.2.1, by omega⟩]
    · rw [if_neg h5, if_neg (fun hq => by
        by_cases h6 : u = i
        · by_cases h7 : v = j
          · exact h ⟨hq.1, h6, h7⟩
          · exact h5 ⟨hq.1, hq.2.1, hq.2.2.1, hq.2.2.2.1, by omega⟩
        · exact h5 ⟨hq.1, hq.2.1, hq.2.2.1, hq.2.2.2.1, by omega⟩)]
theorem pfl_row {w l r t j : Nat} {c : Int32} : pfl P w l r t j r c = pfl P w l r t (j + 1) l c := by
  funext w' u v; unfold pfl
  by_cases h5 : w' = w ∧ l ≤ u ∧ u < r ∧ t ≤ v ∧ (v < j ∨ (v = j ∧ u < r))
  · rw [if_pos h5, if_pos ⟨h5.1, h5.2.1, h5.2.2.1, h5.2.2.2.1, by omega⟩]
  · rw [if_neg h5, if_neg (fun hq => h5 ⟨hq.1, hq.2.1, hq.2.2.1, hq.2.2.2.1, by omega⟩)]
theorem pfl_start {w l r t : Nat} {c : Int32} : pfl P w l r t t l c = P := by
  funext w' u v; unfold pfl; rw [if_neg (by omega)]
theorem pfl_end {w l r t b : Nat} {c : Int32} : pfl P w l r t b l c = pbox P w l t r b c := by
  funext w' u v; unfold pfl pbox
  by_cases h5 : w' = w ∧ l ≤ u ∧ u < r ∧ t ≤ v ∧ v < b
  · rw [if_pos h5, if_pos ⟨h5.1, h5.2.1, h5.2.2.1, h5.2.2.2.1, by omega⟩]
  · rw [if_neg h5, if_neg (fun hq => h5 ⟨hq.1, hq.2.1, hq.2.2.1, hq.2.2.2.1, by omega⟩)]
theorem S_fill_in (hD : WD W) {w a b s : Nat} (hw : w < 8) (ho : ¬ W w 0 = 0) (hi : WI1 W w a b s) {l t r bt : Nat} (hr : r ≤ a) (hb : bt ≤ b) (c : Int32) (K : Mem → Int32 → Nat → Int32 → Int32 → Int32 → Int32 → Int32 → Option ((Int32 ⊕ String) × Mem)) (j : Nat) (hj : j < bt) (htj : t ≤ j) : ∀ (d i n : Nat) (μ : Mem), i + d = r → l ≤ i → d < n →
    RC μ W O (pfl P w l r t j i c) S D E X T F N → ∃ u, f_S_fill_101 K n μ c (gPB + w) (nI l) (nI t) (nI r) (nI bt) (nI j) (nI i) = K u c (gPB + w) (nI l) (nI t) (nI r) (nI bt) (nI j + 1) ∧ RC u W O (pfl P w l r t (j + 1) l c) S D E X T F N ∧ clsF μ u := by
  have ha := hi.2.2.2.2.1
  have hbb := hi.2.2.2.2.2.2.1
  have h8 := hi.2.2.2.2.2.2.2.1
  intro d
  induction d with
  | zero =>
    intro i n μ h1 h2 h3 hR
    obtain ⟨n, rfl⟩ : ∃ j, n = j + 1 := ⟨n - 1, by omega⟩
    show ∃ u, f_S_fill_101B K (f_S_fill_101 K n) μ c (gPB + w) (nI l) (nI t) (nI r) (nI bt) (nI j) (nI i) = _ ∧ _
    unfold f_S_fill_101B
    rw [if_pos (by simp (disch := (first | omega | (simp (disch := omega) only [nI_toInt, zk_0, zk_1, zk_2, zk_3, zk_4, zk_5, zk_6, zk_7, zk_8, zk_11, zk_12, zk_15, zk_16, zk_23, zk_24, zk_31, zk_32, zk_50, zk_255, zk_384, zk_400, zk_1023, zk_3072, zk_m1, zk_m50]; omega))) only [z_le, z_lt, z_eq, z_gin, z_cl, nI_toInt, z_add, z_sub, zk_0, zk_1, zk_2, zk_3, zk_4, zk_5, zk_6, zk_7, zk_8, zk_11, zk_12, zk_15, zk_16, zk_23, zk_24, zk_31, zk_32, zk_50, zk_255, zk_384, zk_400, zk_1023, zk_3072, zk_m1, zk_m50]; omega)]
    have hir : i = r := by omega
    rw [hir, pfl_row] at hR
    exact ⟨μ, rfl, hR, clsF_rf⟩
  | succ d ih =>
    intro i n μ h1 h2 h3 hR
    obtain ⟨n, rfl⟩ : ∃ j, n = j + 1 := ⟨n - 1, by omega⟩
    show ∃ u, f_S_fill_101B K (f_S_fill_101 K n) μ c (gPB + w) (nI l) (nI t) (nI r) (nI bt) (nI j) (nI i) = _ ∧ _
    unfold f_S_fill_101B
    have hcl := cell_lt (s := s) (show i < a by omega) (show j < b by omega)
    rw [if_neg (by simp (disch := (first | omega | (simp (disch := omega) only [nI_toInt, zk_0, zk_1, zk_2, zk_3, zk_4, zk_5, zk_6, zk_7, zk_8, zk_11, zk_12, zk_15, zk_16, zk_23, zk_24, zk_31, zk_32, zk_50, zk_255, zk_384, zk_400, zk_1023, zk_3072, zk_m1, zk_m50]; omega))) only [z_le, z_lt, z_eq, z_gin, z_cl, nI_toInt, z_add, z_sub, zk_0, zk_1, zk_2, zk_3, zk_4, zk_5, zk_6, zk_7, zk_8, zk_11, zk_12, zk_15, zk_16, zk_23, zk_24, zk_31, zk_32, zk_50, zk_255, zk_384, zk_400, zk_1023, zk_3072, zk_m1, zk_m50]; omega), cell_nI hi hR.1 hw, gb_some, if_pos (gin_nI (by omega) (by omega)), nI_clamp (by omega), gbm_e, nI_1]
    obtain ⟨r1, c1⟩ := RC_pix hR hD hw ho hi (show i < a by omega) (show j < b by omega) c
    rw [pfl_step h2 (by omega) htj] at r1
    obtain ⟨u, e2, r2, c2⟩ := ih (i + 1) n _ (by omega) (by omega) (by omega) r1
    exact ⟨u, e2, r2, clsF_tr c1 c2⟩
theorem S_fill_out (hD : WD W) {w a b s : Nat} (hw : w < 8) (ho : ¬ W w 0 = 0) (hi : WI1 W w a b s) {l t r bt : Nat} (hl : l < r) (hr : r ≤ a) (hb : bt ≤ b) (c : Int32) : ∀ (d j n : Nat) (μ : Mem), j + d = bt → t ≤ j → d < n →
    RC μ W O (pfl P w l r t j l c) S D E X T F N → ∃ u, f_S_fill_90 n μ c (gPB + w) (nI l) (nI t) (nI r) (nI bt) (nI j) = some (.inl ((nI r - nI l) * (nI bt - nI t)), u) ∧ RC u W O (pbox P w l t r bt c) S (dadd D (W w 1 + nI l) (W w 2 + nI t) (W w 1 + nI r) (W w 2 + nI bt)) E X T F N ∧ clsF μ u := by
  have ha := hi.2.2.2.2.1
  have hbb := hi.2.2.2.2.2.2.1
  intro d
  induction d with
  | zero =>
    intro j n μ h1 h2 h3 hR
    obtain ⟨n, rfl⟩ : ∃ j, n = j + 1 := ⟨n - 1, by omega⟩
    show ∃ u, f_S_fill_90B (f_S_fill_90 n) μ c (gPB + w) (nI l) (nI t) (nI r) (nI bt) (nI j) = _ ∧ _
    unfold f_S_fill_90B
    have hjb : j = bt := by omega
    rw [if_pos (by simp (disch := (first | omega | (simp (disch := omega) only [nI_toInt, zk_0, zk_1, zk_2, zk_3, zk_4, zk_5, zk_6, zk_7, zk_8, zk_11, zk_12, zk_15, zk_16, zk_23, zk_24, zk_31, zk_32, zk_50, zk_255, zk_384, zk_400, zk_1023, zk_3072, zk_m1, zk_m50]; omega))) only [z_le, z_lt, z_eq, z_gin, z_cl, nI_toInt, z_add, z_sub, zk_0, zk_1, zk_2, zk_3, zk_4, zk_5, zk_6, zk_7, zk_8, zk_11, zk_12, zk_15, zk_16, zk_23, zk_24, zk_31, zk_32, zk_50, zk_255, zk_384, zk_400, zk_1023, zk_3072, zk_m1, zk_m50]; omega)]
    rw [hjb, pfl_end] at hR
    obtain ⟨u, e2, d2, f2⟩ := e_S_damagePart (gPB + w) (nI l) (nI t) (nI r) (nI bt) hR.2.2.2.2.2.1
    rw [hR.1 w hw 1 (by omega), hR.1 w hw 2 (by omega)] at d2
    obtain ⟨r3, c3⟩ := RC_dmg hR d2 f2
    rw [e2, gbv_some]
    exact ⟨u, rfl, r3, c3⟩
  | succ d ih =>
    intro j n μ h1 h2 h3 hR
    obtain ⟨n, rfl⟩ : ∃ j, n = j + 1 := ⟨n - 1, by omega⟩
    show ∃ u, f_S_fill_90B (f_S_fill_90 n) μ c (gPB + w) (nI l) (nI t) (nI r) (nI bt) (nI j) = _ ∧ _
    unfold f_S_fill_90B
    rw [if_neg (by simp (disch := (first | omega | (simp (disch := omega) only [nI_toInt, zk_0, zk_1, zk_2, zk_3, zk_4, zk_5, zk_6, zk_7, zk_8, zk_11, zk_12, zk_15, zk_16, zk_23, zk_24, zk_31, zk_32, zk_50, zk_255, zk_384, zk_400, zk_1023, zk_3072, zk_m1, zk_m50]; omega))) only [z_le, z_lt, z_eq, z_gin, z_cl, nI_toInt, z_add, z_sub, zk_0, zk_1, zk_2, zk_3, zk_4, zk_5, zk_6, zk_7, zk_8, zk_11, zk_12, zk_15, zk_16, zk_23, zk_24, zk_31, zk_32, zk_50, zk_255, zk_384, zk_400, zk_1023, zk_3072, zk_m1, zk_m50]; omega)]
    obtain ⟨u1, e1, r1, c1⟩ := S_fill_in hD hw ho hi hr hb c (f_S_fill_90 n) j (by omega) h2 (r - l) l gN μ (by omega) (Nat.le_refl _) (by unfold gN; omega) hR
    obtain ⟨u2, e2, r2, c2⟩ := ih (j + 1) n u1 (by omega) (by omega) (by omega) r1
    rw [e1, nI_1]
    exact ⟨u2, e2, r2, clsF_tr c1 c2⟩
def fR (W : Wnd) (w : Nat) (u e : Int32) : Int32 := mmin (u + (e - e / 32 * 32)) (W w 3)
def fB (W : Wnd) (w : Nat) (v e : Int32) : Int32 := mmin (v + e / 32) (W w 4)
theorem C_fill_no (hR : RC σ W O P S D E X T F N) {w u v e c : Int32} (hw : opB W w = false) : f_S_fill w u v e c σ = some (.inr NSE, σ) := by
  unfold f_S_fill f_S_fill_0; rw [e_openPane_no hR.1 hw, gbx_r]
theorem C_fill_bad (hR : RC σ W O P S D E X T F N) {w : Nat} {u v e c : Int32} (hw : w < 8) (ho : ¬ W w 0 = 0) (h : (nearB u v && extB e && colB c) = false) : f_S_fill (nI w) u v e c σ = some (.inr IAE, σ) := by
  unfold f_S_fill f_S_fill_0
  rw [e_openPane_ok hR.1 hw ho, gbx_l, if_pos (gpn_w hw), e_requireNear]
  by_cases h1 : nearB u v = true
  · rw [if_pos h1, gbx_l, e_requireExtent]
    by_cases h2 : extB e = true
    · rw [if_pos h2, gbx_l, e_requireColour]
      have h3 : colB c = false := by simpa [h1, h2] using h
      rw [h3]; rfl
    · rw [if_neg h2]; rfl
  · rw [if_neg h1]; rfl
theorem C_fill_go (hR : RC σ W O P S D E X T F N) {w : Nat} {u v e c : Int32} (hw : w < 8) (ho : ¬ W w 0 = 0) (h1 : nearB u v = true) (h2 : extB e = true) (h3 : colB c = true) : f_S_fill (nI w) u v e c σ = if fR W w u e ≤ mmax u 0 then some (.inl 0, σ) else if mmax v 0 < fB W w v e then f_S_fill_90 gN σ c (gPB + w) (mmax u 0) (mmax v 0) (fR W w u e) (fB W w v e) (mmax v 0) else some (.inl 0, σ) := by
  unfold f_S_fill f_S_fill_0 f_S_fill_84
  rw [e_openPane_ok hR.1 hw ho, gbx_l, if_pos (gpn_w hw), e_requireNear, if_pos h1, gbx_l, e_requireExtent, if_pos h2, gbx_l, e_requireColour, if_pos h3, gbx_l]
  simp only [gbi_e]
  rw [hR.1 w hw 3 (by omega), hR.1 w hw 4 (by omega)]; rfl
theorem C_fill_ok (hR : RC σ W O P S D E X T F N) (hD : WD W) {w a b s : Nat} {u v e c : Int32} (hw : w < 8) (ho : ¬ W w 0 = 0) (hi : WI1 W w a b s) (h1 : nearB u v = true) (h2 : extB e = true) (h3 : colB c = true) {l t r bt : Nat} (el : mmax u 0 = nI l) (et : mmax v 0 = nI t) (er : fR W w u e = nI r) (eb : fB W w v e = nI bt) (hl : l < r) (hr : r ≤ a) (ht : t < bt) (hb : bt ≤ b) :
    ∃ z, f_S_fill (nI w) u v e c σ = some (.inl ((nI r - nI l) * (nI bt - nI t)), z) ∧ RC z W O (pbox P w l t r bt c) S (dadd D (W w 1 + nI l) (W w 2 + nI t) (W w 1 + nI r) (W w 2 + nI bt)) E X T F N ∧ clsF σ z := by
  have ha := hi.2.2.2.2.1
  have hbb := hi.2.2.2.2.2.2.1
  rw [C_fill_go hR hw ho h1 h2 h3, el, et, er, eb, if_neg (by simp (disch := (first | omega | (simp (disch := omega) only [nI_toInt, zk_0, zk_1, zk_2, zk_3, zk_4, zk_5, zk_6, zk_7, zk_8, zk_11, zk_12, zk_15, zk_16, zk_23, zk_24, zk_31, zk_32, zk_50, zk_255, zk_384, zk_400, zk_1023, zk_3072, zk_m1, zk_m50]; omega))) only [z_le, z_lt, z_eq, z_gin, z_cl, nI_toInt, z_add, z_sub, zk_0, zk_1, zk_2, zk_3, zk_4, zk_5, zk_6, zk_7, zk_8, zk_11, zk_12, zk_15, zk_16, zk_23, zk_24, zk_31, zk_32, zk_50, zk_255, zk_384, zk_400, zk_1023, zk_3072, zk_m1, zk_m50]; omega), if_pos (by simp (disch := (first | omega | (simp (disch := omega) only [nI_toInt, zk_0, zk_1, zk_2, zk_3, zk_4, zk_5, zk_6, zk_7, zk_8, zk_11, zk_12, zk_15, zk_16, zk_23, zk_24, zk_31, zk_32, zk_50, zk_255, zk_384, zk_400, zk_1023, zk_3072, zk_m1, zk_m50]; omega))) only [z_le, z_lt, z_eq, z_gin, z_cl, nI_toInt, z_add, z_sub, zk_0, zk_1, zk_2, zk_3, zk_4, zk_5, zk_6, zk_7, zk_8, zk_11, zk_12, zk_15, zk_16, zk_23, zk_24, zk_31, zk_32, zk_50, zk_255, zk_384, zk_400, zk_1023, zk_3072, zk_m1, zk_m50]; omega)]
  exact S_fill_out hD hw ho hi hl hr hb c (bt - t) t gN σ (by omega) (Nat.le_refl _) (by unfold gN; omega) (by rw [pfl_start]; exact hR)
/-- scrolling: what comes to the cell (m, n); the picture done up to row j, column i -/
def scv (W : Wnd) (P : Nat → Nat → Nat → Int32) (w : Nat) (x y : Int32) (m n : Nat) : Int32 := if hasW W w (nI m + x) (nI n + y) = true then P w (nI m + x).toNatClampNeg (nI n + y).toNatClampNeg else 0
def psc (W : Wnd) (P : Nat → Nat → Nat → Int32) (w a : Nat) (x y : Int32) (j i : Nat) : Nat → Nat → Nat → Int32 := fun w' m n => if w' = w ∧ m < a ∧ (n < j ∨ (n = j ∧ m < i)) then scv W P w x y m n else P w' m n
theorem psc_step {w a : Nat} {x y : Int32} {j i : Nat} (h : i < a) : pset (psc W P w a x y j i) w i j (scv W P w x y i j) = psc W P w a x y j (i + 1) := by
  funext w' m n; unfold pset psc
  by_cases h1 : w' = w ∧ m = i ∧ n = j
  · rw [if_pos h1, if_pos ⟨h1.1, by omega, by omega⟩, h1.2.1, h1.2.2]
  · rw [if_neg h1]
    by_cases h5 : w' = w ∧ m < a ∧ (n < j ∨ (n = j ∧ m < i))
    · rw [if_pos h5, if_pos ⟨h5.1, h5.2.1, by omega⟩]
    · rw [if_neg h5, if_neg (fun hq => by
        by_cases h6 : m = i
        · by_cases h7 : n = j
          · exact h1 ⟨hq.1, h6, h7⟩
          · exact h5 ⟨hq.1, hq.2.1, by omega⟩
        · exact h5 ⟨hq.1, hq.2.1, by omega⟩)]
theorem psc_row {w a : Nat} {x y : Int32} {j : Nat} : psc W P w a x y j a = psc W P w a x y (j + 1) 0 := by
  funext w' m n; unfold psc
  by_cases h5 : w' = w ∧ m < a ∧ (n < j ∨ (n = j ∧ m < a))
  · rw [if_pos h5, if_pos ⟨h5.1, h5.2.1, by omega⟩]
  · rw [if_neg h5, if_neg (fun hq => h5 ⟨hq.1, hq.2.1, by omega⟩)]
theorem psc_start {w a : Nat} {x y : Int32} : psc W P w a x y 0 0 = P := by
  funext w' m n; unfold psc; rw [if_neg (by omega)]
theorem S_scr_in (hD : WD W) {w a b s : Nat} (hw : w < 8) (ho : ¬ W w 0 = 0) (hi : WI1 W w a b s) (x y : Int32) (K : Mem → Int32 → Int32 → Nat → Int32 → Option ((Unit ⊕ String) × Mem)) (j : Nat) (hj : j < b) : ∀ (d i n : Nat) (μ : Mem), i + d = a → d < n → (∀ m n', m < a → n' < b → μ 7 (s + n' * a + m) = P w m n') →
    RC μ W O (psc W P w a x y j i) S D E X T F N → ∃ u, f_S_scroll_35 K n μ x y (gPB + w) (nI j) (nI i) = K u x y (gPB + w) (nI j + 1) ∧ RC u W O (psc W P w a x y (j + 1) 0) S D E X T F N ∧ (∀ m n', m < a → n' < b → u 7 (s + n' * a + m) = P w m n') ∧ clsF μ u := by
  have ha := hi.2.2.2.2.1
  have hbb := hi.2.2.2.2.2.2.1
  have h8 := hi.2.2.2.2.2.2.2.1
  intro d
  induction d with
  | zero =>
    intro i n μ h1 h3 hold hR
    obtain ⟨n, rfl⟩ : ∃ j, n = j + 1 := ⟨n - 1, by omega⟩
    show ∃ u, f_S_scroll_35B K (f_S_scroll_35 K n) μ x y (gPB + w) (nI j) (nI i) = _ ∧ _
    unfold f_S_scroll_35B
    have hia : i = a := by omega
    rw [hR.1 w hw 3 (by omega), hi.1, if_pos (by simp (disch := (first | omega | (simp (disch := omega) only [nI_toInt, zk_0, zk_1, zk_2, zk_3, zk_4, zk_5, zk_6, zk_7, zk_8, zk_11, zk_12, zk_15, zk_16, zk_23, zk_24, zk_31, zk_32, zk_50, zk_255, zk_384, zk_400, zk_1023, zk_3072, zk_m1, zk_m50]; omega))) only [z_le, z_lt, z_eq, z_gin, z_cl, nI_toInt, z_add, z_sub, zk_0, zk_1, zk_2, zk_3, zk_4, zk_5, zk_6, zk_7, zk_8, zk_11, zk_12, zk_15, zk_16, zk_23, zk_24, zk_31, zk_32, zk_50, zk_255, zk_384, zk_400, zk_1023, zk_3072, zk_m1, zk_m50]; omega)]
    rw [hia, psc_row] at hR
    exact ⟨μ, rfl, hR, hold, clsF_rf⟩
  | succ d ih =>
    intro i n μ h1 h3 hold hR
    obtain ⟨n, rfl⟩ : ∃ j, n = j + 1 := ⟨n - 1, by omega⟩
    show ∃ u, f_S_scroll_35B K (f_S_scroll_35 K n) μ x y (gPB + w) (nI j) (nI i) = _ ∧ _
    unfold f_S_scroll_35B f_S_scroll_106
    have hcl := cell_lt (s := s) (show i < a by omega) hj
    obtain ⟨r1, c1⟩ := RC_pix hR hD hw ho hi (show i < a by omega) hj (scv W P w x y i j)
    rw [psc_step (by omega)] at r1
    have hold1 : ∀ m n', m < a → n' < b → (m2 μ 6 (s + j * a + i) (scv W P w x y i j)) 7 (s + n' * a + m) = P w m n' := fun m n' hm hn' => by
      rw [m2_at, if_neg (by omega)]; exact hold m n' hm hn'
    obtain ⟨u, e2, r2, o2, c2⟩ := ih (i + 1) n _ (by omega) (by omega) hold1 r1
    refine ⟨u, ?_, r2, o2, clsF_tr c1 c2⟩
    rw [hR.1 w hw 3 (by omega), hi.1, if_neg (by simp (disch := (first | omega | (simp (disch := omega) only [nI_toInt, zk_0, zk_1, zk_2, zk_3, zk_4, zk_5, zk_6, zk_7, zk_8, zk_11, zk_12, zk_15, zk_16, zk_23, zk_24, zk_31, zk_32, zk_50, zk_255, zk_384, zk_400, zk_1023, zk_3072, zk_m1, zk_m50]; omega))) only [z_le, z_lt, z_eq, z_gin, z_cl, nI_toInt, z_add, z_sub, zk_0, zk_1, zk_2, zk_3, zk_4, zk_5, zk_6, zk_7, zk_8, zk_11, zk_12, zk_15, zk_16, zk_23, zk_24, zk_31, zk_32, zk_50, zk_255, zk_384, zk_400, zk_1023, zk_3072, zk_m1, zk_m50]; omega), e_P_has, gb_some, hasB_W hR.1 hw, cell_nI hi hR.1 hw, gb_some]
    have hg : gin (nI (s + j * a + i)) 400 = true := gin_nI (by omega) (by omega)
    have hc9 : (nI (s + j * a + i)).toNatClampNeg = s + j * a + i := nI_clamp (by omega)
    by_cases hh : hasW W w (nI i + x) (nI j + y) = true
    · obtain ⟨m, n', em, en, hm, hn'⟩ := has_nat hi hh
      have hcl2 := cell_lt (s := s) hm hn'
      have hc8 : (nI (s + n' * a + m)).toNatClampNeg = s + n' * a + m := nI_clamp (by omega)
      have ev : scv W P w x y i j = P w m n' := by unfold scv; rw [if_pos hh, em, en, nI_clamp (by omega), nI_clamp (by omega)]
      rw [hh, if_neg (by decide), em, en, cell_nI hi hR.1 hw, gb_some, if_pos (gin_nI (by omega) (by omega)), hc8, hold m n' hm hn', if_pos hg, hc9, gbm_e, nI_1, ← ev]
      exact e2
    · have hh' : hasW W w (nI i + x) (nI j + y) = false := by simpa using hh
      have ev : scv W P w x y i j = 0 := by unfold scv; rw [if_neg hh]
      rw [hh', if_pos (by decide), if_pos hg, hc9, gbm_e, nI_1]
      rw [ev] at e2; exact e2
theorem S_scr_out (hD : WD W) {w a b s : Nat} (hw : w < 8) (ho : ¬ W w 0 = 0) (hi : WI1 W w a b s) (x y : Int32) : ∀ (d j n : Nat) (μ : Mem), j + d = b → d < n → (∀ m n', m < a → n' < b → μ 7 (s + n' * a + m) = P w m n') →
    RC μ W O (psc W P w a x y j 0) S D E X T F N → ∃ u, f_S_scroll_22 n μ x y (gPB + w) (nI j) = some (.inl (), u) ∧ RC u W O (psc W P w a x y b 0) S (dfr D W w) E X T F N ∧ clsF μ u := by
  have ha := hi.2.2.2.2.1
  have hbb := hi.2.2.2.2.2.2.1
  intro d
  induction d with
  | zero =>
    intro j n μ h1 h3 hold hR
    obtain ⟨n, rfl⟩ : ∃ j, n = j + 1 := ⟨n - 1, by omega⟩
    show ∃ u, f_S_scroll_22B (f_S_scroll_22 n) μ x y (gPB + w) (nI j) = _ ∧ _
    unfold f_S_scroll_22B
    have hjb : j = b := by omega
    rw [hR.1 w hw 4 (by omega), hi.2.1, if_pos (by simp (disch := (first | omega | (simp (disch := omega) only [nI_toInt, zk_0, zk_1, zk_2, zk_3, zk_4, zk_5, zk_6, zk_7, zk_8, zk_11, zk_12, zk_15, zk_16, zk_23, zk_24, zk_31, zk_32, zk_50, zk_255, zk_384, zk_400, zk_1023, zk_3072, zk_m1, zk_m50]; omega))) only [z_le, z_lt, z_eq, z_gin, z_cl, nI_toInt, z_add, z_sub, zk_0, zk_1, zk_2, zk_3, zk_4, zk_5, zk_6, zk_7, zk_8, zk_11, zk_12, zk_15, zk_16, zk_23, zk_24, zk_31, zk_32, zk_50, zk_255, zk_384, zk_400, zk_1023, zk_3072, zk_m1, zk_m50]; omega)]
    rw [hjb] at hR
    obtain ⟨u, e2, d2, f2⟩ := e_dFrame hR.2.2.2.2.2.1 hR.1 hw
    obtain ⟨r3, c3⟩ := RC_dmg hR d2 f2
    rw [e2, gbv_some]
    exact ⟨u, rfl, r3, c3⟩
  | succ d ih =>
    intro j n μ h1 h3 hold hR
    obtain ⟨n, rfl⟩ : ∃ j, n = j + 1 := ⟨n - 1, by omega⟩
    show ∃ u, f_S_scroll_22B (f_S_scroll_22 n) μ x y (gPB + w) (nI j) = _ ∧ _
    unfold f_S_scroll_22B
    rw [hR.1 w hw 4 (by omega), hi.2.1, if_neg (by simp (disch := (first | omega | (simp (disch := omega) only [nI_toInt, zk_0, zk_1, zk_2, zk_3, zk_4, zk_5, zk_6, zk_7, zk_8, zk_11, zk_12, zk_15, zk_16, zk_23, zk_24, zk_31, zk_32, zk_50, zk_255, zk_384, zk_400, zk_1023, zk_3072, zk_m1, zk_m50]; omega))) only [z_le, z_lt, z_eq, z_gin, z_cl, nI_toInt, z_add, z_sub, zk_0, zk_1, zk_2, zk_3, zk_4, zk_5, zk_6, zk_7, zk_8, zk_11, zk_12, zk_15, zk_16, zk_23, zk_24, zk_31, zk_32, zk_50, zk_255, zk_384, zk_400, zk_1023, zk_3072, zk_m1, zk_m50]; omega)]
    obtain ⟨u1, e1, r1, o1, c1⟩ := S_scr_in hD hw ho hi x y (f_S_scroll_22 n) j (by omega) a 0 gN μ (by omega) (by unfold gN; omega) hold hR
    obtain ⟨u2, e2, r2, c2⟩ := ih (j + 1) n u1 (by omega) (by omega) o1 r1
    rw [show (0 : Int32) = nI 0 from rfl, e1, nI_1]
    exact ⟨u2, e2, r2, clsF_tr c1 c2⟩
theorem C_scroll_no (hR : RC σ W O P S D E X T F N) {w x y : Int32} (hw : opB W w = false) : f_S_scroll w x y σ = some (.inr NSE, σ) := by
  unfold f_S_scroll f_S_scroll_0; rw [e_openPane_no hR.1 hw, gbx_r]
theorem C_scroll_far (hR : RC σ W O P S D E X T F N) {w : Nat} {x y : Int32} (hw : w < 8) (ho : ¬ W w 0 = 0) (hn : nearB x y = false) : f_S_scroll (nI w) x y σ = some (.inr IAE, σ) := by
  unfold f_S_scroll f_S_scroll_0; rw [e_openPane_ok hR.1 hw ho, gbx_l, if_pos (gpn_w hw), e_requireNear, hn]; rfl
theorem C_scroll_ok (hR : RC σ W O P S D E X T F N) (hD : WD W) {w a b s : Nat} {x y : Int32} (hw : w < 8) (ho : ¬ W w 0 = 0) (hi : WI1 W w a b s) (hn : nearB x y = true) : ∃ u, f_S_scroll (nI w) x y σ = some (.inl (), u) ∧ RC u W O (psc W P w a x y b 0) S (dfr D W w) E X T F N ∧ clsF σ u := by
  have h8 := hi.2.2.2.2.2.2.2.1
  have hbb := hi.2.2.2.2.2.2.1
  unfold f_S_scroll f_S_scroll_0
  rw [e_openPane_ok hR.1 hw ho, gbx_l, if_pos (gpn_w hw), e_requireNear, if_pos hn, gbx_l]
  obtain ⟨u1, e1, o1, f1⟩ := e_T_keepOld σ
  rw [e1, gbv_some]
  have r1 : RC u1 W O P S D E X T F N := by
    obtain ⟨rw, ro, rs, rp, rS, rd, re, rf, rn⟩ := hR
    refine ⟨rw.keep (f1.hi (by decide)), ro.keep (f1 3 (by decide)) (f1 4 (by decide)), rs.keep (f1 8 (by decide)), rp.keep (f1 6 (by decide)), fun i hi => ?_, rd.keep (fun q h1 h2 => f1 q (by simp; omega)), re.keep (fun q h1 h2 => f1 q (by simp; omega)), ?_, ?_⟩
    · rw [f1 1 (by decide)]; exact rS i hi
    · rw [f1 0 (by decide)]; exact rf
    · rw [f1 0 (by decide)]; exact rn
  obtain ⟨u2, e2, r2, c2⟩ := S_scr_out (P := P) hD hw ho hi x y b 0 gN u1 (by omega) (by unfold gN; omega) (fun m n' hm hn' => by
    have hcl := cell_lt (s := s) hm hn'
    rw [o1 _ (by omega)]; exact hR.2.2.2.1 w hw ho a b s hi m n' hm hn') (by rw [psc_start]; exact r1)
  exact ⟨u2, e2, r2, clsF_tr (clsF_fr f1 (by decide)) c2⟩
end PX
