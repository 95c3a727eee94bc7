/-! Pure part: the reference's fill. -/
section ML
variable {σ : Mem} {W : Wnd} {O : List Nat} {P : Nat → Nat → Nat → Int32} {S : Nat → Int32} {D E : List Evt} {X : Int32} {T : Evt} {F N : Int32} {M : Int}
/-- the box after h columns of Q cells and q cells of the next -/
def zst (l t h Q q : Nat) : Option Evt := if q = 0 then (if h = 0 ∨ Q = 0 then none else some (nI l, nI t, nI (l + h - 1), nI (t + Q - 1))) else if h = 0 then some (nI l, nI t, nI l, nI (t + q - 1)) else some (nI l, nI t, nI (l + h), nI (t + Q - 1))
theorem nI_leN {a b : Nat} (ha : a < 2147483648) (hb : b < 2147483648) : nI a ≤ nI b ↔ a ≤ b := by rw [z_le, nI_toInt (by omega), nI_toInt (by omega)]; omega
theorem zst_step {l t h Q q : Nat} (hq : q < Q) (h1 : l + h < 1000) (h2 : t + Q < 1000) : some (pbx (zst l t h Q q) (nI (l + h)) (nI (t + q))) = zst l t h Q (q + 1) := by
  unfold zst
  by_cases hq0 : q = 0
  · subst hq0
    rw [if_pos rfl, if_neg (show ¬ (0 + 1 = 0) by omega)]
    by_cases hh : h = 0
    · subst hh; rw [if_pos (show (0 : Nat) = 0 ∨ Q = 0 from Or.inl rfl), if_pos rfl]; unfold pbx; simp
    · rw [if_neg (show ¬ (h = 0 ∨ Q = 0) by omega), if_neg hh]; unfold pbx
      simp only [Nat.add_zero]
      rw [if_pos ((nI_leN (by omega) (by omega)).2 (by omega)), if_pos ((nI_leN (by omega) (by omega)).2 (by omega)), if_neg (by rw [nI_leN (by omega) (by omega)]; omega), if_pos ((nI_leN (by omega) (by omega)).2 (by omega))]
  · rw [if_neg hq0, if_neg (show ¬ (q + 1 = 0) by omega)]
    by_cases hh : h = 0
    · subst hh; rw [if_pos rfl, if_pos rfl]; unfold pbx
      simp only [Nat.add_zero]
      rw [if_pos (show nI l ≤ nI l from (nI_leN (by omega) (by omega)).2 (by omega)), if_pos (show nI t ≤ nI (t + q) from (nI_leN (by omega) (by omega)).2 (by omega)), if_neg (show ¬ nI (t + q) ≤ nI (t + q - 1) by rw [nI_leN (by omega) (by omega)]; omega)]
      rfl
    · rw [if_neg hh, if_neg hh]; unfold pbx
      simp only
      rw [if_pos ((nI_leN (by omega) (by omega)).2 (by omega)), if_pos ((nI_leN (by omega) (by omega)).2 (by omega)), if_pos ((nI_leN (by omega) (by omega)).2 (by omega)), if_pos ((nI_leN (by omega) (by omega)).2 (by omega))]
theorem zst_col {l t h Q : Nat} : zst l t h Q Q = zst l t (h + 1) Q 0 := by
  unfold zst
  rw [if_pos (show (0 : Nat) = 0 from rfl)]
  by_cases hq : Q = 0
  · subst hq; rw [if_pos rfl, if_pos (Or.inr rfl), if_pos (Or.inr rfl)]
  · rw [if_neg hq, if_neg (show ¬ (h + 1 = 0 ∨ Q = 0) by omega)]
    by_cases hh : h = 0
    · subst hh; rw [if_pos rfl]; rfl
    · rw [if_neg hh]; rfl
theorem zst_ok {l t h Q q : Nat} (h1 : l + h < 50) (h2 : t + Q < 50) (hq : q ≤ Q) : bok (zst l t h Q q) := by
  intro b hb
  unfold zst at hb
  by_cases hq0 : q = 0
  · rw [if_pos hq0] at hb
    by_cases hh : h = 0 ∨ Q = 0
    · rw [if_pos hh] at hb; cases hb
    · rw [if_neg hh] at hb; cases hb; simp only; rw [nI_toInt (by omega), nI_toInt (by omega)]; omega
  · rw [if_neg hq0] at hb
    by_cases hh : h = 0
    · rw [if_pos hh] at hb; cases hb; simp only; rw [nI_toInt (by omega), nI_toInt (by omega)]; omega
    · rw [if_neg hh] at hb; cases hb; simp only; rw [nI_toInt (by omega), nI_toInt (by omega)]; omega
/-- the picture after h columns of Q cells and q cells of the next -/
def pmid (P : Nat → Nat → Nat → Int32) (w l t h Q q : Nat) (c : Int32) : Nat → Nat → Nat → Int32 := fun w' m n => if w' = w ∧ t ≤ n ∧ ((l ≤ m ∧ m < l + h ∧ n < t + Q) ∨ (m = l + h ∧ n < t + q)) then c else P w' m n
theorem pmid_step {w l t h Q q : Nat} {c : Int32} : pset (pmid P w l t h Q q c) w (l + h) (t + q) c = pmid P w l t h Q (q + 1) c := by
  funext w' m n; unfold pset pmid
  by_cases h1 : w' = w ∧ m = l + h ∧ n = t + q
  · rw [if_pos h1, if_pos ⟨h1.1, by omega, Or.inr ⟨h1.2.1, by omega⟩⟩]
  · rw [if_neg h1]
    by_cases h5 : w' = w ∧ t ≤ n ∧ ((l ≤ m ∧ m < l + h ∧ n < t + Q) ∨ (m = l + h ∧ n < t + q))
    · rw [if_pos h5, if_pos ⟨h5.1, h5.2.1, by omega⟩]
    · rw [if_neg h5, if_neg (fun hq => h5 ⟨hq.1, hq.2.1, by
        rcases hq.2.2 with h6 | h6
        · exact Or.inl h6
        · right; refine ⟨h6.1, ?_⟩
          by_cases h7 : n = t + q
          · exact absurd ⟨hq.1, h6.1, h7⟩ h1
          · omega⟩)]
theorem pmid_col {w l t h Q : Nat} {c : Int32} : pmid P w l t h Q Q c = pmid P w l t (h + 1) Q 0 c := by
  funext w' m n; unfold pmid
  by_cases h5 : w' = w ∧ t ≤ n ∧ ((l ≤ m ∧ m < l + h ∧ n < t + Q) ∨ (m = l + h ∧ n < t + Q))
  · rw [if_pos h5, if_pos ⟨h5.1, h5.2.1, by omega⟩]
  · rw [if_neg h5, if_neg (fun hq => h5 ⟨hq.1, hq.2.1, by omega⟩)]
theorem pmid_start {w l t Q : Nat} {c : Int32} : pmid P w l t 0 Q 0 c = P := by
  funext w' m n; unfold pmid; rw [if_neg (by omega)]
theorem pmid_end {w l t h Q : Nat} {c : Int32} : pmid P w l t h Q 0 c = pbox P w l t (l + h) (t + Q) c := by
  funext w' m n; unfold pmid pbox
  by_cases h5 : w' = w ∧ l ≤ m ∧ m < l + h ∧ t ≤ n ∧ n < t + Q
  · rw [if_pos h5, if_pos ⟨h5.1, by omega, Or.inl ⟨by omega, by omega, by omega⟩⟩]
  · rw [if_neg h5, if_neg (fun hq => h5 ⟨hq.1, by omega, by omega, by omega, by omega⟩)]
theorem has_iff {w a b s : Nat} (hi : WI1 W w a b s) (x y : Int32) : hasW W w x y = true ↔ 0 ≤ x.toInt ∧ x.toInt < a ∧ 0 ≤ y.toInt ∧ y.toInt < b := by
  obtain ⟨h1, h2, -, h4, h5, h6, h7, -⟩ := hi
  unfold hasW
  rw [h1, h2]
  simp only [Bool.and_eq_true, decide_eq_true_eq, z_le, z_lt, zk_0]
  rw [nI_toInt (by omega), nI_toInt (by omega)]
  omega
/-- a column outside the picture -/
theorem M_fi_no (hw : Mwin σ W) {w a b s : Nat} (h8 : w < 8) (hi : WI1 W w a b s) (K : Mem → Int32 → Int32 → Int32 → Int32 → Int32 → Int32 → Int32 → Option (Int32 × Mem)) (x2 x3 x4 c acc x7 : Int32) (hx : ¬ (0 ≤ x7.toInt ∧ x7.toInt < a)) {B : Int} (hB : (x3 + x4 / 32).toInt = B) (hB2 : B ≤ 1000) : ∀ (d n : Nat) (x8 : Int32), x8.toInt + d = B → d < n → f_M_fill_86 K n σ (nI w) x2 x3 x4 c acc x7 x8 = K σ (nI w) x2 x3 x4 c acc (x7 + 1) := by
  intro d
  induction d with
  | zero =>
    intro n x8 h1 h2
    obtain ⟨n, rfl⟩ : ∃ j, n = j + 1 := ⟨n - 1, by omega⟩
    show f_M_fill_86B K (f_M_fill_86 K n) σ (nI w) x2 x3 x4 c acc x7 x8 = _
    unfold f_M_fill_86B
    rw [if_pos (by rw [z_le, hB]; omega)]
  | succ d ih =>
    intro n x8 h1 h2
    obtain ⟨n, rfl⟩ : ∃ j, n = j + 1 := ⟨n - 1, by omega⟩
    show f_M_fill_86B K (f_M_fill_86 K n) σ (nI w) x2 x3 x4 c acc x7 x8 = _
    unfold f_M_fill_86B f_M_fill_119
    have hh : hasW W w x7 x8 = false := by
      rw [← Bool.not_eq_true, has_iff hi]; omega
    have h18 : (x8 + 1).toInt = x8.toInt + 1 := by have := z_lo x8; rw [z_add (by rw [zk_1]; omega) (by rw [zk_1]; omega), zk_1]
    rw [if_neg (by rw [z_le, hB]; omega), M_paint_no hw h8 hh, gb_some, if_pos rfl, gbi_e, Int32.add_zero]
    exact ih n (x8 + 1) (by rw [h18]; omega) (by omega)
/-- a column of the picture -/
theorem M_fi_in {w a b s l t h Q : Nat} (h8 : w < 8) (hi : WI1 W w a b s) (K : Mem → Int32 → Int32 → Int32 → Int32 → Int32 → Int32 → Int32 → Option (Int32 × Mem)) (x2 x3 x4 c : Int32) (hlh : l + h < a) (A : Nat) {B v0 : Int} (hB : (x3 + x4 / 32).toInt = B) (hB2 : B ≤ 1000) (ht : (t : Int) = max v0 0) (hQ : Q = (min B b - max v0 0).toNat) : ∀ (d n q : Nat) (x8 : Int32) (μ : Mem), x8.toInt + d = B → v0 ≤ x8.toInt → d < n → q = (min x8.toInt b - max v0 0).toNat → RB μ W O (pmid P w l t h Q q c) S D E X T F N M (zst l t h Q q) →
    ∃ u, f_M_fill_86 K n μ (nI w) x2 x3 x4 c (nI (A + q)) (nI (l + h)) x8 = K u (nI w) x2 x3 x4 c (nI (A + Q)) (nI (l + h) + 1) ∧ RB u W O (pmid P w l t (h + 1) Q 0 c) S D E X T F N M (zst l t (h + 1) Q 0) ∧ modF μ u ∧ u 19 0 = μ 19 0 := by
  have ha := hi.2.2.2.2.1
  have hbb := hi.2.2.2.2.2.2.1
  intro d
  induction d with
  | zero =>
    intro n q x8 μ h1 h2 h3 hq hR
    obtain ⟨n, rfl⟩ : ∃ j, n = j + 1 := ⟨n - 1, by omega⟩
    show ∃ u, f_M_fill_86B K (f_M_fill_86 K n) μ (nI w) x2 x3 x4 c (nI (A + q)) (nI (l + h)) x8 = _ ∧ _
    unfold f_M_fill_86B
    have hqQ : q = Q := by omega
    rw [if_pos (by rw [z_le, hB]; omega), hqQ]
    rw [hqQ, pmid_col, zst_col] at hR
    exact ⟨μ, rfl, hR, modF_rf, rfl⟩
  | succ d ih =>
    intro n q x8 μ h1 h2 h3 hq hR
    obtain ⟨n, rfl⟩ : ∃ j, n = j + 1 := ⟨n - 1, by omega⟩
    show ∃ u, f_M_fill_86B K (f_M_fill_86 K n) μ (nI w) x2 x3 x4 c (nI (A + q)) (nI (l + h)) x8 = _ ∧ _
    unfold f_M_fill_86B f_M_fill_119
    have h18 : (x8 + 1).toInt = x8.toInt + 1 := by have := z_lo x8; rw [z_add (by rw [zk_1]; omega) (by rw [zk_1]; omega), zk_1]
    rw [if_neg (by rw [z_le, hB]; omega)]
    by_cases hin : 0 ≤ x8.toInt ∧ x8.toInt < b
    · have hx8 : x8 = nI (t + q) := by rw [z_nI x8 hin.1]; congr 1; omega
      have hh : hasW W w (nI (l + h)) (nI (t + q)) = true := by
        rw [has_iff hi, nI_toInt (by omega), ← hx8]; omega
      obtain ⟨u1, e1, r1, m1, z1⟩ := M_paint_ok hR h8 hi hlh (show t + q < b by omega) hh c
      rw [pmid_step, zst_step (by omega) (by omega) (by omega)] at r1
      rw [hx8, e1, gb_some, if_neg (by decide), gbi_e, nI_1 (A + q), ← hx8, show A + q + 1 = A + (q + 1) by omega]
      obtain ⟨u2, e2, r2, m2', z2⟩ := ih n (q + 1) (x8 + 1) u1 (by rw [h18]; omega) (by rw [h18]; omega) (by omega) (by rw [h18]; omega) r1
      exact ⟨u2, e2, r2, modF_tr m1 m2', z2.trans z1⟩
    · have hh : hasW W w (nI (l + h)) x8 = false := by
        rw [← Bool.not_eq_true, has_iff hi]; omega
      rw [M_paint_no hR.1 h8 hh, gb_some, if_pos rfl, gbi_e, Int32.add_zero]
      exact ih n q (x8 + 1) μ (by rw [h18]; omega) (by rw [h18]; omega) (by omega) (by rw [h18]; omega) hR
theorem M_fi_out (hD : DI D) {w a b s l t Q H : Nat} (h8 : w < 8) (hi : WI1 W w a b s) (x2 x3 x4 c : Int32) {A B u0 v0 : Int} (hv0 : x3.toInt = v0) (hv2 : -50 ≤ v0) (hA : (x2 + (x4 - x4 / 32 * 32)).toInt = A) (hA2 : A ≤ 1000) (hB : (x3 + x4 / 32).toInt = B) (hB1 : v0 ≤ B) (hB2 : B ≤ 100) (hl : (l : Int) = max u0 0) (ht : (t : Int) = max v0 0) (hQ : Q = (min B b - max v0 0).toNat) (hH : H = (min A a - max u0 0).toNat) (hl2 : l ≤ 100) (ht2 : t ≤ 100) : ∀ (d n h : Nat) (x7 : Int32) (μ : Mem), x7.toInt + d = A → u0 ≤ x7.toInt → d < n → h = (min x7.toInt a - max u0 0).toNat → RB μ W O (pmid P w l t h Q 0 c) S D E X T F N M (zst l t h Q 0) →
    ∃ u, f_M_fill_71 n μ (nI w) x2 x3 x4 c (nI (h * Q)) x7 = some (nI (H * Q), u) ∧ RM u W O (pmid P w l t H Q 0 c) S (mdc D W w (zst l t H Q 0)) E X T F N M ∧ modF μ u ∧ u 19 0 = μ 19 0 := by
  have ha := hi.2.2.2.2.1
  have hbb := hi.2.2.2.2.2.2.1
  intro d
  induction d with
  | zero =>
    intro n h x7 μ h1 h2 h3 hh hR
    obtain ⟨n, rfl⟩ : ∃ j, n = j + 1 := ⟨n - 1, by omega⟩
    show ∃ u, f_M_fill_71B (f_M_fill_71 n) μ (nI w) x2 x3 x4 c (nI (h * Q)) x7 = _ ∧ _
    unfold f_M_fill_71B
    have hhH : h = H := by omega
    rw [if_pos (by rw [z_le, hA]; omega), hhH]
    rw [hhH] at hR
    have hz : bok (zst l t H Q 0) := by
      by_cases h0 : H = 0 ∨ Q = 0
      · intro b hb; unfold zst at hb; rw [if_pos rfl, if_pos h0] at hb; cases hb
      · exact zst_ok (by omega) (by omega) (by omega)
    obtain ⟨u, e1, r1, m1, z1⟩ := M_dch hR hD h8 hi hz
    rw [e1, gbv_some]
    exact ⟨u, rfl, r1, m1, z1⟩
  | succ d ih =>
    intro n h x7 μ h1 h2 h3 hh hR
    obtain ⟨n, rfl⟩ : ∃ j, n = j + 1 := ⟨n - 1, by omega⟩
    show ∃ u, f_M_fill_71B (f_M_fill_71 n) μ (nI w) x2 x3 x4 c (nI (h * Q)) x7 = _ ∧ _
    unfold f_M_fill_71B
    have h17 : (x7 + 1).toInt = x7.toInt + 1 := by have := z_lo x7; rw [z_add (by rw [zk_1]; omega) (by rw [zk_1]; omega), zk_1]
    rw [if_neg (by rw [z_le, hA]; omega)]
    have hdB : x3.toInt + ((B - v0).toNat : Nat) = B := by omega
    by_cases hin : 0 ≤ x7.toInt ∧ x7.toInt < a
    · have hx7 : x7 = nI (l + h) := by rw [z_nI x7 hin.1]; congr 1; omega
      obtain ⟨u1, e1, r1, m1, z1⟩ := M_fi_in (A := h * Q) (l := l) (t := t) (h := h) (Q := Q) (v0 := v0) h8 hi (f_M_fill_71 n) x2 x3 x4 c (by omega) hB (by omega) ht hQ (B - v0).toNat gN 0 x3 μ hdB (by omega) (by unfold gN; omega) (by omega) hR
      rw [hx7, show nI (h * Q) = nI (h * Q + 0) from rfl, e1, ← hx7, show h * Q + Q = (h + 1) * Q by rw [Nat.add_mul, Nat.one_mul]]
      obtain ⟨u2, e2, r2, m2', z2⟩ := ih n (h + 1) (x7 + 1) u1 (by rw [h17]; omega) (by rw [h17]; omega) (by omega) (by rw [h17]; omega) r1
      exact ⟨u2, e2, r2, modF_tr m1 m2', z2.trans z1⟩
    · rw [M_fi_no hR.1 h8 hi (f_M_fill_71 n) x2 x3 x4 c _ x7 hin hB (by omega) (B - v0).toNat gN x3 hdB (by unfold gN; omega)]
      exact ih n h (x7 + 1) μ (by rw [h17]; omega) (by rw [h17]; omega) (by omega) (by rw [h17]; omega) hR
/-- fill -/
theorem extB_2 (e : Int32) : extB e = (!decide (e < 0) && !decide (1023 < e)) := by
  unfold extB
  congr 1
  by_cases h : e ≤ 1023
  · rw [decide_eq_true h, decide_eq_false (by rw [z_le] at h; rw [z_lt]; omega)]; rfl
  · rw [decide_eq_false h, decide_eq_true (by rw [z_le] at h; rw [z_lt]; omega)]; rfl
theorem M_fill_hd (hw : Mwin σ W) (x u v e c : Int32) : f_M_fill x u v e c σ = f_M_fill_53 σ x u v e c (if opB W x then (if nearB u v && extB e && colB c then 0 else 2) else 1) := by
  unfold f_M_fill f_M_fill_0 f_M_fill_48
  rw [e_M_isOpen hw, gb_some, e_M_near, gb_some, e_M_near, gb_some, e_M_colour, gb_some, near_12, extB_2]
  cases opB W x with
  | false => rw [if_pos (by decide)]; rfl
  | true =>
    rw [if_neg (by decide)]
    cases near1 u with
    | false => rw [if_pos (by decide)]; rfl
    | true =>
      rw [if_neg (by decide)]
      cases near1 v with
      | false => rw [if_pos (by decide)]; rfl
      | true =>
        rw [if_neg (by decide)]
        by_cases h1 : e < 0
        · rw [if_pos h1, decide_eq_true h1]; rfl
        by_cases h2 : 1023 < e
        · rw [if_neg h1, if_pos h2, decide_eq_true h2, decide_eq_false h1]; rfl
        rw [if_neg h1, if_neg h2, decide_eq_false h1, decide_eq_false h2]
        cases colB c with
        | false => rw [if_pos (by decide)]; rfl
        | true => rw [if_neg (by decide)]; rfl
theorem M_fill_no (hR : RM σ W O P S D E X T F N M) {x u v e c : Int32} (hx : opB W x = false) : ∃ r t, f_M_fill x u v e c σ = some (r, t) ∧ RM t W O P S D E X T F N M ∧ modF σ t ∧ t 19 0 = 1 := by
  obtain ⟨r, m, z⟩ := RM_code hR 1
  rw [M_fill_hd hR.1, hx, if_neg (by decide)]
  unfold f_M_fill_53
  rw [gbm_e, z, if_neg (by decide)]
  exact ⟨_, _, rfl, r, m, z⟩
theorem M_fill_bad (hR : RM σ W O P S D E X T F N M) {x u v e c : Int32} (hx : opB W x = true) (h : (nearB u v && extB e && colB c) = false) : ∃ r t, f_M_fill x u v e c σ = some (r, t) ∧ RM t W O P S D E X T F N M ∧ modF σ t ∧ t 19 0 = 2 := by
  obtain ⟨r, m, z⟩ := RM_code hR 2
  rw [M_fill_hd hR.1, hx, if_pos rfl, h, if_neg (by decide)]
  unfold f_M_fill_53
  rw [gbm_e, z, if_neg (by decide)]
  exact ⟨_, _, rfl, r, m, z⟩
theorem nI_mod32 (k : Nat) (hk : k ≤ 1023) : nI k - nI k / 32 * 32 = nI (k % 32) ∧ nI k / 32 = nI (k / 32) := by
  have h1 : nI k / 32 = nI (k / 32) := nI_div (m := 32) (by omega) (by omega) (by omega)
  refine ⟨?_, h1⟩
  rw [h1, show (32 : Int32) = nI 32 from rfl, pk_mul, pk_sub (by omega)]
  congr 1; omega
theorem M_fill_ok (hR : RM σ W O P S D E X T F N M) (hD : DI D) {w a b s k : Nat} {u v c : Int32} (hw : w < 8) (ho : ¬ W w 0 = 0) (hi : WI1 W w a b s) (h1 : nearB u v = true) (h2 : extB (nI k) = true) (hk : k ≤ 1023) (h3 : colB c = true) {l t H Q : Nat} (hl : (l : Int) = max u.toInt 0) (ht : (t : Int) = max v.toInt 0) (hH : H = (min (u.toInt + (k % 32 : Nat)) a - max u.toInt 0).toNat) (hQ : Q = (min (v.toInt + (k / 32 : Nat)) b - max v.toInt 0).toNat) :
    ∃ z, f_M_fill (nI w) u v (nI k) c σ = some (nI (H * Q), z) ∧ RM z W O (pbox P w l t (l + H) (t + Q) c) S (mdc D W w (zst l t H Q 0)) E X T F N M ∧ modF σ z ∧ z 19 0 = 0 := by
  have hb := near_b h1
  obtain ⟨q1, q2⟩ := nI_mod32 k hk
  obtain ⟨r, m, z⟩ := RM_code hR 0
  have hA : (u + (nI k - nI k / 32 * 32)).toInt = u.toInt + (k % 32 : Nat) := by
    rw [q1]; rw [z_add] <;> rw [nI_toInt (by omega)] <;> omega
  have hB : (v + nI k / 32).toInt = v.toInt + (k / 32 : Nat) := by
    rw [q2]; rw [z_add] <;> rw [nI_toInt (by omega)] <;> omega
  rw [M_fill_hd hR.1, opB_ok hw ho, if_pos rfl, h1, h2, h3, if_pos (by decide)]
  unfold f_M_fill_53
  rw [gbm_e, z, if_pos (by decide)]
  obtain ⟨t', e1, r1, m1, z1⟩ := M_fi_out (P := P) (O := O) (S := S) (E := E) (X := X) (T := T) (F := F) (N := N) (M := M) hD hw hi u v (nI k) c (A := u.toInt + (k % 32 : Nat)) (B := v.toInt + (k / 32 : Nat)) (u0 := u.toInt) (v0 := v.toInt) (l := l) (t := t) (Q := Q) (H := H) rfl (by omega) hA (by omega) hB (by omega) (by omega) hl ht hQ hH (by omega) (by omega) (k % 32) gN 0 u (m2 σ 19 0 0) (by omega) (by omega) (by unfold gN; omega) (by omega) (by
    rw [pmid_start]; exact (show zst l t 0 Q 0 = none by unfold zst; simp) ▸ RB_of r)
  have e0 : nI (0 * Q) = 0 := by rw [Nat.zero_mul]; rfl
  rw [e0] at e1
  rw [e1]
  rw [pmid_end] at r1
  exact ⟨t', rfl, r1, modF_tr m m1, z1.trans z⟩
end ML
