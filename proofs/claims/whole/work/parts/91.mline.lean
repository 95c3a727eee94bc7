/-! Pure part: the reference's scroll and line. -/
section MN
variable {σ : Mem} {W : Wnd} {O : List Nat} {P : Nat → Nat → Nat → Int32} {S : Nat → Int32} {D E : List Evt} {X : Int32} {T : Evt} {F N : Int32} {M : Int}
theorem M_cp_l {w : Nat} (hw : w < 8) (x y : Int32) : ∀ (d k n : Nat) (μ : Mem), k + d = 384 → d < n → ∃ u, f_M_scroll_46 n μ (nI w) x y (nI k) = f_M_scroll_83 gN u (nI w) x y 0 ∧ (∀ j, u 31 j = if k ≤ j ∧ j < 384 then μ 30 (384 * w + j) else μ 31 j) ∧ fr [31] μ u := by
  intro d
  induction d with
  | zero =>
    intro k n μ h1 h2
    obtain ⟨n, rfl⟩ : ∃ j, n = j + 1 := ⟨n - 1, by omega⟩
    show ∃ u, f_M_scroll_46B (f_M_scroll_46 n) μ (nI w) x y (nI k) = _ ∧ _
    unfold f_M_scroll_46B
    rw [if_pos (by simp (disch := (first | omega | (simp (disch := omega) only [nI_toInt, zk_0, zk_1, zk_2, zk_3, zk_4, zk_5, zk_6, zk_7, zk_8, zk_11, zk_12, zk_15, zk_16, zk_23, zk_24, zk_31, zk_32, zk_50, zk_255, zk_384, zk_400, zk_1023, zk_3072, zk_m1, zk_m50]; omega))) only [z_le, z_lt, z_eq, z_gin, z_cl, nI_toInt, z_add, z_sub, zk_0, zk_1, zk_2, zk_3, zk_4, zk_5, zk_6, zk_7, zk_8, zk_11, zk_12, zk_15, zk_16, zk_23, zk_24, zk_31, zk_32, zk_50, zk_255, zk_384, zk_400, zk_1023, zk_3072, zk_m1, zk_m50]; omega)]
    exact ⟨μ, rfl, fun j => by rw [if_neg (by omega)], fr_rf⟩
  | succ d ih =>
    intro k n μ h1 h2
    obtain ⟨n, rfl⟩ : ∃ j, n = j + 1 := ⟨n - 1, by omega⟩
    show ∃ u, f_M_scroll_46B (f_M_scroll_46 n) μ (nI w) x y (nI k) = _ ∧ _
    unfold f_M_scroll_46B
    have hx : (384 : Int32) * nI w + nI k = nI (384 * w + k) := by rw [show (384 : Int32) = nI 384 from rfl, pk_mul, nI_add]
    have hg : gin (nI (384 * w + k)) 3072 = true := gin_nI (by omega) (by omega)
    have hc : (nI (384 * w + k)).toNatClampNeg = 384 * w + k := nI_clamp (by omega)
    have hg2 : gin (nI k) 384 = true := gin_nI (by omega) (by omega)
    have hc2 : (nI k).toNatClampNeg = k := nI_clamp (by omega)
    rw [if_neg (by simp (disch := (first | omega | (simp (disch := omega) only [nI_toInt, zk_0, zk_1, zk_2, zk_3, zk_4, zk_5, zk_6, zk_7, zk_8, zk_11, zk_12, zk_15, zk_16, zk_23, zk_24, zk_31, zk_32, zk_50, zk_255, zk_384, zk_400, zk_1023, zk_3072, zk_m1, zk_m50]; omega))) only [z_le, z_lt, z_eq, z_gin, z_cl, nI_toInt, z_add, z_sub, zk_0, zk_1, zk_2, zk_3, zk_4, zk_5, zk_6, zk_7, zk_8, zk_11, zk_12, zk_15, zk_16, zk_23, zk_24, zk_31, zk_32, zk_50, zk_255, zk_384, zk_400, zk_1023, zk_3072, zk_m1, zk_m50]; omega), hx, if_pos hg, if_pos hg2, hc, hc2, gbm_e, nI_1]
    obtain ⟨u, e1, e2, e3⟩ := ih (k + 1) n (m2 μ 31 k (μ 30 (384 * w + k))) (by omega) (by omega)
    refine ⟨u, e1, fun j => ?_, fr_tr (fr_m2 fr_rf (by simp)) e3⟩
    rw [e2 j, m2_at, m2_at, if_neg (show ¬ (30 = 31 ∧ 384 * w + j = k) by omega)]
    by_cases hj : j = k
    · subst hj; rw [if_neg (by omega), if_pos ⟨rfl, rfl⟩, if_pos (by omega)]
    · by_cases h5 : k + 1 ≤ j ∧ j < 384
      · rw [if_pos h5, if_pos (by omega)]
      · rw [if_neg h5, if_neg (by omega), if_neg (by omega)]
theorem RM_pix (hR : RM σ W O P S D E X T F N M) {w a b s u v : Nat} (hi : WI1 W w a b s) (hu : u < a) (hv : v < b) (c : Int32) : RM (m2 σ 30 (384 * w + 24 * v + u) c) W O (pset P w u v c) S D E X T F N M ∧ modF σ (m2 σ 30 (384 * w + 24 * v + u) c) ∧ m2 σ 30 (384 * w + 24 * v + u) c 19 0 = σ 19 0 := by
  obtain ⟨rw, ro, rp, rS, rd, re, rf, rn, rs⟩ := hR
  have fz : fr [30] σ (m2 σ 30 (384 * w + 24 * v + u) c) := fr_m2 fr_rf (by simp)
  have e19 := fz 19 (by decide)
  refine ⟨⟨rw.keep (fun q h1 h2 => fz q (by simp; omega)), ro.keep (fz 29 (by decide)) (by rw [e19]) (by rw [e19]), Mpic_set rp hi hu hv c, fun i hi => ?_, rd.keep (by rw [e19]) (fun q h1 h2 => fz q (by simp; omega)), re.keep (fun q h1 h2 => fz q (by simp; omega)) (fun f _ => by rw [e19]), by rw [e19]; exact rf, by rw [e19]; exact rn, by rw [e19]; exact rs⟩, modF_fr fz (by decide), by rw [e19]⟩
  rw [fz 20 (by decide)]; exact rS i hi
theorem M_scr_in {w a b s : Nat} (hw : w < 8) (hi : WI1 W w a b s) (x y : Int32) (K : Mem → Int32 → Int32 → Int32 → Int32 → Option Mem) (j : Nat) (hj : j < b) : ∀ (d i n : Nat) (μ : Mem), i + d = a → d < n → (∀ m n', m < a → n' < b → μ 31 (24 * n' + m) = P w m n') →
    RM μ W O (psc W P w a x y j i) S D E X T F N M → ∃ u, f_M_scroll_97 K n μ (nI w) x y (nI j) (nI i) = K u (nI w) x y (nI (j + 1)) ∧ RM u W O (psc W P w a x y (j + 1) 0) S D E X T F N M ∧ (∀ m n', m < a → n' < b → u 31 (24 * n' + m) = P w m n') ∧ modF μ u ∧ u 19 0 = μ 19 0 := by
  have ha := hi.2.2.2.2.1
  have hbb := hi.2.2.2.2.2.2.1
  have hgw : gin (nI w) 8 = true := gin_nI hw (by omega)
  have hcw : (nI w).toNatClampNeg = w := nI_clamp (by omega)
  intro d
  induction d with
  | zero =>
    intro i n μ h1 h3 hold hR
    obtain ⟨n, rfl⟩ : ∃ j, n = j + 1 := ⟨n - 1, by omega⟩
    show ∃ u, f_M_scroll_97B K (f_M_scroll_97 K n) μ (nI w) x y (nI j) (nI i) = _ ∧ _
    unfold f_M_scroll_97B
    have hia : i = a := by omega
    obtain ⟨-, -, -, a3, -⟩ := hR.1 w hw
    rw [if_pos hgw, hcw, a3, hi.1, if_pos (by simp (disch := (first | omega | (simp (disch := omega) only [nI_toInt, zk_0, zk_1, zk_2, zk_3, zk_4, zk_5, zk_6, zk_7, zk_8, zk_11, zk_12, zk_15, zk_16, zk_23, zk_24, zk_31, zk_32, zk_50, zk_255, zk_384, zk_400, zk_1023, zk_3072, zk_m1, zk_m50]; omega))) only [z_le, z_lt, z_eq, z_gin, z_cl, nI_toInt, z_add, z_sub, zk_0, zk_1, zk_2, zk_3, zk_4, zk_5, zk_6, zk_7, zk_8, zk_11, zk_12, zk_15, zk_16, zk_23, zk_24, zk_31, zk_32, zk_50, zk_255, zk_384, zk_400, zk_1023, zk_3072, zk_m1, zk_m50]; omega), nI_1]
    rw [hia, psc_row] at hR
    exact ⟨μ, rfl, hR, hold, modF_rf, rfl⟩
  | succ d ih =>
    intro i n μ h1 h3 hold hR
    obtain ⟨n, rfl⟩ : ∃ j, n = j + 1 := ⟨n - 1, by omega⟩
    show ∃ u, f_M_scroll_97B K (f_M_scroll_97 K n) μ (nI w) x y (nI j) (nI i) = _ ∧ _
    unfold f_M_scroll_97B f_M_scroll_167
    obtain ⟨r1, c1, z1⟩ := RM_pix hR hi (show i < a by omega) hj (scv W P w x y i j)
    rw [psc_step (by omega)] at r1
    have hold1 : ∀ m n', m < a → n' < b → (m2 μ 30 (384 * w + 24 * j + i) (scv W P w x y i j)) 31 (24 * n' + m) = P w m n' := fun m n' hm hn' => by
      rw [m2_at, if_neg (by omega)]; exact hold m n' hm hn'
    obtain ⟨u, e2, r2, o2, c2, z2⟩ := ih (i + 1) n _ (by omega) (by omega) hold1 r1
    refine ⟨u, ?_, r2, o2, modF_tr c1 c2, z2.trans z1⟩
    obtain ⟨-, -, -, a3, -⟩ := hR.1 w hw
    rw [if_pos hgw, hcw, a3, hi.1, if_neg (by simp (disch := (first | omega | (simp (disch := omega) only [nI_toInt, zk_0, zk_1, zk_2, zk_3, zk_4, zk_5, zk_6, zk_7, zk_8, zk_11, zk_12, zk_15, zk_16, zk_23, zk_24, zk_31, zk_32, zk_50, zk_255, zk_384, zk_400, zk_1023, zk_3072, zk_m1, zk_m50]; omega))) only [z_le, z_lt, z_eq, z_gin, z_cl, nI_toInt, z_add, z_sub, zk_0, zk_1, zk_2, zk_3, zk_4, zk_5, zk_6, zk_7, zk_8, zk_11, zk_12, zk_15, zk_16, zk_23, zk_24, zk_31, zk_32, zk_50, zk_255, zk_384, zk_400, zk_1023, zk_3072, zk_m1, zk_m50]; omega), e_M_inPicture hR.1 hw, gb_some, pic_idx]
    have hg : gin (nI (384 * w + 24 * j + i)) 3072 = true := gin_nI (by omega) (by omega)
    have hc9 : (nI (384 * w + 24 * j + i)).toNatClampNeg = 384 * w + 24 * j + i := nI_clamp (by omega)
    by_cases hh : hasW W w (nI i + x) (nI j + y) = true
    · obtain ⟨m, n', em, en, hm, hn'⟩ := has_nat hi hh
      have hc8 : (nI (24 * n' + m)).toNatClampNeg = 24 * n' + m := nI_clamp (by omega)
      have hx : (24 : Int32) * (nI j + y) + nI i + x = nI (24 * n' + m) := by
        rw [Int32.add_assoc, em, en, show (24 : Int32) = nI 24 from rfl, pk_mul, nI_add]
      have ev : scv W P w x y i j = P w m n' := by unfold scv; rw [if_pos hh, em, en, nI_clamp (by omega), nI_clamp (by omega)]
      rw [hh, if_neg (by decide), hx, if_pos (gin_nI (by omega) (by omega)), hc8, hold m n' hm hn', if_pos hg, hc9, gbm_e, nI_1, ← ev]
      exact e2
    · have hh' : hasW W w (nI i + x) (nI j + y) = false := by simpa using hh
      have ev : scv W P w x y i j = 0 := by unfold scv; rw [if_neg hh]
      rw [hh', if_pos (by decide), if_pos hg, hc9, gbm_e, nI_1]
      rw [ev] at e2; exact e2
theorem M_scr_out (hD : DI D) {w a b s : Nat} (hw : w < 8) (hi : WI1 W w a b s) (x y : Int32) : ∀ (d j n : Nat) (μ : Mem), j + d = b → d < n → (∀ m n', m < a → n' < b → μ 31 (24 * n' + m) = P w m n') →
    RM μ W O (psc W P w a x y j 0) S D E X T F N M → ∃ u, f_M_scroll_83 n μ (nI w) x y (nI j) = some u ∧ RM u W O (psc W P w a x y b 0) S (dfr D W w) E X T F N M ∧ modF μ u ∧ u 19 0 = μ 19 0 := by
  have ha := hi.2.2.2.2.1
  have hbb := hi.2.2.2.2.2.2.1
  have hgw : gin (nI w) 8 = true := gin_nI hw (by omega)
  have hcw : (nI w).toNatClampNeg = w := nI_clamp (by omega)
  intro d
  induction d with
  | zero =>
    intro j n μ h1 h3 hold hR
    obtain ⟨n, rfl⟩ : ∃ j, n = j + 1 := ⟨n - 1, by omega⟩
    show ∃ u, f_M_scroll_83B (f_M_scroll_83 n) μ (nI w) x y (nI j) = _ ∧ _
    unfold f_M_scroll_83B
    have hjb : j = b := by omega
    obtain ⟨-, -, -, -, a4, -⟩ := hR.1 w hw
    rw [if_pos hgw, hcw, a4, hi.2.1, if_pos (by simp (disch := (first | omega | (simp (disch := omega) only [nI_toInt, zk_0, zk_1, zk_2, zk_3, zk_4, zk_5, zk_6, zk_7, zk_8, zk_11, zk_12, zk_15, zk_16, zk_23, zk_24, zk_31, zk_32, zk_50, zk_255, zk_384, zk_400, zk_1023, zk_3072, zk_m1, zk_m50]; omega))) only [z_le, z_lt, z_eq, z_gin, z_cl, nI_toInt, z_add, z_sub, zk_0, zk_1, zk_2, zk_3, zk_4, zk_5, zk_6, zk_7, zk_8, zk_11, zk_12, zk_15, zk_16, zk_23, zk_24, zk_31, zk_32, zk_50, zk_255, zk_384, zk_400, zk_1023, zk_3072, zk_m1, zk_m50]; omega)]
    rw [hjb] at hR
    obtain ⟨u, e2, r2, m2', z2⟩ := e_M_damageFrame hR hD hw hi
    rw [e2, gbv_some]
    exact ⟨u, rfl, r2, m2', z2⟩
  | succ d ih =>
    intro j n μ h1 h3 hold hR
    obtain ⟨n, rfl⟩ : ∃ j, n = j + 1 := ⟨n - 1, by omega⟩
    show ∃ u, f_M_scroll_83B (f_M_scroll_83 n) μ (nI w) x y (nI j) = _ ∧ _
    unfold f_M_scroll_83B
    obtain ⟨-, -, -, -, a4, -⟩ := hR.1 w hw
    rw [if_pos hgw, hcw, a4, hi.2.1, if_neg (by simp (disch := (first | omega | (simp (disch := omega) only [nI_toInt, zk_0, zk_1, zk_2, zk_3, zk_4, zk_5, zk_6, zk_7, zk_8, zk_11, zk_12, zk_15, zk_16, zk_23, zk_24, zk_31, zk_32, zk_50, zk_255, zk_384, zk_400, zk_1023, zk_3072, zk_m1, zk_m50]; omega))) only [z_le, z_lt, z_eq, z_gin, z_cl, nI_toInt, z_add, z_sub, zk_0, zk_1, zk_2, zk_3, zk_4, zk_5, zk_6, zk_7, zk_8, zk_11, zk_12, zk_15, zk_16, zk_23, zk_24, zk_31, zk_32, zk_50, zk_255, zk_384, zk_400, zk_1023, zk_3072, zk_m1, zk_m50]; omega)]
    obtain ⟨u1, e1, r1, o1, c1, z1⟩ := M_scr_in hw hi x y (f_M_scroll_83 n) j (by omega) a 0 gN μ (by omega) (by unfold gN; omega) hold hR
    obtain ⟨u2, e2, r2, c2, z2⟩ := ih (j + 1) n u1 (by omega) (by omega) o1 r1
    rw [show f_M_scroll_97 (f_M_scroll_83 n) gN μ (nI w) x y (nI j) 0 = _ from e1]
    exact ⟨u2, e2, r2, modF_tr c1 c2, z2.trans z1⟩
theorem M_scroll_hd (hw : Mwin σ W) (x a b : Int32) : f_M_scroll x a b σ = f_M_scroll_32 σ x a b (if opB W x then (if nearB a b then 0 else 2) else 1) := by
  unfold f_M_scroll f_M_scroll_0 f_M_scroll_27
  rw [e_M_isOpen hw, gb_some, e_M_near, gb_some, e_M_near, gb_some, near_12]
  cases opB W x with
  | false => rw [if_pos (by decide)]; rfl
  | true =>
    rw [if_neg (by decide)]
    cases near1 a with
    | false => rw [if_pos (by decide)]; rfl
    | true =>
      rw [if_neg (by decide)]
      cases near1 b with
      | false => rw [if_pos (by decide)]; rfl
      | true => rw [if_neg (by decide)]; rfl
theorem M_scroll_no (hR : RM σ W O P S D E X T F N M) {x a b : Int32} (hx : opB W x = false) : ∃ u, f_M_scroll x a b σ = some u ∧ RM u W O P S D E X T F N M ∧ modF σ u ∧ u 19 0 = 1 := by
  obtain ⟨r, m, z⟩ := RM_code hR 1
  rw [M_scroll_hd hR.1, hx, if_neg (by decide)]
  unfold f_M_scroll_32
  rw [gbm_e, z, if_neg (by decide)]
  exact ⟨_, rfl, r, m, z⟩
theorem M_scroll_far (hR : RM σ W O P S D E X T F N M) {x a b : Int32} (hx : opB W x = true) (hn : nearB a b = false) : ∃ u, f_M_scroll x a b σ = some u ∧ RM u W O P S D E X T F N M ∧ modF σ u ∧ u 19 0 = 2 := by
  obtain ⟨r, m, z⟩ := RM_code hR 2
  rw [M_scroll_hd hR.1, hx, if_pos rfl, hn, if_neg (by decide)]
  unfold f_M_scroll_32
  rw [gbm_e, z, if_neg (by decide)]
  exact ⟨_, rfl, r, m, z⟩
theorem M_scroll_ok (hR : RM σ W O P S D E X T F N M) (hD : DI D) {w a b s : Nat} {x y : Int32} (hw : w < 8) (ho : ¬ W w 0 = 0) (hi : WI1 W w a b s) (hn : nearB x y = true) : ∃ u, f_M_scroll (nI w) x y σ = some u ∧ RM u W O (psc W P w a x y b 0) S (dfr D W w) E X T F N M ∧ modF σ u ∧ u 19 0 = 0 := by
  have ha := hi.2.2.2.2.1
  have hbb := hi.2.2.2.2.2.2.1
  obtain ⟨r, m, z⟩ := RM_code hR 0
  rw [M_scroll_hd hR.1, opB_ok hw ho, if_pos rfl, hn, if_pos rfl]
  unfold f_M_scroll_32
  rw [gbm_e, z, if_pos (by decide)]
  obtain ⟨u1, e1, o1, f1⟩ := M_cp_l hw x y 384 0 gN (m2 σ 19 0 0) rfl (by decide)
  rw [show f_M_scroll_46 gN (m2 σ 19 0 0) (nI w) x y 0 = _ from e1]
  have e19 := f1 19 (by decide)
  have r1 : RM u1 W O P S D E X T F N M := by
    obtain ⟨rw, ro, rp, rS, rd, re, rf, rn, rs⟩ := r
    refine ⟨rw.keep (fun q h1 h2 => f1 q (by simp; omega)), ro.keep (f1 29 (by decide)) (by rw [e19]) (by rw [e19]), rp.keep (f1 30 (by decide)), fun i hi => ?_, rd.keep (by rw [e19]) (fun q h1 h2 => f1 q (by simp; omega)), re.keep (fun q h1 h2 => f1 q (by simp; omega)) (fun f _ => by rw [e19]), by rw [e19]; exact rf, by rw [e19]; exact rn, by rw [e19]; exact rs⟩
    rw [f1 20 (by decide)]; exact rS i hi
  obtain ⟨u2, e2, r2, m2', z2⟩ := M_scr_out (P := P) hD hw hi x y b 0 gN u1 (by omega) (by unfold gN; omega) (fun m n' hm hn' => by
    rw [o1, if_pos (by omega)]
    have := r.2.2.1 w hw ho a b s hi m n' hm hn'
    rw [← this]; congr 1; omega) (by rw [psc_start]; exact r1)
  rw [show f_M_scroll_83 gN u1 (nI w) x y 0 = some u2 from e2]
  exact ⟨u2, rfl, r2, modF_tr m (modF_tr (modF_fr f1 (by decide)) m2'), by rw [z2, e19, z]⟩
end MN
