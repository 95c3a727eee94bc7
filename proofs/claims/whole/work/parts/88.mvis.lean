/-! Pure part: division; the reference's visible, flush. -/
section MJ
variable {σ : Mem} {W : Wnd} {O : List Nat} {P : Nat → Nat → Nat → Int32} {S : Nat → Int32} {D E : List Evt} {X : Int32} {T : Evt} {F N : Int32} {M : Int}
theorem z_div {a b : Int32} (h : -2147483648 ≤ a.toInt.tdiv b.toInt) (h2 : a.toInt.tdiv b.toInt ≤ 2147483647) : (a / b).toInt = a.toInt.tdiv b.toInt := by
  rw [Int32.toInt_div]; exact Int.bmod_eq_of_le (by omega) (by omega)
theorem nI_div {k m : Nat} (hk : k < 2147483648) (hm : m < 2147483648) (h0 : 0 < m) : nI k / nI m = nI (k / m) := by
  have hd : ((k : Int)).tdiv (m : Int) = ((k / m : Nat) : Int) := by rw [Int.ofNat_tdiv]
  have hle : k / m ≤ k := Nat.div_le_self k m
  generalize k / m = q at hd hle ⊢
  rw [z_eq, z_div] <;> rw [nI_toInt (by omega), nI_toInt (by omega), hd]
  · rw [nI_toInt (by omega)]
  · omega
  · omega
theorem nI_mod24 {k : Nat} (hk : k < 384) : nI k - nI k / 24 * 24 = nI (k % 24) ∧ nI k / 24 = nI (k / 24) := by
  have h1 : nI k / 24 = nI (k / 24) := nI_div (m := 24) (by omega) (by omega) (by omega)
  refine ⟨?_, h1⟩
  rw [h1, show (24 : Int32) = nI 24 from rfl, pk_mul, pk_sub (by omega)]
  congr 1; omega
theorem M_vis_l (hw : Mwin σ W) (ho : Mord σ O M) (hO : OI W O) (h0 : σ 19 0 = 0) (x : Int32) : ∀ (d k n : Nat) (acc : Int32), k + d = 384 → d < n → f_M_visible_21 n σ x acc (nI k) = some (fcnt (fun j => decide (ownK W O j = x)) d k acc, σ) := by
  intro d
  induction d with
  | zero =>
    intro k n acc h1 h2
    obtain ⟨n, rfl⟩ : ∃ j, n = j + 1 := ⟨n - 1, by omega⟩
    show f_M_visible_21B (f_M_visible_21 n) σ x acc (nI k) = _
    unfold f_M_visible_21B f_M_visible_65
    rw [if_pos (by simp (disch := (first | omega | (simp (disch := omega) only [nI_toInt, zk_0, zk_1, zk_2, zk_3, zk_4, zk_5, zk_6, zk_7, zk_8, zk_11, zk_12, zk_15, zk_16, zk_23, zk_24, zk_31, zk_32, zk_50, zk_255, zk_384, zk_400, zk_1023, zk_3072, zk_m1, zk_m50]; omega))) only [z_le, z_lt, z_eq, z_gin, z_cl, nI_toInt, z_add, z_sub, zk_0, zk_1, zk_2, zk_3, zk_4, zk_5, zk_6, zk_7, zk_8, zk_11, zk_12, zk_15, zk_16, zk_23, zk_24, zk_31, zk_32, zk_50, zk_255, zk_384, zk_400, zk_1023, zk_3072, zk_m1, zk_m50]; omega)]; rfl
  | succ d ih =>
    intro k n acc h1 h2
    obtain ⟨n, rfl⟩ : ∃ j, n = j + 1 := ⟨n - 1, by omega⟩
    show f_M_visible_21B (f_M_visible_21 n) σ x acc (nI k) = _
    unfold f_M_visible_21B f_M_visible_57
    obtain ⟨q1, q2⟩ := nI_mod24 (k := k) (by omega)
    rw [if_neg (by simp (disch := (first | omega | (simp (disch := omega) only [nI_toInt, zk_0, zk_1, zk_2, zk_3, zk_4, zk_5, zk_6, zk_7, zk_8, zk_11, zk_12, zk_15, zk_16, zk_23, zk_24, zk_31, zk_32, zk_50, zk_255, zk_384, zk_400, zk_1023, zk_3072, zk_m1, zk_m50]; omega))) only [z_le, z_lt, z_eq, z_gin, z_cl, nI_toInt, z_add, z_sub, zk_0, zk_1, zk_2, zk_3, zk_4, zk_5, zk_6, zk_7, zk_8, zk_11, zk_12, zk_15, zk_16, zk_23, zk_24, zk_31, zk_32, zk_50, zk_255, zk_384, zk_400, zk_1023, zk_3072, zk_m1, zk_m50]; omega), h0, if_pos rfl, q1, q2, e_M_owner hw ho hO, gb_some, gbi_e, gbi_e, nI_1, Int32.add_zero, ih (k + 1) n _ (by omega) (by omega), ih (k + 1) n _ (by omega) (by omega)]
    simp only [fcnt]
    have e1 : ownK W O k = owI (O.find? (cov W (nI (k % 24)) (nI (k / 24)))) := rfl
    rw [← e1]
    by_cases h5 : ownK W O k = x
    · rw [if_pos h5, if_pos (decide_eq_true h5)]
    · rw [if_neg h5, if_neg (by simpa using h5)]
theorem M_visible_no (hR : RM σ W O P S D E X T F N M) {w : Int32} (hw : opB W w = false) : ∃ r u, f_M_visible w σ = some (r, u) ∧ RM u W O P S D E X T F N M ∧ modF σ u ∧ u 19 0 = 1 := by
  obtain ⟨r, m, z⟩ := RM_code hR 1
  unfold f_M_visible f_M_visible_0 f_M_visible_14
  rw [e_M_isOpen hR.1, gb_some, hw, if_pos (by decide), gbm_e]
  have : f_M_visible_21 gN (m2 σ 19 0 1) w 0 0 = some (0, m2 σ 19 0 1) := by
    show f_M_visible_21B (f_M_visible_21 999) (m2 σ 19 0 1) w 0 0 = _
    unfold f_M_visible_21B f_M_visible_65
    rw [if_neg (by decide), z, if_neg (by decide)]
  rw [this]
  exact ⟨_, _, rfl, r, m, z⟩
theorem M_visible_ok (hR : RM σ W O P S D E X T F N M) (hO : OI W O) {w : Nat} (hw : w < 8) (ho : ¬ W w 0 = 0) : ∃ u, f_M_visible (nI w) σ = some (fcnt (fun j => decide (ownK W O j = nI w)) 384 0 0, u) ∧ RM u W O P S D E X T F N M ∧ modF σ u ∧ u 19 0 = 0 := by
  obtain ⟨r, m, z⟩ := RM_code hR 0
  unfold f_M_visible f_M_visible_0 f_M_visible_14
  rw [e_M_isOpen hR.1, gb_some, opB_ok hw ho, if_neg (by decide), gbm_e]
  exact ⟨_, M_vis_l r.1 r.2.1 hO z (nI w) 384 0 gN 0 rfl (by decide), r, m, z⟩
/-- flush -/
theorem fl_idx (A x p : Int32) : A + x - p = A + (x - p) := by rw [Int32.sub_eq_add_neg, Int32.sub_eq_add_neg, Int32.add_assoc]
theorem M_fl_in (hD : DI D) (hI : WI W) (hO : OI W O) (K : Mem → Int32 → Int32 → Option (Int32 × Mem)) (y : Nat) (hy : y < 16) : ∀ (d k n : Nat) (acc : Int32) (μ : Mem), k + d = 24 → d < n → RM μ W O P (flS W O P S D (24 * y + k)) D E X T F N M →
    ∃ u, f_M_flush_17 K n μ acc (nI y) (nI k) = K u (fcnt (dmK D) d (24 * y + k) acc) (nI (y + 1)) ∧ RM u W O P (flS W O P S D (24 * (y + 1))) D E X T F N M ∧ modF μ u := by
  intro d
  induction d with
  | zero =>
    intro k n acc μ h1 h2 hR
    obtain ⟨n, rfl⟩ : ∃ j, n = j + 1 := ⟨n - 1, by omega⟩
    show ∃ u, f_M_flush_17B K (f_M_flush_17 K n) μ acc (nI y) (nI k) = _ ∧ _
    unfold f_M_flush_17B
    rw [if_pos (by simp (disch := (first | omega | (simp (disch := omega) only [nI_toInt, zk_0, zk_1, zk_2, zk_3, zk_4, zk_5, zk_6, zk_7, zk_8, zk_11, zk_12, zk_15, zk_16, zk_23, zk_24, zk_31, zk_32, zk_50, zk_255, zk_384, zk_400, zk_1023, zk_3072, zk_m1, zk_m50]; omega))) only [z_le, z_lt, z_eq, z_gin, z_cl, nI_toInt, z_add, z_sub, zk_0, zk_1, zk_2, zk_3, zk_4, zk_5, zk_6, zk_7, zk_8, zk_11, zk_12, zk_15, zk_16, zk_23, zk_24, zk_31, zk_32, zk_50, zk_255, zk_384, zk_400, zk_1023, zk_3072, zk_m1, zk_m50]; omega), nI_1]
    rw [show 24 * y + k = 24 * (y + 1) by omega] at hR
    exact ⟨μ, rfl, hR, modF_rf⟩
  | succ d ih =>
    intro k n acc μ h1 h2 hR
    obtain ⟨n, rfl⟩ : ∃ j, n = j + 1 := ⟨n - 1, by omega⟩
    show ∃ u, f_M_flush_17B K (f_M_flush_17 K n) μ acc (nI y) (nI k) = _ ∧ _
    unfold f_M_flush_17B f_M_flush_93 f_M_flush_97
    rw [if_neg (by simp (disch := (first | omega | (simp (disch := omega) only [nI_toInt, zk_0, zk_1, zk_2, zk_3, zk_4, zk_5, zk_6, zk_7, zk_8, zk_11, zk_12, zk_15, zk_16, zk_23, zk_24, zk_31, zk_32, zk_50, zk_255, zk_384, zk_400, zk_1023, zk_3072, zk_m1, zk_m50]; omega))) only [z_le, z_lt, z_eq, z_gin, z_cl, nI_toInt, z_add, z_sub, zk_0, zk_1, zk_2, zk_3, zk_4, zk_5, zk_6, zk_7, zk_8, zk_11, zk_12, zk_15, zk_16, zk_23, zk_24, zk_31, zk_32, zk_50, zk_255, zk_384, zk_400, zk_1023, zk_3072, zk_m1, zk_m50]; omega), e_M_isDamaged hR.2.2.2.2.1 hD (nI k) (nI y), gb_some, nI_1]
    have e1 : dmK D (24 * y + k) = D.any (din (nI k) (nI y)) := by
      unfold dmK; rw [show (24 * y + k) % 24 = k by omega, show (24 * y + k) / 24 = y by omega]
    have e2 : clK W O P (24 * y + k) = cbl W O P (nI k) (nI y) := by
      unfold clK; rw [show (24 * y + k) % 24 = k by omega, show (24 * y + k) / 24 = y by omega]
    simp only [fcnt]
    by_cases h5 : dmK D (24 * y + k) = true
    · rw [← e1, h5, if_neg (by decide), e_M_owner hR.1 hR.2.1 hO, gb_some]
      have hx : (24 : Int32) * nI y + nI k = nI (24 * y + k) := by rw [show (24 : Int32) = nI 24 from rfl, pk_mul, nI_add]
      have hg : gin (nI (24 * y + k)) 384 = true := gin_nI (by omega) (by omega)
      have hc : (nI (24 * y + k)).toNatClampNeg = 24 * y + k := nI_clamp (by omega)
      have key : ∃ u, f_M_flush_17 K n (m2 μ 20 (24 * y + k) (cbl W O P (nI k) (nI y))) (acc + 1) (nI y) (nI (k + 1)) = K u (fcnt (dmK D) d (24 * y + k + 1) (acc + 1)) (nI (y + 1)) ∧ RM u W O P (flS W O P S D (24 * (y + 1))) D E X T F N M ∧ modF μ u := by
        have fz : fr [20] μ (m2 μ 20 (24 * y + k) (cbl W O P (nI k) (nI y))) := fr_m2 fr_rf (by simp)
        have e19 := fz 19 (by decide)
        obtain ⟨rw, ro, rp, rS, rd, re, rf, rn, rs⟩ := hR
        obtain ⟨u, e3, r3, c3⟩ := ih (k + 1) n (acc + 1) (m2 μ 20 (24 * y + k) (cbl W O P (nI k) (nI y))) (by omega) (by omega) (by
          refine ⟨rw.keep (fun q h1 h2 => fz q (by simp; omega)), ro.keep (fz 29 (by decide)) (by rw [e19]) (by rw [e19]), rp.keep (fz 30 (by decide)), fun i hi => ?_, rd.keep (by rw [e19]) (fun q h1 h2 => fz q (by simp; omega)), re.keep (fun q h1 h2 => fz q (by simp; omega)) (fun f _ => by rw [e19]), by rw [e19]; exact rf, by rw [e19]; exact rn, by rw [e19]; exact rs⟩
          rw [m2_at]
          unfold flS at rS ⊢
          by_cases hi2 : i = 24 * y + k
          · rw [if_pos ⟨rfl, hi2⟩, if_pos ⟨by omega, by rw [hi2]; exact h5⟩, hi2, e2]
          · rw [if_neg (by omega), rS i hi]
            by_cases hi3 : i < 24 * y + k ∧ dmK D i = true
            · rw [if_pos hi3, if_pos ⟨by omega, hi3.2⟩]
            · rw [if_neg hi3, if_neg (fun hq => hi3 ⟨by omega, hq.2⟩)])
        exact ⟨u, e3, r3, modF_tr (modF_fr fz (by decide)) c3⟩
      rw [if_pos rfl]
      obtain ⟨u, e3, r3, c3⟩ := key
      refine ⟨u, ?_, r3, c3⟩
      cases hf : O.find? (cov W (nI k) (nI y)) with
      | none =>
        rw [if_neg (show ¬ (0 : Int32) ≤ owI none by decide), hx, if_pos hg, hc, gbm_e]
        have : cbl W O P (nI k) (nI y) = 0 := by unfold cbl; rw [hf]
        rw [this] at e3; exact e3
      | some w =>
        obtain ⟨hw, ho⟩ := (hO.2 w).1 (List.mem_of_find?_eq_some hf)
        obtain ⟨a, b, s, hi⟩ := (hI w hw).2 ho
        have hcv := List.find?_some hf
        obtain ⟨m', n', hm, hn, hma, hnb⟩ := has_nat hi (show hasW W w (nI k - W w 1) (nI y - W w 2) = true from hcv)
        have ha := hi.2.2.2.2.1
        have hb := hi.2.2.2.2.2.2.1
        obtain ⟨-, a1, a2, -⟩ := hR.1 w hw
        have hgw : gin (nI w) 8 = true := gin_nI hw (by omega)
        have hcw : (nI w).toNatClampNeg = w := nI_clamp (by omega)
        have hg2 : gin (nI (384 * w + 24 * n' + m')) 3072 = true := gin_nI (by omega) (by omega)
        have hc2 : (nI (384 * w + 24 * n' + m')).toNatClampNeg = 384 * w + 24 * n' + m' := nI_clamp (by omega)
        have hv : cbl W O P (nI k) (nI y) = P w m' n' := by
          unfold cbl; rw [hf]; simp only; rw [hm, hn, nI_clamp (by omega), nI_clamp (by omega)]
        rw [show owI (some w) = nI w from rfl, if_pos (show (0 : Int32) ≤ nI w by simp (disch := (first | omega | (simp (disch := omega) only [nI_toInt, zk_0, zk_1, zk_2, zk_3, zk_4, zk_5, zk_6, zk_7, zk_8, zk_11, zk_12, zk_15, zk_16, zk_23, zk_24, zk_31, zk_32, zk_50, zk_255, zk_384, zk_400, zk_1023, zk_3072, zk_m1, zk_m50]; omega))) only [z_le, z_lt, z_eq, z_gin, z_cl, nI_toInt, z_add, z_sub, zk_0, zk_1, zk_2, zk_3, zk_4, zk_5, zk_6, zk_7, zk_8, zk_11, zk_12, zk_15, zk_16, zk_23, zk_24, zk_31, zk_32, zk_50, zk_255, zk_384, zk_400, zk_1023, zk_3072, zk_m1, zk_m50]; omega), if_pos hgw, if_pos hgw, hcw, a1, a2, fl_idx, hn, hm, pic_idx, if_pos hg2, hc2, hx, if_pos hg, hc, gbm_e, hR.2.2.1 w hw ho a b s hi m' n' hma hnb, ← hv]
        exact e3
    · have h5' : dmK D (24 * y + k) = false := by simpa using h5
      rw [← e1, h5', if_pos (by decide)]
      obtain ⟨u, e3, r3, c3⟩ := ih (k + 1) n acc μ (by omega) (by omega) (by
        have : flS W O P S D (24 * y + (k + 1)) = flS W O P S D (24 * y + k) := by
          funext i; unfold flS
          by_cases hi3 : i < 24 * y + k ∧ dmK D i = true
          · rw [if_pos hi3, if_pos ⟨by omega, hi3.2⟩]
          · rw [if_neg hi3, if_neg (fun hq => by
              by_cases hi4 : i = 24 * y + k
              · rw [hi4] at hq; exact h5 hq.2
              · exact hi3 ⟨by omega, hq.2⟩)]
        rw [this]; exact hR)
      exact ⟨u, by rw [e3, if_neg (by decide)]; rfl, r3, c3⟩
theorem M_fl_out (hD : DI D) (hI : WI W) (hO : OI W O) : ∀ (d y n : Nat) (acc : Int32) (μ : Mem), y + d = 16 → d < n → RM μ W O P (flS W O P S D (24 * y)) D E X T F N M →
    ∃ u, f_M_flush_9 n μ acc (nI y) = some (fcnt (dmK D) (24 * d) (24 * y) acc, u) ∧ RM u W O P (flS W O P S D 384) [] E X T F (N + fcnt (dmK D) (24 * d) (24 * y) acc) M ∧ modF μ u := by
  intro d
  induction d with
  | zero =>
    intro y n acc μ h1 h2 hR
    obtain ⟨n, rfl⟩ : ∃ j, n = j + 1 := ⟨n - 1, by omega⟩
    show ∃ u, f_M_flush_9B (f_M_flush_9 n) μ acc (nI y) = _ ∧ _
    unfold f_M_flush_9B
    rw [if_pos (by simp (disch := (first | omega | (simp (disch := omega) only [nI_toInt, zk_0, zk_1, zk_2, zk_3, zk_4, zk_5, zk_6, zk_7, zk_8, zk_11, zk_12, zk_15, zk_16, zk_23, zk_24, zk_31, zk_32, zk_50, zk_255, zk_384, zk_400, zk_1023, zk_3072, zk_m1, zk_m50]; omega))) only [z_le, z_lt, z_eq, z_gin, z_cl, nI_toInt, z_add, z_sub, zk_0, zk_1, zk_2, zk_3, zk_4, zk_5, zk_6, zk_7, zk_8, zk_11, zk_12, zk_15, zk_16, zk_23, zk_24, zk_31, zk_32, zk_50, zk_255, zk_384, zk_400, zk_1023, zk_3072, zk_m1, zk_m50]; omega), gbm_e, gbm_e]
    rw [show 24 * y = 384 by omega] at hR ⊢
    have f1 : fr [19] μ (m2 μ 19 16 0) := fr_m2 fr_rf (by simp)
    obtain ⟨r1, c1, -⟩ := RM_dmg hR (u := m2 μ 19 16 0) (D' := []) ⟨by rw [m2_at, if_pos ⟨rfl, rfl⟩]; rfl, by simp, fun i hi => by simp at hi⟩ (fr_up f1 (by decide)) (fo_m2 fo_rf (by simp))
    have hN : m2 μ 19 16 0 19 36 = N := r1.2.2.2.2.2.2.2.1
    rw [hN]
    obtain ⟨rw, ro, rp, rS, rd, re, rf, rn, rs⟩ := r1
    have fz : fr [19] (m2 μ 19 16 0) (m2 (m2 μ 19 16 0) 19 36 (N + acc)) := fr_m2 fr_rf (by simp)
    have fs : fo [36] (m2 μ 19 16 0) (m2 (m2 μ 19 16 0) 19 36 (N + acc)) := fo_m2 fo_rf (by simp)
    refine ⟨_, rfl, ⟨rw.keep (fun q h1 h2 => fz q (by simp; omega)), ro.keep (fz 29 (by decide)) (fs 11 (by decide)) (fs 12 (by decide)), rp.keep (fz 30 (by decide)), fun i hi => ?_, rd.keep (fs 16 (by decide)) (fun q h1 h2 => fz q (by simp; omega)), re.keep (fun q h1 h2 => fz q (by simp; omega)) (fun f hf => fs f (by simp; omega)), ?_, ?_, ?_⟩, modF_tr c1 (modF_fr fz (by decide))⟩
    · rw [fz 20 (by decide)]; exact rS i hi
    · rw [fs 15 (by decide)]; exact rf
    · rw [m2_at, if_pos ⟨rfl, rfl⟩]; rfl
    · rw [fs 21 (by decide)]; exact rs
  | succ d ih =>
    intro y n acc μ h1 h2 hR
    obtain ⟨n, rfl⟩ : ∃ j, n = j + 1 := ⟨n - 1, by omega⟩
    show ∃ u, f_M_flush_9B (f_M_flush_9 n) μ acc (nI y) = _ ∧ _
    unfold f_M_flush_9B
    rw [if_neg (by simp (disch := (first | omega | (simp (disch := omega) only [nI_toInt, zk_0, zk_1, zk_2, zk_3, zk_4, zk_5, zk_6, zk_7, zk_8, zk_11, zk_12, zk_15, zk_16, zk_23, zk_24, zk_31, zk_32, zk_50, zk_255, zk_384, zk_400, zk_1023, zk_3072, zk_m1, zk_m50]; omega))) only [z_le, z_lt, z_eq, z_gin, z_cl, nI_toInt, z_add, z_sub, zk_0, zk_1, zk_2, zk_3, zk_4, zk_5, zk_6, zk_7, zk_8, zk_11, zk_12, zk_15, zk_16, zk_23, zk_24, zk_31, zk_32, zk_50, zk_255, zk_384, zk_400, zk_1023, zk_3072, zk_m1, zk_m50]; omega)]
    obtain ⟨u1, e1, r1, c1⟩ := M_fl_in hD hI hO (f_M_flush_9 n) y (by omega) 24 0 gN acc μ rfl (by decide) hR
    obtain ⟨u2, e2, r2, c2⟩ := ih (y + 1) n (fcnt (dmK D) 24 (24 * y) acc) u1 (by omega) (by omega) r1
    have e5 : fcnt (dmK D) (24 * (d + 1)) (24 * y) acc = fcnt (dmK D) (24 * d) (24 * (y + 1)) (fcnt (dmK D) 24 (24 * y) acc) := by
      rw [show 24 * (d + 1) = 24 + 24 * d by omega, fcnt_add, show 24 * y + 24 = 24 * (y + 1) by omega]
    rw [e5]
    refine ⟨u2, ?_, r2, modF_tr c1 c2⟩
    rw [show f_M_flush_17 (f_M_flush_9 n) gN μ acc (nI y) 0 = _ from e1]; exact e2
theorem M_flush (hR : RM σ W O P S D E X T F N M) (hD : DI D) (hI : WI W) (hO : OI W O) : ∃ u, f_M_flush σ = some (fcnt (dmK D) 384 0 0, u) ∧ RM u W O P (flS W O P S D 384) [] E X T F (N + fcnt (dmK D) 384 0 0) M ∧ modF σ u := by
  obtain ⟨r, m, z⟩ := RM_code hR 0
  obtain ⟨u, e1, r1, m1⟩ := M_fl_out hD hI hO 16 0 gN 0 (m2 σ 19 0 0) rfl (by decide) (by
    have : flS W O P S D (24 * 0) = S := by funext i; unfold flS; rw [if_neg (by omega)]
    rw [this]; exact r)
  unfold f_M_flush f_M_flush_0
  rw [gbm_e]
  exact ⟨u, e1, r1, modF_tr m m1⟩
end MJ
