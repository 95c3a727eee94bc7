/-! Pure part: the reference's open. -/
section MG
variable {σ : Mem} {W : Wnd} {O : List Nat} {P : Nat → Nat → Nat → Int32} {S : Nat → Int32} {D E : List Evt} {X : Int32} {T : Evt} {F N : Int32} {M : Int}
theorem Mpic_same {W' : Wnd} (h : Mpic σ W P) (hI : WI W) (e : ∀ w, w < 8 → W' w 0 = W w 0 ∧ W' w 3 = W w 3 ∧ W' w 4 = W w 4 ∧ W' w 5 = W w 5) : Mpic σ W' P := by
  intro w hw ho a b s hi u v hu hv
  obtain ⟨a0, a3, a4, a5⟩ := e w hw
  rw [a0] at ho
  obtain ⟨a', b', s', hi'⟩ := (hI w hw).2 ho
  obtain ⟨rfl, rfl, rfl⟩ := same345 hi' hi a3 a4 a5
  exact h w hw ho _ _ _ hi' u v hu hv
/-- a window's place or pen written -/
theorem RM_set (hR : RM σ W O P S D E X T F N M) (hI : WI W) {w f q : Nat} (v : Int32) (hq : (f = 1 ∧ q = 22) ∨ (f = 2 ∧ q = 23) ∨ (f = 6 ∧ q = 26) ∨ (f = 7 ∧ q = 27)) : RM (m2 σ q w v) (wset W w f v) O P S D E X T F N M ∧ modF σ (m2 σ q w v) ∧ m2 σ q w v 19 0 = σ 19 0 := by
  obtain ⟨rw, ro, rp, rS, rd, re, rf, rn, rs⟩ := hR
  have fz : fr [22, 23, 26, 27] σ (m2 σ q w v) := fr_m2 fr_rf (by simp; omega)
  have e19 : m2 σ q w v 19 = σ 19 := fz 19 (by decide)
  have he : ∀ w', w' < 8 → wset W w f v w' 0 = W w' 0 ∧ wset W w f v w' 3 = W w' 3 ∧ wset W w f v w' 4 = W w' 4 ∧ wset W w f v w' 5 = W w' 5 := fun w' _ => by
    unfold wset; rw [if_neg (by omega), if_neg (by omega), if_neg (by omega), if_neg (by omega)]; exact ⟨rfl, rfl, rfl, rfl⟩
  refine ⟨⟨fun w' hw' => ?_, ro.keep (fz 29 (by decide)) (by rw [e19]) (by rw [e19]), Mpic_same (rp.keep (fz 30 (by decide))) hI he, fun i hi => ?_, rd.keep (by rw [e19]) (fun q h1 h2 => fz q (by simp; omega)), re.keep (fun q h1 h2 => fz q (by simp; omega)) (fun f _ => by rw [e19]), by rw [e19]; exact rf, by rw [e19]; exact rn, by rw [e19]; exact rs⟩, modF_fr fz (by decide), by rw [e19]⟩
  · obtain ⟨a0, a1, a2, a3, a4, a5, a6, a7⟩ := rw w' hw'
    rcases hq with ⟨rfl, rfl⟩ | ⟨rfl, rfl⟩ | ⟨rfl, rfl⟩ | ⟨rfl, rfl⟩ <;> by_cases hww : w' = w <;> simp [m2_at, wset, hww, a0, a1, a2, a3, a4, a5, a6, a7] <;> simp_all
  · rw [fz 20 (by decide)]; exact rS i hi
theorem RM_foc (hR : RM σ W O P S D E X T F N M) (F' : Int32) : RM (m2 σ 19 15 F') W O P S D E X T F' N M ∧ modF σ (m2 σ 19 15 F') ∧ m2 σ 19 15 F' 19 0 = σ 19 0 := by
  obtain ⟨rw, ro, rp, rS, rd, re, rf, rn, rs⟩ := hR
  have fz : fr [19] σ (m2 σ 19 15 F') := fr_m2 fr_rf (by simp)
  have fs : fo [15] σ (m2 σ 19 15 F') := fo_m2 fo_rf (by simp)
  refine ⟨⟨rw.keep (fun q h1 h2 => fz q (by simp; omega)), ro.keep (fz 29 (by decide)) (fs 11 (by decide)) (fs 12 (by decide)), rp.keep (fz 30 (by decide)), fun i hi => ?_, rd.keep (fs 16 (by decide)) (fun q h1 h2 => fz q (by simp; omega)), re.keep (fun q h1 h2 => fz q (by simp; omega)) (fun f hf => fs f (by simp; omega)), by rw [m2_at, if_pos ⟨rfl, rfl⟩], ?_, ?_⟩, modF_fr fz (by decide), fs 0 (by decide)⟩
  · rw [fz 20 (by decide)]; exact rS i hi
  · rw [fs 36 (by decide)]; exact rn
  · rw [fs 21 (by decide)]; exact rs
theorem RM_ev (hR : RM σ W O P S D E X T F N M) {u : Mem} {E' : List Evt} {X' : Int32} {T' : Evt} (he : ME u E' X' T') (hf : fr [19, 36, 37, 38, 39] σ u) (hs : fo [26, 31, 32, 33, 34, 35] σ u) : RM u W O P S D E' X' T' F N M ∧ modF σ u ∧ u 19 0 = σ 19 0 := by
  obtain ⟨rw, ro, rp, rS, rd, re, rf, rn, rs⟩ := hR
  refine ⟨⟨rw.keep (fun q h1 h2 => hf q (by simp; omega)), ro.keep (hf 29 (by decide)) (hs 11 (by decide)) (hs 12 (by decide)), rp.keep (hf 30 (by decide)), fun i hi => ?_, rd.keep (hs 16 (by decide)) (fun q h1 h2 => hf q (by simp; omega)), he, ?_, ?_, ?_⟩, modF_fr hf (by decide), hs 0 (by decide)⟩
  · rw [hf 20 (by decide)]; exact rS i hi
  · rw [hs 15 (by decide)]; exact rf
  · rw [hs 36 (by decide)]; exact rn
  · rw [hs 21 (by decide)]; exact rs
theorem sizeB_4 (a b : Int32) : sizeB a b = (!decide (a < 1) && !decide (24 < a) && !decide (b < 1) && !decide (16 < b)) := by
  unfold sizeB
  congr 1
  by_cases h : b ≤ 16
  · rw [decide_eq_true h, decide_eq_false (by rw [z_le] at h; rw [z_lt]; omega)]; rfl
  · rw [decide_eq_false h, decide_eq_true (by rw [z_le] at h; rw [z_lt]; omega)]; rfl
theorem M_open_hd (x y a b : Int32) (σ : Mem) : f_M_open x y a b σ = f_M_open_44 σ x y a b (if nearB x y && sizeB a b then 0 else 1) := by
  unfold f_M_open f_M_open_0 f_M_open_43
  rw [e_M_near, gb_some, e_M_near, gb_some, near_12, sizeB_4]
  cases near1 x with
  | false => rw [if_pos (by decide)]; simp
  | true =>
    rw [if_neg (by decide)]
    cases near1 y with
    | false => rw [if_pos (by decide)]; simp
    | true =>
      rw [if_neg (by decide)]
      by_cases h1 : a < 1
      · rw [if_pos h1]; simp [h1]
      by_cases h2 : 24 < a
      · rw [if_neg h1, if_pos h2]; simp [h2]
      by_cases h3 : b < 1
      · rw [if_neg h1, if_neg h2, if_pos h3]; simp [h3]
      by_cases h4 : 16 < b
      · rw [if_neg h1, if_neg h2, if_neg h3, if_pos h4]; simp [h4]
      rw [if_neg h1, if_neg h2, if_neg h3, if_neg h4]; simp [h1, h2, h3, h4]
theorem M_open_bad (hR : RM σ W O P S D E X T F N M) {x y a b : Int32} (h : nearB x y = false ∨ sizeB a b = false) : ∃ u, f_M_open x y a b σ = some (0, u) ∧ RM u W O P S D E X T F N M ∧ modF σ u ∧ u 19 0 = 1 := by
  have hb : (nearB x y && sizeB a b) = false := by rcases h with h | h <;> simp [h]
  obtain ⟨r, m, z⟩ := RM_code hR 1
  rw [M_open_hd, hb, if_neg (by decide)]
  unfold f_M_open_44 f_M_open_66 f_M_open_98
  rw [gbm_e, z, if_neg (by decide), e_M_firstClosed r.1, gb_some, z, if_neg (by decide), if_neg (by decide)]
  exact ⟨_, rfl, r, m, z⟩
theorem M_open_full (hR : RM σ W O P S D E X T F N M) {x y a b : Int32} (h1 : nearB x y = true) (h2 : sizeB a b = true) (h3 : lcD W 8 0 = 8 ∨ ffind (frW W) (a * b) 400 0 0 = -1) : ∃ u, f_M_open x y a b σ = some (0, u) ∧ RM u W O P S D E X T F N M ∧ modF σ u ∧ u 19 0 = 2 := by
  obtain ⟨r, m, z⟩ := RM_code hR 0
  obtain ⟨r2, m2', z2⟩ := RM_code r 2
  have hl := lcD_spec W 8 0
  rw [M_open_hd, h1, h2, if_pos (by decide)]
  unfold f_M_open_44 f_M_open_66 f_M_open_93 f_M_open_98
  rw [gbm_e, z, if_pos (by decide), e_M_stretch r.1, gb_some, e_M_firstClosed r.1, gb_some, z, if_pos rfl, gbm_e, z2, if_neg (show ¬ (2 : Int32) ≤ 0 by decide)]
  by_cases h5 : lcD W 8 0 = 8
  · rw [if_pos (by rw [h5]; rfl)]; exact ⟨_, rfl, r2, modF_tr m m2', z2⟩
  · rw [if_neg (by rw [show (8 : Int32) = nI 8 from rfl, nI_eq (by omega) (by omega)]; exact h5), h3.resolve_left h5, if_neg (by decide)]
    exact ⟨_, rfl, r2, modF_tr m m2', z2⟩
/-- the end of open, its loop run -/
def opE (σ : Mem) (k : Nat) : Option (Int32 × Mem) := gbm (m2 σ 19 11 ((σ 19 11) - 1)) fun u1 => if gin (nI k) 8 = true then gbm (m2 u1 29 (nI k).toNatClampNeg (u1 19 11)) fun u2 => gbv (f_M_damageFrame (nI k) u2) fun u3 => gbm (m2 u3 19 15 (nI k)) fun u4 => some (nI k, u4) else none
theorem M_zero_l {k : Nat} (hk : k < 8) : ∀ (d i n : Nat) (μ : Mem), i + d = 384 → d < n → ∃ u, f_M_open_176 n μ (nI k) (nI i) = opE u k ∧ (∀ j, u 30 j = if 384 * k + i ≤ j ∧ j < 384 * k + 384 then 0 else μ 30 j) ∧ fr [30] μ u := by
  intro d
  induction d with
  | zero =>
    intro i n μ h1 h2
    obtain ⟨n, rfl⟩ : ∃ j, n = j + 1 := ⟨n - 1, by omega⟩
    show ∃ u, f_M_open_176B (f_M_open_176 n) μ (nI k) (nI i) = _ ∧ _
    unfold f_M_open_176B
    rw [if_pos (by simp (disch := (first | omega | (simp (disch := omega) only [nI_toInt, zk_0, zk_1, zk_2, zk_3, zk_4, zk_5, zk_6, zk_7, zk_8, zk_11, zk_12, zk_15, zk_16, zk_23, zk_24, zk_31, zk_32, zk_50, zk_255, zk_384, zk_400, zk_1023, zk_3072, zk_m1, zk_m50]; omega))) only [z_le, z_lt, z_eq, z_gin, z_cl, nI_toInt, z_add, z_sub, zk_0, zk_1, zk_2, zk_3, zk_4, zk_5, zk_6, zk_7, zk_8, zk_11, zk_12, zk_15, zk_16, zk_23, zk_24, zk_31, zk_32, zk_50, zk_255, zk_384, zk_400, zk_1023, zk_3072, zk_m1, zk_m50]; omega)]
    exact ⟨μ, rfl, fun j => by rw [if_neg (by omega)], fr_rf⟩
  | succ d ih =>
    intro i n μ h1 h2
    obtain ⟨n, rfl⟩ : ∃ j, n = j + 1 := ⟨n - 1, by omega⟩
    show ∃ u, f_M_open_176B (f_M_open_176 n) μ (nI k) (nI i) = _ ∧ _
    unfold f_M_open_176B
    have hx : (384 : Int32) * nI k + nI i = nI (384 * k + i) := by rw [show (384 : Int32) = nI 384 from rfl, pk_mul, nI_add]
    have hg : gin (nI (384 * k + i)) 3072 = true := gin_nI (by omega) (by omega)
    have hc : (nI (384 * k + i)).toNatClampNeg = 384 * k + i := nI_clamp (by omega)
    rw [if_neg (by simp (disch := (first | omega | (simp (disch := omega) only [nI_toInt, zk_0, zk_1, zk_2, zk_3, zk_4, zk_5, zk_6, zk_7, zk_8, zk_11, zk_12, zk_15, zk_16, zk_23, zk_24, zk_31, zk_32, zk_50, zk_255, zk_384, zk_400, zk_1023, zk_3072, zk_m1, zk_m50]; omega))) only [z_le, z_lt, z_eq, z_gin, z_cl, nI_toInt, z_add, z_sub, zk_0, zk_1, zk_2, zk_3, zk_4, zk_5, zk_6, zk_7, zk_8, zk_11, zk_12, zk_15, zk_16, zk_23, zk_24, zk_31, zk_32, zk_50, zk_255, zk_384, zk_400, zk_1023, zk_3072, zk_m1, zk_m50]; omega), hx, if_pos hg, hc, gbm_e, nI_1]
    obtain ⟨u, e1, e2, e3⟩ := ih (i + 1) n (m2 μ 30 (384 * k + i) 0) (by omega) (by omega)
    refine ⟨u, e1, fun j => ?_, fr_tr (fr_m2 fr_rf (by simp)) e3⟩
    rw [e2 j, m2_at]
    by_cases hj : j = 384 * k + i
    · rw [if_neg (by omega), if_pos ⟨rfl, hj⟩, if_pos (by omega)]
    · by_cases h5 : 384 * k + (i + 1) ≤ j ∧ j < 384 * k + 384
      · rw [if_pos h5, if_pos (by omega)]
      · rw [if_neg h5, if_neg (by omega), if_neg (by omega)]
theorem M_open_ok (hR : RM σ W O P S D E X T F N M) (hD : DI D) (hO : OI W O) (hM : M ≤ 1000000) {x y : Int32} {m n s k : Nat}
    (h1 : nearB x y = true) (hm : 1 ≤ m ∧ m ≤ 24) (hn : 1 ≤ n ∧ n ≤ 16) (hk : lcD W 8 0 = k) (hk8 : k < 8) (hf : ffind (frW W) (nI m * nI n) 400 0 0 = nI s) (hs : s + m * n ≤ 400) :
    ∃ u, f_M_open x y (nI m) (nI n) σ = some (nI k, u) ∧ RM u (wO W k x y (nI m) (nI n) (nI s)) (k :: O) (pO P k) S (dadd D (x + 0) (y + 0) (x + nI m) (y + nI n)) E X T (nI k) N (M + 1) ∧ modF σ u ∧ u 19 0 = 0 := by
  have h2 : sizeB (nI m) (nI n) = true := by
    unfold sizeB
    simp only [Bool.and_eq_true, Bool.not_eq_true', decide_eq_false_iff_not, decide_eq_true_eq]
    refine ⟨⟨⟨?_, ?_⟩, ?_⟩, ?_⟩ <;> (simp (disch := (first | omega | (simp (disch := omega) only [nI_toInt, zk_0, zk_1, zk_2, zk_3, zk_4, zk_5, zk_6, zk_7, zk_8, zk_11, zk_12, zk_15, zk_16, zk_23, zk_24, zk_31, zk_32, zk_50, zk_255, zk_384, zk_400, zk_1023, zk_3072, zk_m1, zk_m50]; omega))) only [z_le, z_lt, z_eq, z_gin, z_cl, nI_toInt, z_add, z_sub, zk_0, zk_1, zk_2, zk_3, zk_4, zk_5, zk_6, zk_7, zk_8, zk_11, zk_12, zk_15, zk_16, zk_23, zk_24, zk_31, zk_32, zk_50, zk_255, zk_384, zk_400, zk_1023, zk_3072, zk_m1, zk_m50]; omega)
  have hc0 : W k 0 = 0 := by have := (lcD_spec W 8 0).2.2; rw [hk] at this; exact this (by omega)
  have hkO : k ∉ O := fun h => ((hO.2 k).1 h).2 hc0
  obtain ⟨r, mf, z⟩ := RM_code hR 0
  rw [M_open_hd, h1, h2, if_pos (by decide)]
  unfold f_M_open_44 f_M_open_66 f_M_open_98
  rw [gbm_e, z, if_pos (by decide), e_M_stretch r.1, gb_some, e_M_firstClosed r.1, gb_some, z, if_pos rfl, hk, hf]
  rw [if_neg (show ¬ nI k = 8 by rw [show (8 : Int32) = nI 8 from rfl, nI_eq (by omega) (by omega)]; omega), if_pos (show (0 : Int32) ≤ nI s by simp (disch := (first | omega | (simp (disch := omega) only [nI_toInt, zk_0, zk_1, zk_2, zk_3, zk_4, zk_5, zk_6, zk_7, zk_8, zk_11, zk_12, zk_15, zk_16, zk_23, zk_24, zk_31, zk_32, zk_50, zk_255, zk_384, zk_400, zk_1023, zk_3072, zk_m1, zk_m50]; omega))) only [z_le, z_lt, z_eq, z_gin, z_cl, nI_toInt, z_add, z_sub, zk_0, zk_1, zk_2, zk_3, zk_4, zk_5, zk_6, zk_7, zk_8, zk_11, zk_12, zk_15, zk_16, zk_23, zk_24, zk_31, zk_32, zk_50, zk_255, zk_384, zk_400, zk_1023, zk_3072, zk_m1, zk_m50]; omega), if_pos (show (0 : Int32) ≤ 0 by decide)]
  have hg : gin (nI k) 8 = true := gin_nI hk8 (by omega)
  have hcl : (nI k).toNatClampNeg = k := nI_clamp (by omega)
  simp only [if_pos hg, hcl, gbm_e]
  obtain ⟨rw0, ro0, rp0, rS0, rd0, re0, rf0, rn0, rs0⟩ := r
  have hw8 : Mwin (m2 (m2 (m2 (m2 (m2 (m2 (m2 (m2 (m2 σ 19 0 0) 21 k 1) 28 k (nI s)) 22 k x) 23 k y) 24 k (nI m)) 25 k (nI n)) 26 k 0) 27 k 0) (wO W k x y (nI m) (nI n) (nI s)) := by
    intro w hw
    obtain ⟨a0, a1, a2, a3, a4, a5, a6, a7⟩ := rw0 w hw
    simp only [m2_at] at a0 a1 a2 a3 a4 a5 a6 a7
    by_cases hwk : w = k
    · subst hwk; simp [m2_at, wO]
    · simp [m2_at, wO, hwk] at a0 a1 a2 a3 a4 a5 a6 a7 ⊢; exact ⟨a0, a1, a2, a3, a4, a5, a6, a7⟩
  have f8 : fr [21, 22, 23, 24, 25, 26, 27, 28] (m2 σ 19 0 0) (m2 (m2 (m2 (m2 (m2 (m2 (m2 (m2 (m2 σ 19 0 0) 21 k 1) 28 k (nI s)) 22 k x) 23 k y) 24 k (nI m)) 25 k (nI n)) 26 k 0) 27 k 0) := fr_m2 (fr_m2 (fr_m2 (fr_m2 (fr_m2 (fr_m2 (fr_m2 (fr_m2 fr_rf (by simp)) (by simp)) (by simp)) (by simp)) (by simp)) (by simp)) (by simp)) (by simp)
  generalize m2 (m2 (m2 (m2 (m2 (m2 (m2 (m2 (m2 σ 19 0 0) 21 k 1) 28 k (nI s)) 22 k x) 23 k y) 24 k (nI m)) 25 k (nI n)) 26 k 0) 27 k 0 = u8 at hw8 f8 ⊢
  obtain ⟨u9, e9, t9, f9⟩ := M_zero_l hk8 384 0 gN u8 rfl (by decide)
  rw [show f_M_open_176 gN u8 (nI k) 0 = opE u9 k from e9]
  have f89 : fr [21, 22, 23, 24, 25, 26, 27, 28, 30] (m2 σ 19 0 0) u9 := fr_tr (fr_up f8 (by decide)) (fr_up f9 (by decide))
  have e19 : u9 19 = m2 σ 19 0 0 19 := f89 19 (by decide)
  have hr : RM (m2 (m2 u9 19 11 (u9 19 11 - 1)) 29 k (u9 19 11 - 1)) (wO W k x y (nI m) (nI n) (nI s)) (k :: O) (pO P k) S D E X T F N (M + 1) := by
    have fa : fr [19, 29] u9 (m2 (m2 u9 19 11 (u9 19 11 - 1)) 29 k (u9 19 11 - 1)) := fr_m2 (fr_m2 fr_rf (by simp)) (by simp)
    have fs : fo [11] u9 (m2 (m2 u9 19 11 (u9 19 11 - 1)) 29 k (u9 19 11 - 1)) := fo_m2o (fo_m2 fo_rf (by simp)) (by decide)
    have ho9 : Mord u9 O M := ro0.keep (f89 29 (by decide)) (by rw [e19]) (by rw [e19])
    obtain ⟨o1, o2, o3, o4, o5, o6⟩ := ho9
    have hv : (u9 19 11 - 1).toInt = (u9 19 11).toInt - 1 := by rw [z_sub (by rw [zk_1]; omega) (by rw [zk_1]; omega), zk_1]
    have hmo := Mord_front (u := m2 (m2 u9 19 11 (u9 19 11 - 1)) 29 k (u9 19 11 - 1)) (w := k) (⟨o1, o2, o3, o4, o5, o6⟩ : Mord u9 O M) hv (by funext i; simp [m2_at]) (by simp [m2_at]) (by simp [m2_at])
    rw [List.filter_eq_self.2 (fun a ha => by simp; rintro rfl; exact hkO ha)] at hmo
    refine ⟨(hw8.keep (fun q h1 h2 => f9 q (by simp; omega))).keep (fun q h1 h2 => fa q (by simp; omega)), hmo, fun w hw ho a b s' hi u v hu hv => ?_, fun i hi => ?_, ?_, ?_, ?_, ?_, ?_⟩
    · rw [fa 30 (by decide), t9]
      have ha := hi.2.2.2.2.1
      have hb := hi.2.2.2.2.2.2.1
      unfold pO
      by_cases hwk : w = k
      · subst hwk; rw [if_pos (by omega), if_pos rfl]
      · rw [if_neg (by omega), if_neg hwk, f8 30 (by decide)]
        have hi' : WI1 W w a b s' := WI1_ext (fun f _ => wO_ne hwk f) hi
        have ho' : ¬ W w 0 = 0 := by rw [wO_ne hwk] at ho; exact ho
        exact rp0 w hw ho' a b s' hi' u v hu hv
    · rw [fa 20 (by decide), f89 20 (by decide)]; exact rS0 i hi
    · exact (rd0.keep (by rw [e19]) (fun q h1 h2 => f89 q (by simp; omega))).keep (fs 16 (by decide)) (fun q h1 h2 => fa q (by simp; omega))
    · exact (re0.keep (fun q h1 h2 => f89 q (by simp; omega)) (fun f _ => by rw [e19])).keep (fun q h1 h2 => fa q (by simp; omega)) (fun f hf => fs f (by simp; omega))
    · rw [fs 15 (by decide), e19]; exact rf0
    · rw [fs 36 (by decide), e19]; exact rn0
    · rw [fs 21 (by decide), e19]; exact rs0
  have ma : modF (m2 σ 19 0 0) (m2 (m2 u9 19 11 (u9 19 11 - 1)) 29 k (u9 19 11 - 1)) := modF_tr (modF_fr f89 (by decide)) (modF_fr (l := [19, 29]) (fr_m2 (fr_m2 fr_rf (by simp)) (by simp)) (by decide))
  have za : m2 (m2 u9 19 11 (u9 19 11 - 1)) 29 k (u9 19 11 - 1) 19 0 = 0 := by
    rw [m2_at, if_neg (by omega), m2_at, if_neg (by omega), e19, m2_at, if_pos ⟨rfl, rfl⟩]
  unfold opE
  rw [gbm_e, if_pos hg, hcl, gbm_e, show m2 u9 19 11 (u9 19 11 - 1) 19 11 = u9 19 11 - 1 by rw [m2_at, if_pos ⟨rfl, rfl⟩]]
  generalize m2 (m2 u9 19 11 (u9 19 11 - 1)) 29 k (u9 19 11 - 1) = v9 at hr ma za ⊢
  obtain ⟨u10, e10, r10, m10, z10⟩ := e_M_damageFrame hr hD hk8 (wO_WI1 h1 hm hn hs)
  rw [e10, gbv_some, gbm_e]
  obtain ⟨r11, m11, z11⟩ := RM_foc r10 (nI k)
  refine ⟨_, rfl, ?_, modF_tr mf (modF_tr ma (modF_tr m10 m11)), by rw [z11, z10, za]⟩
  have hd : dfr D (wO W k x y (nI m) (nI n) (nI s)) k = dadd D (x + 0) (y + 0) (x + nI m) (y + nI n) := by unfold dfr wO; simp
  rw [← hd]; exact r11
end MG
