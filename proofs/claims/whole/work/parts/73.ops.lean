/-! Pure part: the class's figure, visible, flush. -/
section PV
variable {σ : Mem} {W : Wnd} {O : List Nat} {P : Nat → Nat → Nat → Int32} {S : Nat → Int32} {D E : List Evt} {X : Int32} {T : Evt} {F N : Int32}
def figV (W : Wnd) (O : List Nat) (D E : List Evt) (X F N : Int32) (x : Int) : Option Int32 := if x = 0 then some F else if x = 1 then some (nI O.length) else if x = 2 then some (hdI O) else if x = 3 then some (fcnt (frW W) 400 0 0) else if x = 4 then some (flng (frW W) 400 0 0 0) else if x = 5 then some (nI D.length) else if x = 6 then some (nI E.length) else if x = 7 then some X else if x = 8 then some N else none
theorem C_figure (hR : RC σ W O P S D E X T F N) (x : Int32) : f_S_figure x σ = some (match figV W O D E X F N x.toInt with | some v => .inl v | none => .inr IAE, σ) := by
  have hs := hR.2.2.1
  have e3 : f_T_freeCells σ = some (fcnt (frW W) 400 0 0, σ) := by
    rw [e_T_freeCells, fcnt_ext _ (frW W) 400 0 0 (fun c _ hc => by rw [hs c (by omega)]; cases frW W c <;> decide)]
  have e4 : f_T_longestFree σ = some (flng (frW W) 400 0 0 0, σ) := by
    rw [e_T_longestFree, flng_ext _ (frW W) 400 0 0 0 (fun c _ hc => by rw [hs c (by omega)]; cases frW W c <;> decide)]
  unfold f_S_figure f_S_figure_0 figV
  rw [e_O_first hR.2.1, e3, e4, hR.2.1.1, hR.2.2.2.2.2.1.1, hR.2.2.2.2.2.2.1.1, hR.2.2.2.2.2.2.1.2.2.2.1, hR.2.2.2.2.2.2.2.1, hR.2.2.2.2.2.2.2.2]
  generalize fcnt (frW W) 400 0 0 = v3
  generalize flng (frW W) 400 0 0 0 = v4
  simp only [gsw, gb_some]
  generalize x.toInt = z
  by_cases a0 : z = 0
  · subst a0; rfl
  by_cases a1 : z = 1
  · subst a1; rfl
  by_cases a2 : z = 2
  · subst a2; rfl
  by_cases a3 : z = 3
  · subst a3; rfl
  by_cases a4 : z = 4
  · subst a4; rfl
  by_cases a5 : z = 5
  · subst a5; rfl
  by_cases a6 : z = 6
  · subst a6; rfl
  by_cases a7 : z = 7
  · subst a7; rfl
  by_cases a8 : z = 8
  · subst a8; rfl
  rw [if_neg a0, if_neg (by omega), if_neg (by omega), if_neg (by omega), if_neg (by omega), if_neg (by omega), if_neg (by omega), if_neg (by omega), if_neg (by omega), if_neg a0, if_neg a1, if_neg a2, if_neg a3, if_neg a4, if_neg a5, if_neg a6, if_neg a7, if_neg a8]; rfl
theorem fcnt_add (g : Nat → Bool) : ∀ (a b k : Nat) (acc : Int32), fcnt g (a + b) k acc = fcnt g b (k + a) (fcnt g a k acc) := by
  intro a
  induction a with
  | zero => intro b k acc; rw [Nat.zero_add, Nat.add_zero]; rfl
  | succ a ih =>
    intro b k acc
    rw [show a + 1 + b = (a + b) + 1 by omega]
    simp only [fcnt]
    rw [ih b (k + 1), show k + 1 + a = k + (a + 1) by omega]
/-- the window at the place with number k, row by row -/
def ownK (W : Wnd) (O : List Nat) (k : Nat) : Int32 := owI (O.find? (cov W (nI (k % 24)) (nI (k / 24))))
theorem S_vis_in (hw : Cwin σ W) (ho : Cord σ O) (hO : OI W O) (x : Int32) (K : Mem → Int32 → Int32 → Int32 → Option ((Int32 ⊕ String) × Mem)) (y : Nat) (hy : y < 16) : ∀ (d k n : Nat) (acc : Int32), k + d = 24 → d < n →
    f_S_visible_19 K n σ x acc (nI y) (nI k) = K σ x (fcnt (fun j => decide (ownK W O j = x)) d (24 * y + k) acc) (nI y + 1) := by
  intro d
  induction d with
  | zero =>
    intro k n acc h1 h2
    obtain ⟨n, rfl⟩ : ∃ j, n = j + 1 := ⟨n - 1, by omega⟩
    show f_S_visible_19B K (f_S_visible_19 K n) σ x acc (nI y) (nI k) = _
    unfold f_S_visible_19B
    rw [if_pos (by simp (disch := (first | omega | (simp (disch := omega) only [nI_toInt, zk_0, zk_1, zk_2, zk_3, zk_4, zk_5, zk_6, zk_7, zk_8, zk_11, zk_12, zk_15, zk_16, zk_23, zk_24, zk_31, zk_32, zk_50, zk_255, zk_384, zk_400, zk_1023, zk_3072, zk_m1, zk_m50]; omega))) only [z_le, z_lt, z_eq, z_gin, z_cl, nI_toInt, z_add, z_sub, zk_0, zk_1, zk_2, zk_3, zk_4, zk_5, zk_6, zk_7, zk_8, zk_11, zk_12, zk_15, zk_16, zk_23, zk_24, zk_31, zk_32, zk_50, zk_255, zk_384, zk_400, zk_1023, zk_3072, zk_m1, zk_m50]; omega)]; rfl
  | succ d ih =>
    intro k n acc h1 h2
    obtain ⟨n, rfl⟩ : ∃ j, n = j + 1 := ⟨n - 1, by omega⟩
    show f_S_visible_19B K (f_S_visible_19 K n) σ x acc (nI y) (nI k) = _
    unfold f_S_visible_19B f_S_visible_40
    rw [if_neg (by simp (disch := (first | omega | (simp (disch := omega) only [nI_toInt, zk_0, zk_1, zk_2, zk_3, zk_4, zk_5, zk_6, zk_7, zk_8, zk_11, zk_12, zk_15, zk_16, zk_23, zk_24, zk_31, zk_32, zk_50, zk_255, zk_384, zk_400, zk_1023, zk_3072, zk_m1, zk_m50]; omega))) only [z_le, z_lt, z_eq, z_gin, z_cl, nI_toInt, z_add, z_sub, zk_0, zk_1, zk_2, zk_3, zk_4, zk_5, zk_6, zk_7, zk_8, zk_11, zk_12, zk_15, zk_16, zk_23, zk_24, zk_31, zk_32, zk_50, zk_255, zk_384, zk_400, zk_1023, zk_3072, zk_m1, zk_m50]; omega), e_ownerOf hw ho hO.lt, gb_some, nI_1]
    have e1 : ownK W O (24 * y + k) = owI (O.find? (cov W (nI k) (nI y))) := by
      unfold ownK; rw [show (24 * y + k) % 24 = k by omega, show (24 * y + k) / 24 = y by omega]
    simp only [fcnt]
    rw [← e1]
    by_cases h5 : ownK W O (24 * y + k) = x
    · rw [if_pos h5, ih (k + 1) n _ (by omega) (by omega), if_pos (decide_eq_true h5)]; rfl
    · rw [if_neg h5, ih (k + 1) n _ (by omega) (by omega), if_neg (by simpa using h5)]; rfl
theorem S_vis_out (hw : Cwin σ W) (ho : Cord σ O) (hO : OI W O) (x : Int32) : ∀ (d y n : Nat) (acc : Int32), y + d = 16 → d < n →
    f_S_visible_10 n σ x acc (nI y) = some (.inl (fcnt (fun j => decide (ownK W O j = x)) (24 * d) (24 * y) acc), σ) := by
  intro d
  induction d with
  | zero =>
    intro y n acc h1 h2
    obtain ⟨n, rfl⟩ : ∃ j, n = j + 1 := ⟨n - 1, by omega⟩
    show f_S_visible_10B (f_S_visible_10 n) σ x acc (nI y) = _
    unfold f_S_visible_10B
    rw [if_pos (by simp (disch := (first | omega | (simp (disch := omega) only [nI_toInt, zk_0, zk_1, zk_2, zk_3, zk_4, zk_5, zk_6, zk_7, zk_8, zk_11, zk_12, zk_15, zk_16, zk_23, zk_24, zk_31, zk_32, zk_50, zk_255, zk_384, zk_400, zk_1023, zk_3072, zk_m1, zk_m50]; omega))) only [z_le, z_lt, z_eq, z_gin, z_cl, nI_toInt, z_add, z_sub, zk_0, zk_1, zk_2, zk_3, zk_4, zk_5, zk_6, zk_7, zk_8, zk_11, zk_12, zk_15, zk_16, zk_23, zk_24, zk_31, zk_32, zk_50, zk_255, zk_384, zk_400, zk_1023, zk_3072, zk_m1, zk_m50]; omega)]; rfl
  | succ d ih =>
    intro y n acc h1 h2
    obtain ⟨n, rfl⟩ : ∃ j, n = j + 1 := ⟨n - 1, by omega⟩
    show f_S_visible_10B (f_S_visible_10 n) σ x acc (nI y) = _
    unfold f_S_visible_10B
    rw [if_neg (by simp (disch := (first | omega | (simp (disch := omega) only [nI_toInt, zk_0, zk_1, zk_2, zk_3, zk_4, zk_5, zk_6, zk_7, zk_8, zk_11, zk_12, zk_15, zk_16, zk_23, zk_24, zk_31, zk_32, zk_50, zk_255, zk_384, zk_400, zk_1023, zk_3072, zk_m1, zk_m50]; omega))) only [z_le, z_lt, z_eq, z_gin, z_cl, nI_toInt, z_add, z_sub, zk_0, zk_1, zk_2, zk_3, zk_4, zk_5, zk_6, zk_7, zk_8, zk_11, zk_12, zk_15, zk_16, zk_23, zk_24, zk_31, zk_32, zk_50, zk_255, zk_384, zk_400, zk_1023, zk_3072, zk_m1, zk_m50]; omega)]
    have := S_vis_in hw ho hO x (f_S_visible_10 n) y (by omega) 24 0 gN acc rfl (by decide)
    rw [show (0 : Int32) = nI 0 from rfl, this, nI_1, ih (y + 1) n _ (by omega) (by omega), show 24 * (d + 1) = 24 + 24 * d by omega, fcnt_add, show 24 * y + 24 = 24 * (y + 1) by omega]; rfl
theorem C_visible_no (hR : RC σ W O P S D E X T F N) {w : Int32} (hw : opB W w = false) : f_S_visible w σ = some (.inr NSE, σ) := by
  unfold f_S_visible f_S_visible_0; rw [e_openPane_no hR.1 hw, gbx_r]
theorem C_visible_ok (hR : RC σ W O P S D E X T F N) (hO : OI W O) {w : Nat} (hw : w < 8) (ho : ¬ W w 0 = 0) : f_S_visible (nI w) σ = some (.inl (fcnt (fun j => decide (ownK W O j = nI w)) 384 0 0), σ) := by
  unfold f_S_visible f_S_visible_0
  rw [e_openPane_ok hR.1 hw ho, gbx_l, if_pos (gpn_w hw)]
  exact S_vis_out hR.1 hR.2.1 hO (nI w) 16 0 gN 0 rfl (by decide)
/-- the colour that the windows show at a place -/
def cbl (W : Wnd) (O : List Nat) (P : Nat → Nat → Nat → Int32) (x y : Int32) : Int32 := match O.find? (cov W x y) with
  | none => 0
  | some w => P w (x - W w 1).toNatClampNeg (y - W w 2).toNatClampNeg
theorem e_colourBelow (hR : RC σ W O P S D E X T F N) (hI : WI W) (hO : OI W O) (x y : Int32) : f_S_colourBelow x y σ = some (cbl W O P x y, σ) := by
  unfold f_S_colourBelow f_S_colourBelow_0 cbl
  rw [e_ownerOf hR.1 hR.2.1 hO.lt, gb_some]
  cases hf : O.find? (cov W x y) with
  | none => rw [if_pos (show owI none = -1 from rfl)]
  | some w =>
    obtain ⟨hw, ho⟩ := (hO.2 w).1 (List.mem_of_find?_eq_some hf)
    obtain ⟨a, b, s, hi⟩ := (hI w hw).2 ho
    have hc := List.find?_some hf
    obtain ⟨m, n, hm, hn, hma, hnb⟩ := has_nat hi (show hasW W w (x - W w 1) (y - W w 2) = true from hc)
    have hcl := cell_lt (s := s) hma hnb
    have h8 := hi.2.2.2.2.2.2.2.1
    have hma2 := hi.2.2.2.2.1
    have hnb2 := hi.2.2.2.2.2.2.1
    rw [show owI (some w) = nI w from rfl, if_neg (by simp (disch := (first | omega | (simp (disch := omega) only [nI_toInt, zk_0, zk_1, zk_2, zk_3, zk_4, zk_5, zk_6, zk_7, zk_8, zk_11, zk_12, zk_15, zk_16, zk_23, zk_24, zk_31, zk_32, zk_50, zk_255, zk_384, zk_400, zk_1023, zk_3072, zk_m1, zk_m50]; omega))) only [z_le, z_lt, z_eq, z_gin, z_cl, nI_toInt, z_add, z_sub, zk_0, zk_1, zk_2, zk_3, zk_4, zk_5, zk_6, zk_7, zk_8, zk_11, zk_12, zk_15, zk_16, zk_23, zk_24, zk_31, zk_32, zk_50, zk_255, zk_384, zk_400, zk_1023, zk_3072, zk_m1, zk_m50]; omega), if_pos (gin_nI hw (by omega)), nI_clamp (by omega), gbn_e, hR.1 w hw 1 (by omega), hR.1 w hw 2 (by omega), hm, hn, cell_nI hi hR.1 hw, gb_some, if_pos (gin_nI (by omega) (by omega)), nI_clamp (by omega), hR.2.2.2.1 w hw ho a b s hi m n hma hnb]
    show some (P w m n, σ) = some (P w (x - W w 1).toNatClampNeg (y - W w 2).toNatClampNeg, σ)
    rw [hm, hn, nI_clamp (by omega), nI_clamp (by omega)]
/-- the place with number k is damaged; its colour; the screen painted up to k -/
def dmK (D : List Evt) (k : Nat) : Bool := D.any (din (nI (k % 24)) (nI (k / 24)))
def clK (W : Wnd) (O : List Nat) (P : Nat → Nat → Nat → Int32) (k : Nat) : Int32 := cbl W O P (nI (k % 24)) (nI (k / 24))
def flS (W : Wnd) (O : List Nat) (P : Nat → Nat → Nat → Int32) (S : Nat → Int32) (D : List Evt) (k : Nat) : Nat → Int32 := fun i => if i < k ∧ dmK D i = true then clK W O P i else S i
theorem S_fl_in (hI : WI W) (hO : OI W O) (K : Mem → Int32 → Int32 → Option (Int32 × Mem)) (y : Nat) (hy : y < 16) : ∀ (d k n : Nat) (acc : Int32) (μ : Mem), k + d = 24 → d < n → RC μ W O P (flS W O P S D (24 * y + k)) D E X T F N →
    ∃ u, f_S_flush_12 K n μ acc (nI y) (nI k) = K u (fcnt (dmK D) d (24 * y + k) acc) (nI y + 1) ∧ RC u W O P (flS W O P S D (24 * (y + 1))) D E X T F N ∧ clsF μ u := by
  intro d
  induction d with
  | zero =>
    intro k n acc μ h1 h2 hR
    obtain ⟨n, rfl⟩ : ∃ j, n = j + 1 := ⟨n - 1, by omega⟩
    show ∃ u, f_S_flush_12B K (f_S_flush_12 K n) μ acc (nI y) (nI k) = _ ∧ _
    unfold f_S_flush_12B
    rw [if_pos (by simp (disch := (first | omega | (simp (disch := omega) only [nI_toInt, zk_0, zk_1, zk_2, zk_3, zk_4, zk_5, zk_6, zk_7, zk_8, zk_11, zk_12, zk_15, zk_16, zk_23, zk_24, zk_31, zk_32, zk_50, zk_255, zk_384, zk_400, zk_1023, zk_3072, zk_m1, zk_m50]; omega))) only [z_le, z_lt, z_eq, z_gin, z_cl, nI_toInt, z_add, z_sub, zk_0, zk_1, zk_2, zk_3, zk_4, zk_5, zk_6, zk_7, zk_8, zk_11, zk_12, zk_15, zk_16, zk_23, zk_24, zk_31, zk_32, zk_50, zk_255, zk_384, zk_400, zk_1023, zk_3072, zk_m1, zk_m50]; omega)]
    rw [show 24 * y + k = 24 * (y + 1) by omega] at hR
    exact ⟨μ, rfl, hR, clsF_rf⟩
  | succ d ih =>
    intro k n acc μ h1 h2 hR
    obtain ⟨n, rfl⟩ : ∃ j, n = j + 1 := ⟨n - 1, by omega⟩
    show ∃ u, f_S_flush_12B K (f_S_flush_12 K n) μ acc (nI y) (nI k) = _ ∧ _
    unfold f_S_flush_12B f_S_flush_50
    rw [if_neg (by simp (disch := (first | omega | (simp (disch := omega) only [nI_toInt, zk_0, zk_1, zk_2, zk_3, zk_4, zk_5, zk_6, zk_7, zk_8, zk_11, zk_12, zk_15, zk_16, zk_23, zk_24, zk_31, zk_32, zk_50, zk_255, zk_384, zk_400, zk_1023, zk_3072, zk_m1, zk_m50]; omega))) only [z_le, z_lt, z_eq, z_gin, z_cl, nI_toInt, z_add, z_sub, zk_0, zk_1, zk_2, zk_3, zk_4, zk_5, zk_6, zk_7, zk_8, zk_11, zk_12, zk_15, zk_16, zk_23, zk_24, zk_31, zk_32, zk_50, zk_255, zk_384, zk_400, zk_1023, zk_3072, zk_m1, zk_m50]; omega), e_D_holds (nI k) (nI y) hR.2.2.2.2.2.1, gb_some, nI_1]
    have e1 : dmK D (24 * y + k) = D.any (din (nI k) (nI y)) := by
      unfold dmK; rw [show (24 * y + k) % 24 = k by omega, show (24 * y + k) / 24 = y by omega]
    have e2 : clK W O P (24 * y + k) = cbl W O P (nI k) (nI y) := by
      unfold clK; rw [show (24 * y + k) % 24 = k by omega, show (24 * y + k) / 24 = y by omega]
    simp only [fcnt]
    by_cases h5 : dmK D (24 * y + k) = true
    · rw [← e1, h5, if_neg (by decide), e_colourBelow hR hI hO, gb_some, show (24 : Int32) = nI 24 from rfl, pk_mul, nI_add, if_pos (gin_nI (by omega) (by omega)), nI_clamp (by omega), gbm_e]
      have fz : fr [1] μ (m2 μ 1 (y * 24 + k) (cbl W O P (nI k) (nI y))) := fr_m2 fr_rf (by simp)
      obtain ⟨rw, ro, rs, rp, rS, rd, re, rf, rn⟩ := hR
      obtain ⟨u, e3, r3, c3⟩ := ih (k + 1) n (acc + 1) (m2 μ 1 (y * 24 + k) (cbl W O P (nI k) (nI y))) (by omega) (by omega) (by
        refine ⟨rw.keep (fz.hi (by decide)), ro.keep (fz 3 (by decide)) (fz 4 (by decide)), rs.keep (fz 8 (by decide)), rp.keep (fz 6 (by decide)), fun i hi => ?_, rd.keep (fun q h1 h2 => fz q (by simp; omega)), re.keep (fun q h1 h2 => fz q (by simp; omega)), ?_, ?_⟩
        · rw [m2_at]
          unfold flS at rS ⊢
          by_cases hi2 : i = y * 24 + k
          · rw [if_pos ⟨rfl, hi2⟩, if_pos ⟨by omega, by rw [hi2, show y * 24 + k = 24 * y + k by omega]; exact h5⟩, hi2, show y * 24 + k = 24 * y + k by omega, e2]
          · rw [if_neg (by omega), rS i hi]
            by_cases hi3 : i < 24 * y + k ∧ dmK D i = true
            · rw [if_pos hi3, if_pos ⟨by omega, hi3.2⟩]
            · rw [if_neg hi3, if_neg (fun hq => hi3 ⟨by omega, hq.2⟩)]
        · rw [fz 0 (by decide)]; exact rf
        · rw [fz 0 (by decide)]; exact rn)
      exact ⟨u, by rw [e3, if_pos rfl]; rfl, r3, clsF_tr (clsF_fr fz (by decide)) c3⟩
    · have h5' : dmK D (24 * y + k) = false := by simpa using h5
      rw [← e1, h5', if_pos (by decide)]
      obtain ⟨u, e3, r3, c3⟩ := ih (k + 1) n acc μ (by omega) (by omega) (by
        have : flS W O P S D (24 * y + (k + 1)) = flS W O P S D (24 * y + k) := by
          funext i; unfold flS
          by_cases hi3 : i < 24 * y + k ∧ dmK D i = true
          · rw [if_pos hi3, if_pos ⟨by omega, hi3.2⟩]
          · rw [if_neg hi3, if_neg (fun hq => by
              by_cases hi4 : i = 24 * y + k
              · rw [hi4] at hq; exact h5 hq.2
              · exact hi3 ⟨by omega, hq.2⟩)]
        rw [this]; exact hR)
      exact ⟨u, by rw [e3, if_neg (by decide)]; rfl, r3, c3⟩
theorem S_fl_out (hI : WI W) (hO : OI W O) : ∀ (d y n : Nat) (acc : Int32) (μ : Mem), y + d = 16 → d < n → RC μ W O P (flS W O P S D (24 * y)) D E X T F N →
    ∃ u, f_S_flush_4 n μ acc (nI y) = some (fcnt (dmK D) (24 * d) (24 * y) acc, u) ∧ RC u W O P (flS W O P S D 384) [] E X T F (N + fcnt (dmK D) (24 * d) (24 * y) acc) ∧ clsF μ u := by
  intro d
  induction d with
  | zero =>
    intro y n acc μ h1 h2 hR
    obtain ⟨n, rfl⟩ : ∃ j, n = j + 1 := ⟨n - 1, by omega⟩
    show ∃ u, f_S_flush_4B (f_S_flush_4 n) μ acc (nI y) = _ ∧ _
    unfold f_S_flush_4B
    rw [if_pos (by simp (disch := (first | omega | (simp (disch := omega) only [nI_toInt, zk_0, zk_1, zk_2, zk_3, zk_4, zk_5, zk_6, zk_7, zk_8, zk_11, zk_12, zk_15, zk_16, zk_23, zk_24, zk_31, zk_32, zk_50, zk_255, zk_384, zk_400, zk_1023, zk_3072, zk_m1, zk_m50]; omega))) only [z_le, z_lt, z_eq, z_gin, z_cl, nI_toInt, z_add, z_sub, zk_0, zk_1, zk_2, zk_3, zk_4, zk_5, zk_6, zk_7, zk_8, zk_11, zk_12, zk_15, zk_16, zk_23, zk_24, zk_31, zk_32, zk_50, zk_255, zk_384, zk_400, zk_1023, zk_3072, zk_m1, zk_m50]; omega), e_D_forget, gbv_some, gbm_e]
    rw [show 24 * y = 384 by omega] at hR ⊢
    have f1 : fr [9] μ (m2 μ 9 4 0) := fr_m2 fr_rf (by simp)
    obtain ⟨r1, c1⟩ := RC_dmg hR (u := m2 μ 9 4 0) (D' := []) ⟨by rw [m2_at, if_pos ⟨rfl, rfl⟩]; rfl, by simp, fun i hi => by simp at hi⟩ (fr_up f1 (by decide))
    have hN : m2 μ 9 4 0 0 7 = N := r1.2.2.2.2.2.2.2.2
    rw [hN]
    obtain ⟨rw, ro, rs, rp, rS, rd, re, rf, rn⟩ := r1
    have fz : fr [0] (m2 μ 9 4 0) (m2 (m2 μ 9 4 0) 0 7 (N + acc)) := fr_m2 fr_rf (by simp)
    refine ⟨_, rfl, ⟨rw.keep (fz.hi (by decide)), ro.keep (fz 3 (by decide)) (fz 4 (by decide)), rs.keep (fz 8 (by decide)), rp.keep (fz 6 (by decide)), fun i hi => ?_, rd.keep (fun q h1 h2 => fz q (by simp; omega)), re.keep (fun q h1 h2 => fz q (by simp; omega)), ?_, ?_⟩, clsF_tr c1 (clsF_fr fz (by decide))⟩
    · rw [fz 1 (by decide)]; exact rS i hi
    · rw [m2_at, if_neg (by omega)]; exact rf
    · rw [m2_at, if_pos ⟨rfl, rfl⟩]; rfl
  | succ d ih =>
    intro y n acc μ h1 h2 hR
    obtain ⟨n, rfl⟩ : ∃ j, n = j + 1 := ⟨n - 1, by omega⟩
    show ∃ u, f_S_flush_4B (f_S_flush_4 n) μ acc (nI y) = _ ∧ _
    unfold f_S_flush_4B
    rw [if_neg (by simp (disch := (first | omega | (simp (disch := omega) only [nI_toInt, zk_0, zk_1, zk_2, zk_3, zk_4, zk_5, zk_6, zk_7, zk_8, zk_11, zk_12, zk_15, zk_16, zk_23, zk_24, zk_31, zk_32, zk_50, zk_255, zk_384, zk_400, zk_1023, zk_3072, zk_m1, zk_m50]; omega))) only [z_le, z_lt, z_eq, z_gin, z_cl, nI_toInt, z_add, z_sub, zk_0, zk_1, zk_2, zk_3, zk_4, zk_5, zk_6, zk_7, zk_8, zk_11, zk_12, zk_15, zk_16, zk_23, zk_24, zk_31, zk_32, zk_50, zk_255, zk_384, zk_400, zk_1023, zk_3072, zk_m1, zk_m50]; omega)]
    obtain ⟨u1, e1, r1, c1⟩ := S_fl_in hI hO (f_S_flush_4 n) y (by omega) 24 0 gN acc μ rfl (by decide) hR
    obtain ⟨u2, e2, r2, c2⟩ := ih (y + 1) n (fcnt (dmK D) 24 (24 * y) acc) u1 (by omega) (by omega) r1
    have e5 : fcnt (dmK D) (24 * (d + 1)) (24 * y) acc = fcnt (dmK D) (24 * d) (24 * (y + 1)) (fcnt (dmK D) 24 (24 * y) acc) := by
      rw [show 24 * (d + 1) = 24 + 24 * d by omega, fcnt_add, show 24 * y + 24 = 24 * (y + 1) by omega]
    rw [e5]
    refine ⟨u2, ?_, r2, clsF_tr c1 c2⟩
    rw [show (0 : Int32) = nI 0 from rfl, e1, nI_1]; exact e2
theorem C_flush (hR : RC σ W O P S D E X T F N) (hI : WI W) (hO : OI W O) : ∃ u, f_S_flush σ = some (fcnt (dmK D) 384 0 0, u) ∧ RC u W O P (flS W O P S D 384) [] E X T F (N + fcnt (dmK D) 384 0 0) ∧ clsF σ u :=
  S_fl_out hI hO 16 0 gN 0 σ rfl (by decide) (by
    have : flS W O P S D (24 * 0) = S := by funext i; unfold flS; rw [if_neg (by omega)]
    rw [this]; exact hR)
end PV
