/-! Pure part: the class's move, pen, plot, picture, screen, at, reorder, raise. -/
section PR
variable {σ : Mem} {W : Wnd} {O : List Nat} {P : Nat → Nat → Nat → Int32} {S : Nat → Int32} {D E : List Evt} {X : Int32} {T : Evt} {F N : Int32}
/-- a pane's fields other than used, width, height, start -/
theorem RC_wset (hR : RC σ W O P S D E X T F N) (hI : WI W) {w f : Nat} (v : Int32) (hf : f ≠ 0 ∧ f ≠ 3 ∧ f ≠ 4 ∧ f ≠ 5) : RC (m2 σ (gPB + w) f v) (wset W w f v) O P S D E X T F N ∧ clsF σ (m2 σ (gPB + w) f v) := by
  obtain ⟨rw, ro, rs, rp, rS, rd, re, rf, rn⟩ := hR
  have fz : fr [gPB + w] σ (m2 σ (gPB + w) f v) := fr_m2 fr_rf (by simp)
  have he : ∀ w', w' < 8 → wset W w f v w' 0 = W w' 0 ∧ wset W w f v w' 3 = W w' 3 ∧ wset W w f v w' 4 = W w' 4 ∧ wset W w f v w' 5 = W w' 5 := fun w' _ => by
    unfold wset; rw [if_neg (by omega), if_neg (by omega), if_neg (by omega), if_neg (by omega)]; exact ⟨rfl, rfl, rfl, rfl⟩
  refine ⟨⟨Cwin_set rw w f v, ro.keep (fz.pn 3 (by omega)) (fz.pn 4 (by omega)), Cst_same (rs.keep (fz.pn 8 (by omega))) he, Cpic_same (rp.keep (fz.pn 6 (by omega))) hI he, fun i hi => ?_, rd.keep (fun q h1 h2 => fz.pn q (by omega)), re.keep (fun q h1 h2 => fz.pn q (by omega)), ?_, ?_⟩, fun q h1 h2 => fz.pn q (by omega)⟩
  · rw [fz.pn 1 (by omega)]; exact rS i hi
  · rw [fz.pn 0 (by omega)]; exact rf
  · rw [fz.pn 0 (by omega)]; exact rn
def w2 (W : Wnd) (w f : Nat) (a : Int32) (g : Nat) (b : Int32) : Wnd := wset (wset W w f a) w g b
theorem WI_set {w f : Nat} {v : Int32} (h : WI W) (hf : f = 1 ∨ f = 2 ∨ f = 6 ∨ f = 7) (hv : -50 ≤ v.toInt ∧ v.toInt ≤ 50) : WI (wset W w f v) := by
  intro w' hw'
  by_cases hww : w' = w
  · subst hww
    have h0 : wset W w' f v w' 0 = W w' 0 := by unfold wset; rw [if_neg (by omega)]
    rw [h0]
    refine ⟨(h w' hw').1, fun ho => ?_⟩
    obtain ⟨a, b, s, hi⟩ := (h w' hw').2 ho
    refine ⟨a, b, s, ?_⟩
    obtain ⟨h1, h2, h3, h4, h5, h6, h7, h8, h9, h10, h11, h12, h13, h14, h15, h16⟩ := hi
    unfold WI1 wset
    rcases hf with rfl | rfl | rfl | rfl <;> simp [h1, h2, h3] <;> omega
  · have hq : ∀ g, wset W w f v w' g = W w' g := fun g => by unfold wset; rw [if_neg (by omega)]
    rw [hq 0]
    refine ⟨(h w' hw').1, fun ho => ?_⟩
    obtain ⟨a, b, s, hi⟩ := (h w' hw').2 ho
    exact ⟨a, b, s, WI1_ext (fun f _ => (hq f).symm) hi⟩
theorem C_move_no (hR : RC σ W O P S D E X T F N) {w x y : Int32} (hw : opB W w = false) : f_S_move w x y σ = some (.inr NSE, σ) := by
  unfold f_S_move f_S_move_0; rw [e_openPane_no hR.1 hw, gbx_r]
theorem C_move_far (hR : RC σ W O P S D E X T F N) {w : Nat} {x y : Int32} (hw : w < 8) (ho : ¬ W w 0 = 0) (hn : nearB x y = false) : f_S_move (nI w) x y σ = some (.inr IAE, σ) := by
  unfold f_S_move f_S_move_0; rw [e_openPane_ok hR.1 hw ho, gbx_l, if_pos (gpn_w hw), e_requireNear, hn]; rfl
theorem C_move_ok (hR : RC σ W O P S D E X T F N) (hI : WI W) {w : Nat} {x y : Int32} (hw : w < 8) (ho : ¬ W w 0 = 0) (hn : nearB x y = true) : ∃ u, f_S_move (nI w) x y σ = some (.inl (), u) ∧
    RC u (w2 W w 1 x 2 y) O P S (dfr (dfr D W w) (w2 W w 1 x 2 y) w) E X T F N ∧ clsF σ u := by
  have hb := near_b hn
  unfold f_S_move f_S_move_0
  rw [e_openPane_ok hR.1 hw ho, gbx_l, if_pos (gpn_w hw), e_requireNear, if_pos hn, gbx_l]
  obtain ⟨u1, e1, d1, f1⟩ := e_dFrame hR.2.2.2.2.2.1 hR.1 hw
  obtain ⟨r1, c1⟩ := RC_dmg hR d1 f1
  rw [e1, gbv_some, e_P_place, gbv_some]
  obtain ⟨r2, c2⟩ := RC_wset r1 hI (w := w) (f := 1) x (by omega)
  obtain ⟨r3, c3⟩ := RC_wset r2 (WI_set hI (Or.inl rfl) ⟨hb.1, hb.2.1⟩) (w := w) (f := 2) y (by omega)
  obtain ⟨u4, e4, d4, f4⟩ := e_dFrame r3.2.2.2.2.2.1 r3.1 hw
  obtain ⟨r4, c4⟩ := RC_dmg r3 d4 f4
  rw [e4, gbv_some]
  exact ⟨u4, rfl, r4, clsF_tr c1 (clsF_tr c2 (clsF_tr c3 c4))⟩
theorem C_pen_no (hR : RC σ W O P S D E X T F N) {w x y : Int32} (hw : opB W w = false) : f_S_pen w x y σ = some (.inr NSE, σ) := by
  unfold f_S_pen f_S_pen_0; rw [e_openPane_no hR.1 hw, gbx_r]
theorem C_pen_far (hR : RC σ W O P S D E X T F N) {w : Nat} {x y : Int32} (hw : w < 8) (ho : ¬ W w 0 = 0) (hn : nearB x y = false) : f_S_pen (nI w) x y σ = some (.inr IAE, σ) := by
  unfold f_S_pen f_S_pen_0; rw [e_openPane_ok hR.1 hw ho, gbx_l, if_pos (gpn_w hw), e_requireNear, hn]; rfl
theorem C_pen_ok (hR : RC σ W O P S D E X T F N) (hI : WI W) {w : Nat} {x y : Int32} (hw : w < 8) (ho : ¬ W w 0 = 0) (hn : nearB x y = true) : ∃ u, f_S_pen (nI w) x y σ = some (.inl (), u) ∧
    RC u (w2 W w 6 x 7 y) O P S D E X T F N ∧ clsF σ u := by
  have hb := near_b hn
  unfold f_S_pen f_S_pen_0
  rw [e_openPane_ok hR.1 hw ho, gbx_l, if_pos (gpn_w hw), e_requireNear, if_pos hn, gbx_l, e_P_putPen, gbv_some]
  obtain ⟨r2, c2⟩ := RC_wset hR hI (w := w) (f := 6) x (by omega)
  obtain ⟨r3, c3⟩ := RC_wset r2 (WI_set hI (Or.inr (Or.inr (Or.inl rfl))) ⟨hb.1, hb.2.1⟩) (w := w) (f := 7) y (by omega)
  exact ⟨_, rfl, r3, clsF_tr c2 c3⟩
/-- a cell inside a picture, in natural numbers -/
theorem has_nat {w a b s : Nat} (hi : WI1 W w a b s) {u v : Int32} (h : hasW W w u v = true) : ∃ m n : Nat, u = nI m ∧ v = nI n ∧ m < a ∧ n < b := by
  obtain ⟨h1, h2, -, h4, h5, h6, h7, -⟩ := hi
  unfold hasW at h
  rw [h1, h2] at h
  simp only [Bool.and_eq_true, decide_eq_true_eq, z_le, z_lt, zk_0] at h
  rw [nI_toInt (by omega), nI_toInt (by omega)] at h
  exact ⟨u.toInt.toNat, v.toInt.toNat, z_nI u (by omega), z_nI v (by omega), by omega, by omega⟩
theorem cell_nI {w a b s : Nat} (hi : WI1 W w a b s) (hw : Cwin σ W) (h8 : w < 8) (m n : Nat) : f_P_cell (gPB + w) (nI m) (nI n) σ = some (nI (s + n * a + m), σ) := by
  rw [e_P_cell, hw w h8 5 (by omega), hw w h8 3 (by omega), hi.1, hi.2.2.1, pk_mul, nI_add, nI_add]
/-- a pixel written -/
theorem RC_pix (hR : RC σ W O P S D E X T F N) (hD : WD W) {w a b s u v : Nat} (hw : w < 8) (ho : ¬ W w 0 = 0) (hi : WI1 W w a b s) (hu : u < a) (hv : v < b) (c : Int32) : RC (m2 σ 6 (s + v * a + u) c) W O (pset P w u v c) S D E X T F N ∧ clsF σ (m2 σ 6 (s + v * a + u) c) := by
  obtain ⟨rw, ro, rs, rp, rS, rd, re, rf, rn⟩ := hR
  have fz : fr [6] σ (m2 σ 6 (s + v * a + u) c) := fr_m2 fr_rf (by simp)
  refine ⟨⟨rw.keep (fz.hi (by decide)), ro.keep (fz 3 (by decide)) (fz 4 (by decide)), rs.keep (fz 8 (by decide)), Cpic_set rp hD hw ho hi hu hv c, fun i hi => ?_, rd.keep (fun q h1 h2 => fz q (by simp; omega)), re.keep (fun q h1 h2 => fz q (by simp; omega)), ?_, ?_⟩, clsF_fr fz (by decide)⟩
  · rw [fz 1 (by decide)]; exact rS i hi
  · rw [fz 0 (by decide)]; exact rf
  · rw [fz 0 (by decide)]; exact rn
theorem C_plot_no (hR : RC σ W O P S D E X T F N) {w x y c : Int32} (hw : opB W w = false) : f_S_plot w x y c σ = some (.inr NSE, σ) := by
  unfold f_S_plot f_S_plot_0; rw [e_openPane_no hR.1 hw, gbx_r]
theorem C_plot_col (hR : RC σ W O P S D E X T F N) {w : Nat} {x y c : Int32} (hw : w < 8) (ho : ¬ W w 0 = 0) (hc : colB c = false) : f_S_plot (nI w) x y c σ = some (.inr IAE, σ) := by
  unfold f_S_plot f_S_plot_0; rw [e_openPane_ok hR.1 hw ho, gbx_l, if_pos (gpn_w hw), e_requireColour, hc]; rfl
theorem C_plot_out (hR : RC σ W O P S D E X T F N) {w : Nat} {x y c : Int32} (hw : w < 8) (ho : ¬ W w 0 = 0) (hc : colB c = true) (hh : hasW W w x y = false) : f_S_plot (nI w) x y c σ = some (.inl 0, σ) := by
  unfold f_S_plot f_S_plot_0; rw [e_openPane_ok hR.1 hw ho, gbx_l, if_pos (gpn_w hw), e_requireColour, if_pos hc, gbx_l, e_P_has, gb_some, hasB_W hR.1 hw, hh, if_pos (by decide)]
theorem C_plot_ok (hR : RC σ W O P S D E X T F N) (hI : WI W) (hD : WD W) {w m n : Nat} {c : Int32} (hw : w < 8) (ho : ¬ W w 0 = 0) (hc : colB c = true) (hh : hasW W w (nI m) (nI n) = true) {a b s : Nat} (hi : WI1 W w a b s) (hm : m < a) (hn : n < b) : ∃ u, f_S_plot (nI w) (nI m) (nI n) c σ = some (.inl 1, u) ∧
    RC u W O (pset P w m n c) S (dadd D (W w 1 + nI m) (W w 2 + nI n) (W w 1 + (nI m + 1)) (W w 2 + (nI n + 1))) E X T F N ∧ clsF σ u := by
  have hcl := cell_lt (s := s) hm hn
  have h8 := hi.2.2.2.2.2.2.2.1
  unfold f_S_plot f_S_plot_0
  rw [e_openPane_ok hR.1 hw ho, gbx_l, if_pos (gpn_w hw), e_requireColour, if_pos hc, gbx_l, e_P_has, gb_some, hasB_W hR.1 hw, hh, if_neg (by decide), cell_nI hi hR.1 hw, gb_some, if_pos (gin_nI (by omega) (by omega)), nI_clamp (by omega), gbm_e]
  obtain ⟨r1, c1⟩ := RC_pix hR hD hw ho hi hm hn c
  obtain ⟨u, e2, d2, f2⟩ := e_S_damagePart (gPB + w) (nI m) (nI n) (nI m + 1) (nI n + 1) r1.2.2.2.2.2.1
  rw [r1.1 w hw 1 (by omega), r1.1 w hw 2 (by omega)] at d2
  obtain ⟨r3, c3⟩ := RC_dmg r1 d2 f2
  rw [e2, gbv_some]
  exact ⟨u, rfl, r3, clsF_tr c1 c3⟩
theorem C_picture_no (hR : RC σ W O P S D E X T F N) {w x y : Int32} (hw : opB W w = false) : f_S_picture w x y σ = some (.inr NSE, σ) := by
  unfold f_S_picture f_S_picture_0; rw [e_openPane_no hR.1 hw, gbx_r]
theorem C_picture_out (hR : RC σ W O P S D E X T F N) {w : Nat} {x y : Int32} (hw : w < 8) (ho : ¬ W w 0 = 0) (hh : hasW W w x y = false) : f_S_picture (nI w) x y σ = some (.inr IOB, σ) := by
  unfold f_S_picture f_S_picture_0; rw [e_openPane_ok hR.1 hw ho, gbx_l, if_pos (gpn_w hw), e_P_has, gb_some, hasB_W hR.1 hw, hh, if_pos (by decide)]; rfl
theorem C_picture_ok (hR : RC σ W O P S D E X T F N) {w m n : Nat} (hw : w < 8) (ho : ¬ W w 0 = 0) (hh : hasW W w (nI m) (nI n) = true) {a b s : Nat} (hi : WI1 W w a b s) (hm : m < a) (hn : n < b) : f_S_picture (nI w) (nI m) (nI n) σ = some (.inl (P w m n), σ) := by
  have hcl := cell_lt (s := s) hm hn
  have h8 := hi.2.2.2.2.2.2.2.1
  unfold f_S_picture f_S_picture_0
  rw [e_openPane_ok hR.1 hw ho, gbx_l, if_pos (gpn_w hw), e_P_has, gb_some, hasB_W hR.1 hw, hh, if_neg (by decide), cell_nI hi hR.1 hw, gb_some, if_pos (gin_nI (by omega) (by omega)), nI_clamp (by omega), hR.2.2.2.1 w hw ho a b s hi m n hm hn]
theorem scr_nat {x y : Int32} (h : scrB x y = true) : ∃ m n : Nat, x = nI m ∧ y = nI n ∧ m < 24 ∧ n < 16 := by
  unfold scrB at h
  simp only [Bool.and_eq_true, Bool.not_eq_true', decide_eq_false_iff_not, decide_eq_true_eq, z_le, z_lt, zk_0, zk_24, zk_16] at h
  exact ⟨x.toInt.toNat, y.toInt.toNat, z_nI x (by omega), z_nI y (by omega), by omega, by omega⟩
theorem C_screen_no {x y : Int32} (h : scrB x y = false) : f_S_screen x y σ = some (.inr IOB, σ) := by
  unfold f_S_screen f_S_screen_0; rw [e_requireOnScreen, h]; rfl
theorem C_screen_ok (hR : RC σ W O P S D E X T F N) {m n : Nat} (hm : m < 24) (hn : n < 16) (h : scrB (nI m) (nI n) = true) : f_S_screen (nI m) (nI n) σ = some (.inl (S (n * 24 + m)), σ) := by
  unfold f_S_screen f_S_screen_0
  rw [e_requireOnScreen, if_pos h, gbx_l, show (24 : Int32) = nI 24 from rfl, pk_mul, nI_add, if_pos (gin_nI (by omega) (by omega)), nI_clamp (by omega), hR.2.2.2.2.1 _ (by omega)]
theorem C_at_no {x y : Int32} (h : scrB x y = false) : f_S_at x y σ = some (.inr IOB, σ) := by
  unfold f_S_at f_S_at_0; rw [e_requireOnScreen, h]; rfl
theorem C_at_ok (hR : RC σ W O P S D E X T F N) (hO : OI W O) {x y : Int32} (h : scrB x y = true) : f_S_at x y σ = some (.inl (owI (O.find? (cov W x y))), σ) := by
  unfold f_S_at f_S_at_0
  rw [e_requireOnScreen, if_pos h, gbx_l, e_ownerOf hR.1 hR.2.1 hO.lt, gb_some]
end PR
