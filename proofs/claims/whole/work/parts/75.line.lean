/-! Pure part: the class's line. -/
section PY
variable {σ : Mem} {W : Wnd} {O : List Nat} {P : Nat → Nat → Nat → Int32} {S : Nat → Int32} {D E : List Evt} {X : Int32} {T : Evt} {F N : Int32}
abbrev LSt : Type := (Nat → Nat → Nat → Int32) × Evt × Int32
def stp (k a n : Int32) : Int32 := if n = 0 then 0 else mfdiv (2 * k * a + n) (2 * n)
def lst (W : Wnd) (w : Nat) (c a b n k : Int32) (z : LSt) : LSt := if hasW W w (W w 6 + stp k a n) (W w 7 + stp k b n) = true then (pset z.1 w (W w 6 + stp k a n).toNatClampNeg (W w 7 + stp k b n).toNatClampNeg c, (mmin z.2.1.1 (W w 6 + stp k a n), mmin z.2.1.2.1 (W w 7 + stp k b n), mmax z.2.1.2.2.1 (W w 6 + stp k a n + 1), mmax z.2.1.2.2.2 (W w 7 + stp k b n + 1)), z.2.2 + 1) else z
def lfd (W : Wnd) (w : Nat) (c a b n : Int32) : Nat → Nat → LSt → LSt
  | 0, _, z => z
  | d + 1, k, z => lfd W w c a b n d (k + 1) (lst W w c a b n (nI k) z)
theorem e_stepped (k a : Int32) {m : Nat} (hm : m ≤ 200) (σ : Mem) : f_S_stepped k a (nI m) σ = some (stp k a (nI m), σ) := by
  unfold f_S_stepped f_S_stepped_0 stp
  by_cases h : nI m = 0
  · rw [if_pos h, if_pos h]
  · rw [if_neg h, if_neg h, if_neg]
    rw [show (2 : Int32) = nI 2 from rfl, pk_mul]
    rw [show (0 : Int32) = nI 0 from rfl, nI_eq (by omega) (by omega)] at h ⊢
    omega
def ldm (D : List Evt) (W : Wnd) (w : Nat) (z : LSt) : List Evt := if z.2.2 ≤ 0 then D else dadd D (W w 1 + z.2.1.1) (W w 2 + z.2.1.2.1) (W w 1 + z.2.1.2.2.1) (W w 2 + z.2.1.2.2.2)
theorem S_line_l (hD : WD W) {w a b s : Nat} (hw : w < 8) (ho : ¬ W w 0 = 0) (hi : WI1 W w a b s) (c p q : Int32) {m : Nat} (hm : m ≤ 200) : ∀ (d k n : Nat) (μ : Mem) (z : LSt), k + d = m + 1 → d < n → RC μ W O z.1 S D E X T F N →
    ∃ u, f_S_drawFromPen_55 n μ (gPB + w) c p q (nI m) z.2.1.1 z.2.1.2.1 z.2.1.2.2.1 z.2.1.2.2.2 z.2.2 (nI k) = some ((lfd W w c p q (nI m) d k z).2.2, u) ∧ RC u W O (lfd W w c p q (nI m) d k z).1 S (ldm D W w (lfd W w c p q (nI m) d k z)) E X T F N ∧ clsF μ u := by
  have ha := hi.2.2.2.2.1
  have hbb := hi.2.2.2.2.2.2.1
  have h8 := hi.2.2.2.2.2.2.2.1
  intro d
  induction d with
  | zero =>
    intro k n μ z h1 h2 hR
    obtain ⟨n, rfl⟩ : ∃ j, n = j + 1 := ⟨n - 1, by omega⟩
    show ∃ u, f_S_drawFromPen_55B (f_S_drawFromPen_55 n) μ (gPB + w) c p q (nI m) z.2.1.1 z.2.1.2.1 z.2.1.2.2.1 z.2.1.2.2.2 z.2.2 (nI k) = _ ∧ _
    unfold f_S_drawFromPen_55B f_S_drawFromPen_190 ldm lfd
    rw [if_pos (by simp (disch := (first | omega | (simp (disch := omega) only [nI_toInt, zk_0, zk_1, zk_2, zk_3, zk_4, zk_5, zk_6, zk_7, zk_8, zk_11, zk_12, zk_15, zk_16, zk_23, zk_24, zk_31, zk_32, zk_50, zk_255, zk_384, zk_400, zk_1023, zk_3072, zk_m1, zk_m50]; omega))) only [z_le, z_lt, z_eq, z_gin, z_cl, nI_toInt, z_add, z_sub, zk_0, zk_1, zk_2, zk_3, zk_4, zk_5, zk_6, zk_7, zk_8, zk_11, zk_12, zk_15, zk_16, zk_23, zk_24, zk_31, zk_32, zk_50, zk_255, zk_384, zk_400, zk_1023, zk_3072, zk_m1, zk_m50]; omega)]
    by_cases h5 : z.2.2 ≤ 0
    · rw [if_pos h5, if_pos h5]; exact ⟨μ, rfl, hR, clsF_rf⟩
    · rw [if_neg h5, if_neg h5]
      obtain ⟨u, e2, d2, f2⟩ := e_S_damagePart (gPB + w) z.2.1.1 z.2.1.2.1 z.2.1.2.2.1 z.2.1.2.2.2 hR.2.2.2.2.2.1
      rw [hR.1 w hw 1 (by omega), hR.1 w hw 2 (by omega)] at d2
      obtain ⟨r3, c3⟩ := RC_dmg hR d2 f2
      rw [e2, gbv_some]
      exact ⟨u, rfl, r3, c3⟩
  | succ d ih =>
    intro k n μ z h1 h2 hR
    obtain ⟨n, rfl⟩ : ∃ j, n = j + 1 := ⟨n - 1, by omega⟩
    show ∃ u, f_S_drawFromPen_55B (f_S_drawFromPen_55 n) μ (gPB + w) c p q (nI m) z.2.1.1 z.2.1.2.1 z.2.1.2.2.1 z.2.1.2.2.2 z.2.2 (nI k) = _ ∧ _
    unfold f_S_drawFromPen_55B f_S_drawFromPen_166
    rw [if_neg (by simp (disch := (first | omega | (simp (disch := omega) only [nI_toInt, zk_0, zk_1, zk_2, zk_3, zk_4, zk_5, zk_6, zk_7, zk_8, zk_11, zk_12, zk_15, zk_16, zk_23, zk_24, zk_31, zk_32, zk_50, zk_255, zk_384, zk_400, zk_1023, zk_3072, zk_m1, zk_m50]; omega))) only [z_le, z_lt, z_eq, z_gin, z_cl, nI_toInt, z_add, z_sub, zk_0, zk_1, zk_2, zk_3, zk_4, zk_5, zk_6, zk_7, zk_8, zk_11, zk_12, zk_15, zk_16, zk_23, zk_24, zk_31, zk_32, zk_50, zk_255, zk_384, zk_400, zk_1023, zk_3072, zk_m1, zk_m50]; omega), e_stepped _ _ hm, gb_some, gbi_e, e_stepped _ _ hm, gb_some, gbi_e, hR.1 w hw 6 (by omega), hR.1 w hw 7 (by omega), e_P_has, gb_some, hasB_W hR.1 hw]
    simp only [lfd]
    by_cases hh : hasW W w (W w 6 + stp (nI k) p (nI m)) (W w 7 + stp (nI k) q (nI m)) = true
    · obtain ⟨i, j, ei, ej, hia, hjb⟩ := has_nat hi hh
      have hcl := cell_lt (s := s) hia hjb
      have hl : lst W w c p q (nI m) (nI k) z = (pset z.1 w i j c, (mmin z.2.1.1 (nI i), mmin z.2.1.2.1 (nI j), mmax z.2.1.2.2.1 (nI i + 1), mmax z.2.1.2.2.2 (nI j + 1)), z.2.2 + 1) := by
        unfold lst; rw [if_pos hh, ei, ej, nI_clamp (by omega), nI_clamp (by omega)]
      rw [hh, if_neg (by decide), ei, ej, cell_nI hi hR.1 hw, gb_some, if_pos (gin_nI (by omega) (by omega)), nI_clamp (by omega), gbm_e, gbi_e, gbi_e, gbi_e, gbi_e, nI_1 k, hl]
      obtain ⟨r1, c1⟩ := RC_pix hR hD hw ho hi hia hjb c
      obtain ⟨u, e2, r2, c2⟩ := ih (k + 1) n _ (pset z.1 w i j c, (mmin z.2.1.1 (nI i), mmin z.2.1.2.1 (nI j), mmax z.2.1.2.2.1 (nI i + 1), mmax z.2.1.2.2.2 (nI j + 1)), z.2.2 + 1) (by omega) (by omega) r1
      exact ⟨u, e2, r2, clsF_tr c1 c2⟩
    · have hh' : hasW W w (W w 6 + stp (nI k) p (nI m)) (W w 7 + stp (nI k) q (nI m)) = false := by simpa using hh
      have hl : lst W w c p q (nI m) (nI k) z = z := by unfold lst; rw [if_neg hh]
      rw [hh', if_pos (by decide), nI_1 k, hl]
      exact ih (k + 1) n μ z (by omega) (by omega) hR
/-- how many steps a line has -/
def lnN (W : Wnd) (w : Nat) (u v : Int32) : Int32 := mmax (mabs (u - W w 6)) (mabs (v - W w 7))
theorem lnN_nat {w a b s : Nat} (hi : WI1 W w a b s) {u v : Int32} (hn : nearB u v = true) : ∃ m, m ≤ 200 ∧ lnN W w u v = nI m := by
  have hb := near_b hn
  obtain ⟨-, -, -, -, -, -, -, -, -, -, -, -, g1, g2, g3, g4⟩ := hi
  have e1 : (u - W w 6).toInt = u.toInt - (W w 6).toInt := z_sub (by omega) (by omega)
  have e2 : (v - W w 7).toInt = v.toInt - (W w 7).toInt := z_sub (by omega) (by omega)
  have key : ∀ x : Int32, -100 ≤ x.toInt → x.toInt ≤ 100 → 0 ≤ (mabs x).toInt ∧ (mabs x).toInt ≤ 100 := by
    intro x h1 h2
    unfold mabs
    by_cases h : 0 ≤ x
    · rw [if_pos h]; rw [z_le, zk_0] at h; omega
    · rw [if_neg h]; rw [z_le, zk_0] at h
      have : (0 - x).toInt = 0 - x.toInt := by rw [z_sub (by rw [zk_0]; omega) (by rw [zk_0]; omega), zk_0]
      omega
  have k1 := key (u - W w 6) (by omega) (by omega)
  have k2 := key (v - W w 7) (by omega) (by omega)
  unfold lnN mmax
  by_cases h : mabs (u - W w 6) < mabs (v - W w 7)
  · rw [if_pos h]; exact ⟨_, by omega, z_nI _ k2.1⟩
  · rw [if_neg h]; exact ⟨_, by omega, z_nI _ k1.1⟩
/-- the line drawn: picture, box, number of cells -/
def lnZ (W : Wnd) (P : Nat → Nat → Nat → Int32) (w : Nat) (u v c : Int32) : LSt := lfd W w c (u - W w 6) (v - W w 7) (lnN W w u v) ((lnN W w u v).toNatClampNeg + 1) 0 (P, (W w 3, W w 4, 0, 0), 0)
theorem C_line_no (hR : RC σ W O P S D E X T F N) {w u v c : Int32} (hw : opB W w = false) : f_S_line w u v c σ = some (.inr NSE, σ) := by
  unfold f_S_line f_S_line_0; rw [e_openPane_no hR.1 hw, gbx_r]
theorem C_line_bad (hR : RC σ W O P S D E X T F N) {w : Nat} {u v c : Int32} (hw : w < 8) (ho : ¬ W w 0 = 0) (h : (nearB u v && colB c) = false) : f_S_line (nI w) u v c σ = some (.inr IAE, σ) := by
  unfold f_S_line f_S_line_0
  rw [e_openPane_ok hR.1 hw ho, gbx_l, if_pos (gpn_w hw), e_requireNear]
  by_cases h1 : nearB u v = true
  · rw [if_pos h1, gbx_l, e_requireColour]
    have h3 : colB c = false := by simpa [h1] using h
    rw [h3]; rfl
  · rw [if_neg h1]; rfl
theorem C_line_ok (hR : RC σ W O P S D E X T F N) (hI : WI W) (hD : WD W) {w : Nat} {u v c : Int32} (hw : w < 8) (ho : ¬ W w 0 = 0) (h1 : nearB u v = true) (h2 : colB c = true) : ∃ z, f_S_line (nI w) u v c σ = some (.inl (lnZ W P w u v c).2.2, z) ∧ RC z (w2 W w 6 u 7 v) O (lnZ W P w u v c).1 S (ldm D W w (lnZ W P w u v c)) E X T F N ∧ clsF σ z := by
  obtain ⟨a, b, s, hi⟩ := (hI w hw).2 ho
  have hb := near_b h1
  obtain ⟨m, hm, em⟩ := lnN_nat hi h1
  unfold f_S_line f_S_line_0 f_S_drawFromPen f_S_drawFromPen_0
  rw [e_openPane_ok hR.1 hw ho, gbx_l, if_pos (gpn_w hw), e_requireNear, if_pos h1, gbx_l, e_requireColour, if_pos h2, gbx_l]
  simp only [gbi_e]
  rw [hR.1 w hw 6 (by omega), hR.1 w hw 7 (by omega), hR.1 w hw 3 (by omega), hR.1 w hw 4 (by omega), show mmax (mabs (u - W w 6)) (mabs (v - W w 7)) = nI m from em]
  have hz : lnZ W P w u v c = lfd W w c (u - W w 6) (v - W w 7) (nI m) (m + 1) 0 (P, (W w 3, W w 4, 0, 0), 0) := by
    unfold lnZ; rw [em, nI_clamp (by omega)]
  obtain ⟨u1, e1, r1, c1⟩ := S_line_l hD hw ho hi c (u - W w 6) (v - W w 7) hm (m + 1) 0 gN σ (P, (W w 3, W w 4, 0, 0), 0) (by omega) (by unfold gN; omega) hR
  rw [← hz] at e1 r1
  rw [show f_S_drawFromPen_55 gN σ (gPB + w) c (u - W w 6) (v - W w 7) (nI m) (W w 3) (W w 4) 0 0 0 0 = _ from e1, gb_some, e_P_putPen, gbv_some]
  obtain ⟨r2, c2⟩ := RC_wset r1 hI (w := w) (f := 6) u (by omega)
  obtain ⟨r3, c3⟩ := RC_wset r2 (WI_set hI (Or.inr (Or.inr (Or.inl rfl))) ⟨hb.1, hb.2.1⟩) (w := w) (f := 7) v (by omega)
  exact ⟨_, rfl, r3, clsF_tr c1 (clsF_tr c2 c3)⟩
end PY
