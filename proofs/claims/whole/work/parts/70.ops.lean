/-! Pure part: the class's close, move, pen, plot, picture. -/
section PQ
theorem same345 {W W' : Wnd} {w a b s a' b' s' : Nat} (h : WI1 W w a b s) (h' : WI1 W' w a' b' s') (e3 : W' w 3 = W w 3) (e4 : W' w 4 = W w 4) (e5 : W' w 5 = W w 5) : a' = a ∧ b' = b ∧ s' = s := by
  obtain ⟨h1, h2, h3, h4, h5, h6, h7, h8, -⟩ := h
  obtain ⟨g1, g2, g3, g4, g5, g6, g7, g8, -⟩ := h'
  exact ⟨nI_inj (by omega) (by omega) (g1.symm.trans (e3.trans h1)), nI_inj (by omega) (by omega) (g2.symm.trans (e4.trans h2)), nI_inj (by omega) (by omega) (g3.symm.trans (e5.trans h3))⟩
/-- a change of the windows that leaves used, width, height, start as they are -/
theorem Cst_same {σ : Mem} {W W' : Wnd} (h : Cst σ W) (e : ∀ w, w < 8 → W' w 0 = W w 0 ∧ W' w 3 = W w 3 ∧ W' w 4 = W w 4 ∧ W' w 5 = W w 5) : Cst σ W' := by
  intro c hc
  have : frW W' c = frW W c := by
    rw [Bool.eq_iff_iff, frW_iff, frW_iff]
    constructor
    · intro h1 i hi; obtain ⟨a0, a3, a4, a5⟩ := e i hi; rw [← h1 i hi]; exact (blk_ext a0 a3 a4 a5).symm
    · intro h1 i hi; obtain ⟨a0, a3, a4, a5⟩ := e i hi; rw [← h1 i hi]; exact blk_ext a0 a3 a4 a5
  rw [this]; exact h c hc
theorem Cpic_same {σ : Mem} {W W' : Wnd} {P : Nat → Nat → Nat → Int32} (h : Cpic σ W P) (hI : WI W) (e : ∀ w, w < 8 → W' w 0 = W w 0 ∧ W' w 3 = W w 3 ∧ W' w 4 = W w 4 ∧ W' w 5 = W w 5) : Cpic σ W' P := by
  intro w hw ho a b s hi u v hu hv
  obtain ⟨a0, a3, a4, a5⟩ := e w hw
  rw [a0] at ho
  obtain ⟨a', b', s', hi'⟩ := (hI w hw).2 ho
  obtain ⟨rfl, rfl, rfl⟩ := same345 hi' hi a3 a4 a5
  exact h w hw ho _ _ _ hi' u v hu hv
def pset (P : Nat → Nat → Nat → Int32) (w u v : Nat) (c : Int32) : Nat → Nat → Nat → Int32 := fun w' u' v' => if w' = w ∧ u' = u ∧ v' = v then c else P w' u' v'
theorem Cpic_set {σ : Mem} {W : Wnd} {P : Nat → Nat → Nat → Int32} (h : Cpic σ W P) (hD : WD W) {w a b s u v : Nat} (hw : w < 8) (ho : ¬ W w 0 = 0) (hi : WI1 W w a b s) (hu : u < a) (hv : v < b) (c : Int32) : Cpic (m2 σ 6 (s + v * a + u) c) W (pset P w u v c) := by
  intro w' hw' ho' a' b' s' hi' u' v' hu' hv'
  rw [m2_at]; unfold pset
  have hc := cell_lt (s := s) hu hv
  have hc' := cell_lt (s := s') hu' hv'
  have h8 := hi.2.2.2.2.2.2.2.1
  have h8' := hi'.2.2.2.2.2.2.2.1
  by_cases hww : w' = w
  · subst hww
    obtain ⟨rfl, rfl, rfl⟩ := WI1_uniq hi' hi
    by_cases he : u' = u ∧ v' = v
    · rw [if_pos ⟨rfl, by rw [he.1, he.2]⟩, if_pos ⟨rfl, he⟩]
    · rw [if_neg (fun hq => he (cell_inj hu' hu (by omega))), if_neg (fun hq => he hq.2)]
      exact h w' hw' ho' _ _ _ hi' u' v' hu' hv'
  · rw [if_neg (fun hq => by
      have b1 := (blk_iff hi ho (show s + v * a + u < 400 by omega)).2 hc
      have b2 := (blk_iff hi' ho' (show s + v * a + u < 400 by omega)).2 (by rw [← hq.2]; exact hc')
      have := hD w hw w' hw' (fun q => hww q.symm) _ (by omega) b1
      rw [b2] at this; cases this), if_neg (fun hq => hww hq.1)]
    exact h w' hw' ho' _ _ _ hi' u' v' hu' hv'
theorem Cpic.keep {σ u : Mem} {W : Wnd} {P : Nat → Nat → Nat → Int32} (h : Cpic σ W P) (h6 : u 6 = σ 6) : Cpic u W P := by unfold Cpic; rw [h6]; exact h
theorem Cst.keep {σ u : Mem} {W : Wnd} (h : Cst σ W) (h8 : u 8 = σ 8) : Cst u W := by unfold Cst; rw [h8]; exact h
theorem frW_close {W : Wnd} (hD : WD W) {w a b s : Nat} (hw : w < 8) (ho : ¬ W w 0 = 0) (hi : WI1 W w a b s) (c : Nat) (hc : c < 400) : frW (wset W w 0 0) c = (frW W c || (decide (s ≤ c) && decide (c < s + a * b))) := by
  have hb := blk_iff hi ho hc
  have hne : ∀ i, i ≠ w → blk (wset W w 0 0) c i = blk W c i := fun i hi => blk_ext (by unfold wset; rw [if_neg (by omega)]) (by unfold wset; rw [if_neg (by omega)]) (by unfold wset; rw [if_neg (by omega)]) (by unfold wset; rw [if_neg (by omega)])
  have hwc : blk (wset W w 0 0) c w = false := blk_closed (by unfold wset; simp)
  rw [Bool.eq_iff_iff, frW_iff, Bool.or_eq_true, frW_iff]
  simp only [Bool.and_eq_true, decide_eq_true_eq]
  constructor
  · intro h
    by_cases hin : s ≤ c ∧ c < s + a * b
    · exact Or.inr hin
    · left; intro i hi
      by_cases hiw : i = w
      · subst hiw
        cases h9 : blk W c i with
        | false => rfl
        | true => exact absurd (hb.1 h9) hin
      · rw [← hne i hiw]; exact h i hi
  · rintro (h | h) i hi
    · by_cases hiw : i = w
      · rw [hiw]; exact hwc
      · rw [hne i hiw]; exact h i hi
    · by_cases hiw : i = w
      · rw [hiw]; exact hwc
      · rw [hne i hiw]; exact hD w hw i hi (fun q => hiw q.symm) c hc (hb.2 h)
variable {σ : Mem} {W : Wnd} {O : List Nat} {P : Nat → Nat → Nat → Int32} {S : Nat → Int32} {D E : List Evt} {X : Int32} {T : Evt} {F N : Int32}
/-- the frame of window w added to the damage -/
def dfr (D : List Evt) (W : Wnd) (w : Nat) : List Evt := dadd D (W w 1 + 0) (W w 2 + 0) (W w 1 + W w 3) (W w 2 + W w 4)
theorem e_dFrame (h : CD σ D) (hw : Cwin σ W) {w : Nat} (h8 : w < 8) : ∃ u, f_S_damageFrame (gPB + w) σ = some u ∧ CD u (dfr D W w) ∧ fr [9, 10, 11, 12, 13] σ u := by
  obtain ⟨u, e1, e2, e3⟩ := e_S_damageFrame (gPB + w) h
  rw [hw w h8 1 (by omega), hw w h8 2 (by omega), hw w h8 3 (by omega), hw w h8 4 (by omega)] at e2
  exact ⟨u, e1, e2, e3⟩
theorem RC_dmg (hR : RC σ W O P S D E X T F N) {u : Mem} {D' : List Evt} (hd : CD u D') (hf : fr [9, 10, 11, 12, 13] σ u) : RC u W O P S D' E X T F N ∧ clsF σ u := by
  obtain ⟨rw, ro, rs, rp, rS, rd, re, rf, rn⟩ := hR
  refine ⟨⟨rw.keep (hf.hi (by decide)), ro.keep (hf 3 (by decide)) (hf 4 (by decide)), rs.keep (hf 8 (by decide)), rp.keep (hf 6 (by decide)), fun i hi => ?_, hd, re.keep (fun q h1 h2 => hf q (by simp; omega)), ?_, ?_⟩, clsF_fr hf (by decide)⟩
  · rw [hf 1 (by decide)]; exact rS i hi
  · rw [hf 0 (by decide)]; exact rf
  · rw [hf 0 (by decide)]; exact rn
theorem C_close_ok (hR : RC σ W O P S D E X T F N) (hI : WI W) (hD : WD W) (hO : OI W O) {w : Nat} (hw : w < 8) (ho : ¬ W w 0 = 0) : ∃ u, f_S_close (nI w) σ = some (.inl (), u) ∧
    RC u (wset W w 0 0) (O.filter (fun x => decide (x ≠ w))) P S (dfr D W w) (E.filter (fun x => decide (x.2.1 ≠ nI w))) X T (if F = nI w then hdI (O.filter (fun x => decide (x ≠ w))) else F) N ∧ clsF σ u := by
  obtain ⟨a, b, s, hi⟩ := (hI w hw).2 ho
  have hRw := hR.1
  unfold f_S_close f_S_close_0 f_S_close_70
  rw [e_openPane_ok hR.1 hw ho, gbx_l, if_pos (gpn_w hw)]
  obtain ⟨u3, e3, d3, f3⟩ := e_dFrame hR.2.2.2.2.2.1 hR.1 hw
  rw [e3, gbv_some]
  obtain ⟨⟨rw, ro, rs, rp, rS, rd, re, rf, rn⟩, c3⟩ := RC_dmg hR d3 f3
  rw [rw w hw 5 (by omega), rw w hw 3 (by omega), rw w hw 4 (by omega), hi.1, hi.2.1, hi.2.2.1, pk_mul]
  obtain ⟨u4, e4, t4, f4⟩ := e_T_release u3 s (a * b) hi.2.2.2.2.2.2.2.1
  rw [e4, gbv_some, e_P_end, gbv_some]
  have hw4 : Cwin u4 W := rw.keep (f4.hi (by decide))
  have hw5 := Cwin_set hw4 w 0 0
  have f5 : fr [gPB + w] u4 (m2 u4 (gPB + w) 0 0) := fr_m2 fr_rf (by simp)
  generalize m2 u4 (gPB + w) 0 0 = u5 at hw5 f5 ⊢
  have ho5 : Cord u5 O := ro.keep ((f5.pn 3 (by omega)).trans (f4 3 (by decide))) ((f5.pn 4 (by omega)).trans (f4 4 (by decide)))
  obtain ⟨u6, e6, o6, f6⟩ := e_O_remove w ho5 hO.lt hw
  rw [e6, gbv_some]
  have he6 : CE u6 E X T := re.keep (fun q h1 h2 => (f6 q (by simp; omega)).trans ((f5.pn q (by omega)).trans (f4 q (by simp; omega))))
  obtain ⟨u7, e7, v7, f7⟩ := e_E_removeAllOf (nI w) he6
  rw [e7, gbv_some]
  have r7 : RC u7 (wset W w 0 0) (O.filter (fun x => decide (x ≠ w))) P S (dfr D W w) (E.filter (fun x => decide (x.2.1 ≠ nI w))) X T F N := by
    refine ⟨(hw5.keep (f6.hi (by decide))).keep (f7.hi (by decide)), o6.keep (f7 3 (by decide)) (f7 4 (by decide)), fun c hc => ?_, fun w' hw' ho' a' b' s' hi' u v hu hv => ?_, fun i hi' => ?_, rd.keep (fun q h1 h2 => (f7 q (by simp; omega)).trans ((f6 q (by simp; omega)).trans ((f5.pn q (by omega)).trans (f4 q (by simp; omega))))), v7, ?_, ?_⟩
    · rw [f7 8 (by decide), f6 8 (by decide), f5.pn 8 (by omega), t4 c, frW_close hD hw ho hi c hc]
      by_cases hin : s ≤ c ∧ c < s + a * b
      · rw [if_pos hin]; simp [hin.1, hin.2, bI]
      · rw [if_neg hin, rs c hc]
        have : (decide (s ≤ c) && decide (c < s + a * b)) = false := by
          simp only [Bool.and_eq_false_iff, decide_eq_false_iff_not]; omega
        rw [this, Bool.or_false]
    · have hne : w' ≠ w := by
        rintro rfl; apply ho'; unfold wset; simp
      have hq : ∀ f, wset W w 0 0 w' f = W w' f := fun f => by unfold wset; rw [if_neg (by omega)]
      rw [f7 6 (by decide), f6 6 (by decide), f5.pn 6 (by omega), f4 6 (by decide)]
      rw [hq] at ho'
      exact rp w' hw' ho' a' b' s' (WI1_ext (fun f _ => hq f) hi') u v hu hv
    · rw [f7 1 (by decide), f6 1 (by decide), f5.pn 1 (by omega), f4 1 (by decide)]; exact rS i hi'
    · rw [f7 0 (by decide), f6 0 (by decide), f5.pn 0 (by omega), f4 0 (by decide)]; exact rf
    · rw [f7 0 (by decide), f6 0 (by decide), f5.pn 0 (by omega), f4 0 (by decide)]; exact rn
  have c7 : clsF σ u7 := clsF_tr c3 (fun q h1 h2 => by rw [f7 q (by simp; omega), f6 q (by simp; omega), f5.pn q (by omega), f4 q (by simp; omega)])
  rw [r7.2.2.2.2.2.2.2.1]
  by_cases hF : F = nI w
  · rw [if_pos hF, if_pos hF, e_O_first r7.2.1, gb_some]
    obtain ⟨rw, ro, rs, rp, rS, rd, re, rf, rn⟩ := r7
    have fz : fr [0] u7 (m2 u7 0 6 (hdI (O.filter (fun x => decide (x ≠ w))))) := fr_m2 fr_rf (by simp)
    refine ⟨_, rfl, ⟨rw.keep (fz.hi (by decide)), ro.keep (fz 3 (by decide)) (fz 4 (by decide)), rs.keep (fz 8 (by decide)), rp.keep (fz 6 (by decide)), fun i hi' => ?_, rd.keep (fun q h1 h2 => fz q (by simp; omega)), re.keep (fun q h1 h2 => fz q (by simp; omega)), ?_, ?_⟩, clsF_tr c7 (clsF_fr fz (by decide))⟩
    · rw [fz 1 (by decide)]; exact rS i hi'
    · rw [m2_at, if_pos ⟨rfl, rfl⟩]
    · rw [m2_at, if_neg (by omega)]; exact rn
  · rw [if_neg hF, if_neg hF]
    exact ⟨u7, rfl, r7, c7⟩
theorem C_close_no (hR : RC σ W O P S D E X T F N) {x : Int32} (hx : opB W x = false) : f_S_close x σ = some (.inr NSE, σ) := by
  unfold f_S_close f_S_close_0; rw [e_openPane_no hR.1 hx, gbx_r]
end PQ
