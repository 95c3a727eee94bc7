/-! Pure part: the reference's painting: a cell, the box of what changed, plot. -/
section MK
variable {σ : Mem} {W : Wnd} {O : List Nat} {P : Nat → Nat → Nat → Int32} {S : Nat → Int32} {D E : List Evt} {X : Int32} {T : Evt} {F N : Int32} {M : Int}
/-- the box of what changed -/
def bxs (σ : Mem) (z : Option Evt) : Prop := match z with
  | none => σ 19 21 = 0
  | some b => σ 19 21 = 1 ∧ σ 19 22 = b.1 ∧ σ 19 23 = b.2.1 ∧ σ 19 24 = b.2.2.1 ∧ σ 19 25 = b.2.2.2
def RB (σ : Mem) (W : Wnd) (O : List Nat) (P : Nat → Nat → Nat → Int32) (S : Nat → Int32) (D E : List Evt) (X : Int32) (T : Evt) (F N : Int32) (M : Int) (z : Option Evt) : Prop :=
  Mwin σ W ∧ Mord σ O M ∧ Mpic σ W P ∧ (∀ i, i < 384 → σ 20 i = S i) ∧ MD σ D ∧ ME σ E X T ∧ σ 19 15 = F ∧ σ 19 36 = N ∧ bxs σ z
theorem RB_of (hR : RM σ W O P S D E X T F N M) : RB σ W O P S D E X T F N M none := hR
theorem RB_to (hR : RB σ W O P S D E X T F N M none) : RM σ W O P S D E X T F N M := hR
def pbx (z : Option Evt) (u v : Int32) : Evt := match z with
  | none => (u, v, u, v)
  | some b => (if b.1 ≤ u then b.1 else u, if b.2.1 ≤ v then b.2.1 else v, if u ≤ b.2.2.1 then b.2.2.1 else u, if v ≤ b.2.2.2 then b.2.2.2 else v)
theorem Mpic_set {w a b s u v : Nat} (h : Mpic σ W P) (hi : WI1 W w a b s) (hu : u < a) (hv : v < b) (c : Int32) : Mpic (m2 σ 30 (384 * w + 24 * v + u) c) W (pset P w u v c) := by
  intro w' hw' ho' a' b' s' hi' u' v' hu' hv'
  have ha := hi.2.2.2.2.1
  have hb := hi.2.2.2.2.2.2.1
  have ha' := hi'.2.2.2.2.1
  have hb' := hi'.2.2.2.2.2.2.1
  rw [m2_at]; unfold pset
  by_cases he : w' = w ∧ u' = u ∧ v' = v
  · rw [if_pos ⟨rfl, by rw [he.1, he.2.1, he.2.2]⟩, if_pos he]
  · rw [if_neg (by omega), if_neg he]; exact h w' hw' ho' a' b' s' hi' u' v' hu' hv'
/-- the four numbers of the box written -/
def bx4 (σ : Mem) (b : Evt) : Mem := m2 (m2 (m2 (m2 (m2 σ 19 22 b.1) 19 23 b.2.1) 19 24 b.2.2.1) 19 25 b.2.2.2) 19 21 1
theorem M_pt_in {z : Option Evt} (hz : bxs σ z) (u v : Int32) : (if (σ 19 21) = 0 then f_M_paint_47 σ u v else if (σ 19 22) ≤ u then f_M_paint_55 σ u v (σ 19 22) else f_M_paint_47 σ u v) = some (1, bx4 σ (pbx z u v)) := by
  unfold f_M_paint_47 f_M_paint_55 f_M_paint_74 f_M_paint_82 f_M_paint_101 f_M_paint_109 f_M_paint_128 f_M_paint_136 bx4
  cases z with
  | none =>
    have h0 : σ 19 21 = 0 := hz
    have q1 : ∀ (μ : Mem) (f : Nat) (x : Int32), f ≠ 21 → m2 μ 19 f x 19 21 = μ 19 21 := fun μ f x hf => by rw [m2_at, if_neg (by omega)]
    simp only [gbm_e, q1 _ 22 _ (by decide), q1 _ 23 _ (by decide), q1 _ 24 _ (by decide), h0, if_true]; rfl
  | some b =>
    obtain ⟨b0, b1, b2, b3, b4⟩ := hz
    have q1 : ∀ (μ : Mem) (f : Nat) (x : Int32) (g : Nat), g ≠ f → m2 μ 19 f x 19 g = μ 19 g := fun μ f x g hf => by rw [m2_at, if_neg (by omega)]
    simp only [gbm_e, q1 _ 22 _ 21 (by decide), q1 _ 23 _ 21 (by decide), q1 _ 24 _ 21 (by decide), q1 _ 22 _ 23 (by decide), q1 _ 22 _ 24 (by decide), q1 _ 23 _ 24 (by decide), q1 _ 22 _ 25 (by decide), q1 _ 23 _ 25 (by decide), q1 _ 24 _ 25 (by decide), b0, b1, b2, b3, b4, if_neg (show ¬ (1 : Int32) = 0 by decide)]
    unfold pbx
    by_cases h1 : b.1 ≤ u <;> by_cases h2 : b.2.1 ≤ v <;> by_cases h3 : u ≤ b.2.2.1 <;> by_cases h4 : v ≤ b.2.2.2 <;> simp only [h1, h2, h3, h4, if_true, if_false]
theorem bx4_fr (b : Evt) : fr [19] σ (bx4 σ b) := fr_m2 (fr_m2 (fr_m2 (fr_m2 (fr_m2 fr_rf (by simp)) (by simp)) (by simp)) (by simp)) (by simp)
theorem bx4_fo (b : Evt) : fo [21, 22, 23, 24, 25] σ (bx4 σ b) := fo_m2 (fo_m2 (fo_m2 (fo_m2 (fo_m2 fo_rf (by simp)) (by simp)) (by simp)) (by simp)) (by simp)
theorem bx4_ok (b : Evt) : bxs (bx4 σ b) (some b) := by unfold bxs bx4; simp [m2_at]
theorem M_paint_no (hw : Mwin σ W) {w : Nat} (h8 : w < 8) {u v c : Int32} (hh : hasW W w u v = false) : f_M_paint (nI w) u v c σ = some (0, σ) := by
  unfold f_M_paint f_M_paint_0
  rw [e_M_inPicture hw h8, gb_some, hh, if_pos (by decide)]
theorem M_paint_ok {z : Option Evt} (hR : RB σ W O P S D E X T F N M z) {w a b s i j : Nat} (h8 : w < 8) (hi : WI1 W w a b s) (hia : i < a) (hjb : j < b) (hh : hasW W w (nI i) (nI j) = true) (c : Int32) : ∃ u, f_M_paint (nI w) (nI i) (nI j) c σ = some (1, u) ∧ RB u W O (pset P w i j c) S D E X T F N M (some (pbx z (nI i) (nI j))) ∧ modF σ u ∧ u 19 0 = σ 19 0 := by
  have ha := hi.2.2.2.2.1
  have hb := hi.2.2.2.2.2.2.1
  have hg : gin (nI (384 * w + 24 * j + i)) 3072 = true := gin_nI (by omega) (by omega)
  have hc : (nI (384 * w + 24 * j + i)).toNatClampNeg = 384 * w + 24 * j + i := nI_clamp (by omega)
  obtain ⟨rw, ro, rp, rS, rd, re, rf, rn, rz⟩ := hR
  unfold f_M_paint f_M_paint_0
  rw [e_M_inPicture rw h8, gb_some, hh, if_neg (by decide), pic_idx, if_pos hg, hc, gbm_e]
  have fz : fr [30] σ (m2 σ 30 (384 * w + 24 * j + i) c) := fr_m2 fr_rf (by simp)
  have hp := Mpic_set rp hi hia hjb c
  have e19 := fz 19 (by decide)
  have hz : bxs (m2 σ 30 (384 * w + 24 * j + i) c) z := by
    cases z with
    | none => unfold bxs at rz ⊢; rw [e19]; exact rz
    | some q => unfold bxs at rz ⊢; rw [e19]; exact rz
  generalize m2 σ 30 (384 * w + 24 * j + i) c = μ at fz hp e19 hz ⊢
  rw [M_pt_in hz]
  have fb := bx4_fr (σ := μ) (pbx z (nI i) (nI j))
  have fs := bx4_fo (σ := μ) (pbx z (nI i) (nI j))
  have fb2 : fr [19, 30] σ (bx4 μ (pbx z (nI i) (nI j))) := fr_tr (fr_up fz (by decide)) (fr_up fb (by decide))
  have fs2 : fo [21, 22, 23, 24, 25] σ (bx4 μ (pbx z (nI i) (nI j))) := fo_tr (fo_fr fz (by decide)) fs
  refine ⟨_, rfl, ⟨rw.keep (fun q h1 h2 => fb2 q (by simp; omega)), ro.keep (fb2 29 (by decide)) (fs2 11 (by decide)) (fs2 12 (by decide)), hp.keep (fb 30 (by decide)), fun k hk => ?_, rd.keep (fs2 16 (by decide)) (fun q h1 h2 => fb2 q (by simp; omega)), re.keep (fun q h1 h2 => fb2 q (by simp; omega)) (fun f hf => fs2 f (by simp; omega)), ?_, ?_, bx4_ok _⟩, modF_fr fb2 (by decide), fs2 0 (by decide)⟩
  · rw [fb2 20 (by decide)]; exact rS k hk
  · rw [fs2 15 (by decide)]; exact rf
  · rw [fs2 36 (by decide)]; exact rn
/-- the damage of what changed -/
def mdc (D : List Evt) (W : Wnd) (w : Nat) (z : Option Evt) : List Evt := match z with
  | none => D
  | some b => dadd D (W w 1 + b.1) (W w 2 + b.2.1) (W w 1 + (b.2.2.1 + 1)) (W w 2 + (b.2.2.2 + 1))
def bok (z : Option Evt) : Prop := ∀ b, z = some b → 0 ≤ b.2.2.1.toInt ∧ b.2.2.1.toInt ≤ 100 ∧ 0 ≤ b.2.2.2.toInt ∧ b.2.2.2.toInt ≤ 100
theorem RB_clr {z : Option Evt} (hR : RB σ W O P S D E X T F N M z) : RM (m2 σ 19 21 0) W O P S D E X T F N M ∧ modF σ (m2 σ 19 21 0) ∧ m2 σ 19 21 0 19 0 = σ 19 0 := by
  obtain ⟨rw, ro, rp, rS, rd, re, rf, rn, rz⟩ := hR
  have fz : fr [19] σ (m2 σ 19 21 0) := fr_m2 fr_rf (by simp)
  have fs : fo [21] σ (m2 σ 19 21 0) := fo_m2 fo_rf (by simp)
  refine ⟨⟨rw.keep (fun q h1 h2 => fz q (by simp; omega)), ro.keep (fz 29 (by decide)) (fs 11 (by decide)) (fs 12 (by decide)), rp.keep (fz 30 (by decide)), fun i hi => ?_, rd.keep (fs 16 (by decide)) (fun q h1 h2 => fz q (by simp; omega)), re.keep (fun q h1 h2 => fz q (by simp; omega)) (fun f hf => fs f (by simp; omega)), ?_, ?_, by rw [m2_at, if_pos ⟨rfl, rfl⟩]⟩, modF_fr fz (by decide), fs 0 (by decide)⟩
  · rw [fz 20 (by decide)]; exact rS i hi
  · rw [fs 15 (by decide)]; exact rf
  · rw [fs 36 (by decide)]; exact rn
theorem RB_dmg {z : Option Evt} (hR : RB σ W O P S D E X T F N M z) {u : Mem} {D' : List Evt} (hd : MD u D') (hf : fr [19, 32, 33, 34, 35] σ u) (hs : fo [16] σ u) : RB u W O P S D' E X T F N M z ∧ modF σ u ∧ u 19 0 = σ 19 0 := by
  obtain ⟨rw, ro, rp, rS, rd, re, rf, rn, rz⟩ := hR
  refine ⟨⟨rw.keep (fun q h1 h2 => hf q (by simp; omega)), ro.keep (hf 29 (by decide)) (hs 11 (by decide)) (hs 12 (by decide)), rp.keep (hf 30 (by decide)), fun i hi => ?_, hd, re.keep (fun q h1 h2 => hf q (by simp; omega)) (fun f hq => hs f (by simp; omega)), ?_, ?_, ?_⟩, modF_fr hf (by decide), hs 0 (by decide)⟩
  · rw [hf 20 (by decide)]; exact rS i hi
  · rw [hs 15 (by decide)]; exact rf
  · rw [hs 36 (by decide)]; exact rn
  · cases z with
    | none => unfold bxs at rz ⊢; rw [hs 21 (by decide)]; exact rz
    | some q => unfold bxs at rz ⊢; rw [hs 21 (by decide), hs 22 (by decide), hs 23 (by decide), hs 24 (by decide), hs 25 (by decide)]; exact rz
theorem i32_as (a b : Int32) : a + (b + 1) - 1 = a + b := by
  rw [← Int32.add_assoc, Int32.add_sub_cancel]
theorem M_dch {z : Option Evt} (hR : RB σ W O P S D E X T F N M z) (hD : DI D) {w a b s : Nat} (hw : w < 8) (hi : WI1 W w a b s) (hz : bok z) : ∃ u, f_M_damageChanged (nI w) σ = some u ∧ RM u W O P S (mdc D W w z) E X T F N M ∧ modF σ u ∧ u 19 0 = σ 19 0 := by
  have hg : gin (nI w) 8 = true := gin_nI hw (by omega)
  have hc : (nI w).toNatClampNeg = w := nI_clamp (by omega)
  have hR0 := hR
  obtain ⟨rw, ro, rp, rS, rd, re, rf, rn, rz⟩ := hR0
  unfold f_M_damageChanged f_M_damageChanged_0 f_M_damageChanged_55
  cases z with
  | none =>
    rw [show σ 19 21 = 0 from rz, if_pos rfl, gbm_e]
    obtain ⟨r1, m1, z1⟩ := RB_clr hR
    exact ⟨_, rfl, r1, m1, z1⟩
  | some q =>
    obtain ⟨b0, b1, b2, b3, b4⟩ := rz
    obtain ⟨k1, k2, k3, k4⟩ := hz q rfl
    obtain ⟨-, a1, a2, -⟩ := rw w hw
    obtain ⟨-, -, -, -, -, -, -, -, g1, g2, g3, g4, -⟩ := hi
    rw [b0, if_neg (by decide), if_pos hg, if_pos hg, if_pos hg, if_pos hg, hc, a1, a2, b1, b2, b3, b4]
    have x1 : (q.2.2.1 + 1).toInt = q.2.2.1.toInt + 1 := by rw [z_add (by rw [zk_1]; omega) (by rw [zk_1]; omega), zk_1]
    have x2 : (q.2.2.2 + 1).toInt = q.2.2.2.toInt + 1 := by rw [z_add (by rw [zk_1]; omega) (by rw [zk_1]; omega), zk_1]
    have x3 : (W w 1 + (q.2.2.1 + 1)).toInt = (W w 1).toInt + (q.2.2.1.toInt + 1) := by rw [z_add (by omega) (by omega), x1]
    have x4 : (W w 2 + (q.2.2.2 + 1)).toInt = (W w 2).toInt + (q.2.2.2.toInt + 1) := by rw [z_add (by omega) (by omega), x2]
    obtain ⟨u, e1, d1, f1, s1⟩ := e_M_damage rd hD (W w 1 + q.1) (W w 2 + q.2.1) (W w 1 + (q.2.2.1 + 1)) (W w 2 + (q.2.2.2 + 1)) (by omega) (by omega)
    rw [i32_as, i32_as] at e1
    rw [e1, gbv_some, gbm_e]
    obtain ⟨r1, m1, z1⟩ := RB_dmg hR d1 f1 s1
    obtain ⟨r2, m2', z2⟩ := RB_clr r1
    exact ⟨_, rfl, r2, modF_tr m1 m2', z2.trans z1⟩
/-- plot -/
theorem M_plot_hd (hw : Mwin σ W) (x a b c : Int32) : f_M_plot x a b c σ = f_M_plot_26 σ x a b c (if opB W x then (if colB c then 0 else 2) else 1) := by
  unfold f_M_plot f_M_plot_0
  rw [e_M_isOpen hw, gb_some, e_M_colour, gb_some]
  cases opB W x with
  | false => rw [if_pos (by decide)]; rfl
  | true =>
    rw [if_neg (by decide)]
    cases colB c with
    | false => rw [if_pos (by decide)]; rfl
    | true => rw [if_neg (by decide)]; rfl
theorem M_plot_no (hR : RM σ W O P S D E X T F N M) {x a b c : Int32} (hx : opB W x = false) : ∃ r u, f_M_plot x a b c σ = some (r, u) ∧ RM u W O P S D E X T F N M ∧ modF σ u ∧ u 19 0 = 1 := by
  obtain ⟨r, m, z⟩ := RM_code hR 1
  rw [M_plot_hd hR.1, hx, if_neg (by decide)]
  unfold f_M_plot_26
  rw [gbm_e, z, if_neg (by decide)]
  exact ⟨_, _, rfl, r, m, z⟩
theorem M_plot_bad (hR : RM σ W O P S D E X T F N M) {x a b c : Int32} (hx : opB W x = true) (hn : colB c = false) : ∃ r u, f_M_plot x a b c σ = some (r, u) ∧ RM u W O P S D E X T F N M ∧ modF σ u ∧ u 19 0 = 2 := by
  obtain ⟨r, m, z⟩ := RM_code hR 2
  rw [M_plot_hd hR.1, hx, if_pos rfl, hn, if_neg (by decide)]
  unfold f_M_plot_26
  rw [gbm_e, z, if_neg (by decide)]
  exact ⟨_, _, rfl, r, m, z⟩
theorem M_plot_out (hR : RM σ W O P S D E X T F N M) (hD : DI D) (hI : WI W) {w : Nat} {x y c : Int32} (hw : w < 8) (ho : ¬ W w 0 = 0) (hc : colB c = true) (hh : hasW W w x y = false) : ∃ u, f_M_plot (nI w) x y c σ = some (0, u) ∧ RM u W O P S D E X T F N M ∧ modF σ u ∧ u 19 0 = 0 := by
  obtain ⟨a, b, s, hi⟩ := (hI w hw).2 ho
  obtain ⟨r, m, z⟩ := RM_code hR 0
  rw [M_plot_hd hR.1, opB_ok hw ho, if_pos rfl, hc, if_pos rfl]
  unfold f_M_plot_26
  rw [gbm_e, z, if_pos (by decide), M_paint_no r.1 hw hh, gb_some]
  obtain ⟨u, e1, r1, m1, z1⟩ := M_dch (RB_of r) hD hw hi (fun b hb => by cases hb)
  rw [e1, gbv_some, if_pos (by decide)]
  exact ⟨u, rfl, r1, modF_tr m m1, z1.trans z⟩
theorem M_plot_ok (hR : RM σ W O P S D E X T F N M) (hD : DI D) {w m n : Nat} {c : Int32} (hw : w < 8) (ho : ¬ W w 0 = 0) (hc : colB c = true) (hh : hasW W w (nI m) (nI n) = true) {a b s : Nat} (hi : WI1 W w a b s) (hm : m < a) (hn : n < b) : ∃ u, f_M_plot (nI w) (nI m) (nI n) c σ = some (1, u) ∧ RM u W O (pset P w m n c) S (dadd D (W w 1 + nI m) (W w 2 + nI n) (W w 1 + (nI m + 1)) (W w 2 + (nI n + 1))) E X T F N M ∧ modF σ u ∧ u 19 0 = 0 := by
  have ha := hi.2.2.2.2.1
  have hb := hi.2.2.2.2.2.2.1
  obtain ⟨r, mf, z⟩ := RM_code hR 0
  rw [M_plot_hd hR.1, opB_ok hw ho, if_pos rfl, hc, if_pos rfl]
  unfold f_M_plot_26
  obtain ⟨u1, e1, r1, m1, z1⟩ := M_paint_ok (RB_of r) hw hi hm hn hh c
  rw [gbm_e, z, if_pos (by decide), e1, gb_some]
  obtain ⟨u2, e2, r2, m2', z2⟩ := M_dch r1 hD hw hi (fun b hb => by
    cases hb; unfold pbx; simp only; rw [nI_toInt (by omega), nI_toInt (by omega)]; omega)
  rw [e2, gbv_some, if_pos (by decide)]
  exact ⟨u2, rfl, r2, modF_tr mf (modF_tr m1 m2'), by rw [z2, z1, z]⟩
end MK
