/-! Pure part: the reference: relation, small methods. -/
section MA
def Mwin (σ : Mem) (W : Wnd) : Prop := ∀ w, w < 8 → σ 21 w = W w 0 ∧ σ 22 w = W w 1 ∧ σ 23 w = W w 2 ∧ σ 24 w = W w 3 ∧ σ 25 w = W w 4 ∧ σ 28 w = W w 5 ∧ σ 26 w = W w 6 ∧ σ 27 w = W w 7
theorem Mwin.keep {σ u : Mem} {W : Wnd} (h : Mwin σ W) (hf : ∀ q, 21 ≤ q → q ≤ 28 → u q = σ q) : Mwin u W := by
  unfold Mwin
  rw [hf 21 (by omega) (by omega), hf 22 (by omega) (by omega), hf 23 (by omega) (by omega), hf 24 (by omega) (by omega), hf 25 (by omega) (by omega), hf 26 (by omega) (by omega), hf 27 (by omega) (by omega), hf 28 (by omega) (by omega)]
  exact h
/-- ranks: the order's windows by rising rank, between front and back, both small -/
def Mord (σ : Mem) (O : List Nat) (M : Int) : Prop := O.Pairwise (fun a b => (σ 29 a).toInt < (σ 29 b).toInt) ∧ (∀ w ∈ O, (σ 19 11).toInt ≤ (σ 29 w).toInt ∧ (σ 29 w).toInt ≤ (σ 19 12).toInt) ∧ -M ≤ (σ 19 11).toInt ∧ (σ 19 11).toInt ≤ 0 ∧ 0 ≤ (σ 19 12).toInt ∧ (σ 19 12).toInt ≤ M
theorem Mord.keep {σ u : Mem} {O : List Nat} {M : Int} (h : Mord σ O M) (h29 : u 29 = σ 29) (h11 : u 19 11 = σ 19 11) (h12 : u 19 12 = σ 19 12) : Mord u O M := by
  unfold Mord; rw [h29, h11, h12]; exact h
theorem Mord.more {σ : Mem} {O : List Nat} {M M' : Int} (h : Mord σ O M) (hM : M ≤ M') : Mord σ O M' := ⟨h.1, h.2.1, by have := h.2.2.1; omega, h.2.2.2.1, h.2.2.2.2.1, by have := h.2.2.2.2.2; omega⟩
def Mpic (σ : Mem) (W : Wnd) (P : Nat → Nat → Nat → Int32) : Prop := ∀ w, w < 8 → ¬ W w 0 = 0 → ∀ a b s : Nat, WI1 W w a b s → ∀ u v, u < a → v < b → σ 30 (384 * w + 24 * v + u) = P w u v
theorem Mpic.keep {σ u : Mem} {W : Wnd} {P : Nat → Nat → Nat → Int32} (h : Mpic σ W P) (h30 : u 30 = σ 30) : Mpic u W P := by unfold Mpic; rw [h30]; exact h
def dinc (d : Evt) : Evt := (d.1, d.2.1, d.2.2.1 - 1, d.2.2.2 - 1)
def MD (σ : Mem) (D : List Evt) : Prop := σ 19 16 = nI D.length ∧ D.length ≤ 6 ∧ Ev σ 32 33 34 35 (D.map dinc)
theorem MD.keep {σ u : Mem} {D : List Evt} (h : MD σ D) (h16 : u 19 16 = σ 19 16) (hf : ∀ q, 32 ≤ q → q ≤ 35 → u q = σ q) : MD u D := by
  unfold MD Ev
  rw [h16, hf 32 (by omega) (by omega), hf 33 (by omega) (by omega), hf 34 (by omega) (by omega), hf 35 (by omega) (by omega)]
  exact h
def ME (σ : Mem) (E : List Evt) (X : Int32) (T : Evt) : Prop := σ 19 26 = nI E.length ∧ E.length ≤ 12 ∧ Ev σ 36 37 38 39 E ∧ σ 19 35 = X ∧ σ 19 31 = (if T.1 = -1 then 0 else 1) ∧ (¬ T.1 = -1 → σ 19 32 = T.2.1 ∧ σ 19 33 = T.2.2.1 ∧ σ 19 34 = T.2.2.2)
theorem ME.keep {σ u : Mem} {E : List Evt} {X : Int32} {T : Evt} (h : ME σ E X T) (hf : ∀ q, 36 ≤ q → q ≤ 39 → u q = σ q) (hs : ∀ f, f = 26 ∨ f = 31 ∨ f = 32 ∨ f = 33 ∨ f = 34 ∨ f = 35 → u 19 f = σ 19 f) : ME u E X T := by
  unfold ME Ev
  rw [hf 36 (by omega) (by omega), hf 37 (by omega) (by omega), hf 38 (by omega) (by omega), hf 39 (by omega) (by omega), hs 26 (by omega), hs 31 (by omega), hs 32 (by omega), hs 33 (by omega), hs 34 (by omega), hs 35 (by omega)]
  exact h
def RM (σ : Mem) (W : Wnd) (O : List Nat) (P : Nat → Nat → Nat → Int32) (S : Nat → Int32) (D E : List Evt) (X : Int32) (T : Evt) (F N : Int32) (M : Int) : Prop :=
  Mwin σ W ∧ Mord σ O M ∧ Mpic σ W P ∧ (∀ i, i < 384 → σ 20 i = S i) ∧ MD σ D ∧ ME σ E X T ∧ σ 19 15 = F ∧ σ 19 36 = N ∧ σ 19 21 = 0
/-- the class's cells are untouched -/
def modF (σ u : Mem) : Prop := ∀ q, q < 19 ∨ 40 ≤ q → u q = σ q
theorem modF_rf {σ : Mem} : modF σ σ := fun _ _ => rfl
theorem modF_tr {σ u w : Mem} (h : modF σ u) (h2 : modF u w) : modF σ w := fun q a => (h2 q a).trans (h q a)
theorem modF_fr {σ u : Mem} {l : List Nat} (h : fr l σ u) (hl : ∀ q ∈ l, 19 ≤ q ∧ q < 40) : modF σ u := fun q a => h q (fun hq => by have := hl q hq; omega)
/-- the reference's object keeps its fields but those of L -/
def fo (L : List Nat) (σ u : Mem) : Prop := ∀ f, f ∉ L → u 19 f = σ 19 f
theorem fo_rf {L : List Nat} {σ : Mem} : fo L σ σ := fun _ _ => rfl
theorem fo_tr {L : List Nat} {σ u w : Mem} (h : fo L σ u) (h2 : fo L u w) : fo L σ w := fun f a => (h2 f a).trans (h f a)
theorem fo_up {L L' : List Nat} {σ u : Mem} (h : fo L σ u) (hl : ∀ q ∈ L, q ∈ L') : fo L' σ u := fun f hf => h f (fun h' => hf (hl f h'))
theorem fo_m2 {L : List Nat} {σ u : Mem} {f : Nat} {v : Int32} (h : fo L σ u) (hf : f ∈ L) : fo L σ (m2 u 19 f v) := fun g hg => by
  have hne : g ≠ f := by rintro rfl; exact hg hf
  rw [m2_at, if_neg (by omega)]; exact h g hg
theorem fo_fr {L l : List Nat} {σ u : Mem} (h : fr l σ u) (hl : 19 ∉ l) : fo L σ u := fun f _ => by rw [h 19 hl]
theorem fo_m2o {L : List Nat} {σ u : Mem} {q f : Nat} {v : Int32} (h : fo L σ u) (hq : q ≠ 19) : fo L σ (m2 u q f v) := fun g hg => by
  rw [m2_at, if_neg (by omega)]; exact h g hg
variable {σ : Mem} {W : Wnd} {O : List Nat} {P : Nat → Nat → Nat → Int32} {S : Nat → Int32} {D E : List Evt} {X : Int32} {T : Evt} {F N : Int32} {M : Int}
theorem RM_code (hR : RM σ W O P S D E X T F N M) (c : Int32) : RM (m2 σ 19 0 c) W O P S D E X T F N M ∧ modF σ (m2 σ 19 0 c) ∧ m2 σ 19 0 c 19 0 = c := by
  obtain ⟨rw, ro, rp, rS, rd, re, rf, rn, rs⟩ := hR
  have fz : fr [19] σ (m2 σ 19 0 c) := fr_m2 fr_rf (by simp)
  have fs : fo [0] σ (m2 σ 19 0 c) := fo_m2 fo_rf (by simp)
  refine ⟨⟨rw.keep (fun q h1 h2 => fz q (by simp; omega)), ro.keep (fz 29 (by decide)) (fs 11 (by decide)) (fs 12 (by decide)), rp.keep (fz 30 (by decide)), fun i hi => ?_, rd.keep (fs 16 (by decide)) (fun q h1 h2 => fz q (by simp; omega)), re.keep (fun q h1 h2 => fz q (by simp; omega)) (fun f hf => fs f (by simp; omega)), ?_, ?_, ?_⟩, modF_fr fz (by decide), by rw [m2_at, if_pos ⟨rfl, rfl⟩]⟩
  · rw [fz 20 (by decide)]; exact rS i hi
  · rw [fs 15 (by decide)]; exact rf
  · rw [fs 36 (by decide)]; exact rn
  · rw [fs 21 (by decide)]; exact rs
def near1 (x : Int32) : Bool := !decide (x < -50) && !decide (50 < x)
theorem near_12 (a b : Int32) : nearB a b = (near1 a && near1 b) := by
  have h : decide (b ≤ 50) = !decide (50 < b) := by
    by_cases h : b ≤ 50
    · rw [decide_eq_true h, decide_eq_false (by rw [z_le] at h; rw [z_lt]; omega)]; rfl
    · rw [decide_eq_false h, decide_eq_true (by rw [z_le] at h; rw [z_lt]; omega)]; rfl
  unfold nearB near1
  rw [h]
  cases decide (a < -50) <;> cases decide (50 < a) <;> cases decide (b < -50) <;> cases decide (50 < b) <;> rfl
theorem e_M_near (x : Int32) (σ : Mem) : f_M_near x σ = some (bI (near1 x), σ) := by
  unfold f_M_near f_M_near_0 f_M_near_16 f_M_near_17 near1
  by_cases h1 : x < -50
  · simp [h1, bI]
  by_cases h2 : 50 < x
  · simp [h1, h2, bI]
  · simp [h1, h2, bI]
theorem e_M_colour (x : Int32) (σ : Mem) : f_M_colour x σ = some (bI (colB x), σ) := by
  unfold f_M_colour f_M_colour_0 colB
  have h : decide (x ≤ 255) = !decide (255 < x) := by
    by_cases h : x ≤ 255
    · rw [decide_eq_true h, decide_eq_false (by rw [z_le] at h; rw [z_lt]; omega)]; rfl
    · rw [decide_eq_false h, decide_eq_true (by rw [z_le] at h; rw [z_lt]; omega)]; rfl
  rw [h]
  by_cases h1 : x < 0
  · simp [h1, bI, f_M_colour_15, f_M_colour_16]
  by_cases h2 : 255 < x
  · simp [h1, h2, bI, f_M_colour_15, f_M_colour_16]
  · simp [h1, h2, bI, f_M_colour_15, f_M_colour_16]
theorem e_M_isOpen (hw : Mwin σ W) (x : Int32) : f_M_isOpen x σ = some (bI (opB W x), σ) := by
  unfold f_M_isOpen f_M_isOpen_0 f_M_isOpen_23 f_M_isOpen_24 opB
  by_cases h1 : x < 0
  · simp [h1, bI]
  by_cases h2 : 8 ≤ x
  · simp [h1, h2, bI]
  have g1 : ¬ x.toInt < 0 := by rw [z_lt, zk_0] at h1; exact h1
  have g2 : ¬ 8 ≤ x.toInt := by rw [z_le, zk_8] at h2; exact h2
  have hg : gin x 8 = true := by rw [z_gin]; omega
  rw [if_neg h1, if_neg h2, if_pos hg, (hw x.toNatClampNeg (by rw [z_cl]; omega)).1]
  by_cases h3 : W x.toNatClampNeg 0 = 0
  · simp [h1, h2, h3, bI]
  · simp [h1, h2, h3, bI]
theorem e_M_onScreen (x y : Int32) (σ : Mem) : f_M_onScreen x y σ = some (bI (scrB x y), σ) := by
  unfold f_M_onScreen f_M_onScreen_0 f_M_onScreen_24 f_M_onScreen_25 scrB
  have h : decide (y < 16) = !decide (16 ≤ y) := by
    by_cases h : y < 16
    · rw [decide_eq_true h, decide_eq_false (by rw [z_lt] at h; rw [z_le]; omega)]; rfl
    · rw [decide_eq_false h, decide_eq_true (by rw [z_lt] at h; rw [z_le]; omega)]; rfl
  rw [h]
  by_cases h1 : x < 0
  · simp [h1, bI]
  by_cases h2 : 24 ≤ x
  · simp [h1, h2, bI]
  by_cases h3 : y < 0
  · simp [h1, h2, h3, bI]
  by_cases h4 : 16 ≤ y
  · simp [h1, h2, h3, h4, bI]
  · simp [h1, h2, h3, h4, bI]
theorem e_M_inPicture (hw : Mwin σ W) {w : Nat} (h8 : w < 8) (u v : Int32) : f_M_inPicture (nI w) u v σ = some (bI (hasW W w u v), σ) := by
  unfold f_M_inPicture f_M_inPicture_0 f_M_inPicture_32 f_M_inPicture_33 hasW
  have hg : gin (nI w) 8 = true := gin_nI h8 (by omega)
  have hc : (nI w).toNatClampNeg = w := nI_clamp (by omega)
  obtain ⟨-, -, -, a3, a4, -⟩ := hw w h8
  rw [if_pos hg, if_pos hg, hc, a3, a4]
  simp only [z_lt, z_le, zk_0]
  by_cases h1 : u.toInt < 0
  · rw [if_pos h1]; simp [show ¬ 0 ≤ u.toInt by omega, bI]
  rw [if_neg h1]
  by_cases h2 : (W w 3).toInt ≤ u.toInt
  · rw [if_pos h2]; simp [show ¬ u.toInt < (W w 3).toInt by omega, bI]
  rw [if_neg h2]
  by_cases h3 : v.toInt < 0
  · rw [if_pos h3]; simp [show ¬ 0 ≤ v.toInt by omega, bI]
  rw [if_neg h3]
  by_cases h4 : (W w 4).toInt ≤ v.toInt
  · rw [if_pos h4]; simp [show ¬ v.toInt < (W w 4).toInt by omega, bI]
  rw [if_neg h4]
  simp [show 0 ≤ u.toInt by omega, show u.toInt < (W w 3).toInt by omega, show 0 ≤ v.toInt by omega, show v.toInt < (W w 4).toInt by omega, bI]
theorem e_M_tell {E : List Evt} {X : Int32} {T : Evt} (e : Evt) (h : ME σ E X T) : ∃ u, f_M_tell e.1 e.2.1 e.2.2.1 e.2.2.2 σ = some u ∧ ME u (tE E e) (tX E X) T ∧ fr [19, 36, 37, 38, 39] σ u ∧ fo [26, 35] σ u := by
  obtain ⟨h1, h2, h3, h4, h5, h6⟩ := h
  unfold f_M_tell f_M_tell_0 tE tX
  by_cases hl : E.length < 12
  · rw [if_neg (by rw [h1]; simp (disch := (first | omega | (simp (disch := omega) only [nI_toInt, zk_0, zk_1, zk_2, zk_3, zk_4, zk_5, zk_6, zk_7, zk_8, zk_11, zk_12, zk_15, zk_16, zk_23, zk_24, zk_31, zk_32, zk_50, zk_255, zk_384, zk_400, zk_1023, zk_3072, zk_m1, zk_m50]; omega))) only [z_le, z_lt, z_eq, z_gin, z_cl, nI_toInt, z_add, z_sub, zk_0, zk_1, zk_2, zk_3, zk_4, zk_5, zk_6, zk_7, zk_8, zk_11, zk_12, zk_15, zk_16, zk_23, zk_24, zk_31, zk_32, zk_50, zk_255, zk_384, zk_400, zk_1023, zk_3072, zk_m1, zk_m50]; omega), if_pos hl, if_pos hl]
    have hg : gin (nI E.length) 12 = true := gin_nI hl (by omega)
    have hc : (nI E.length).toNatClampNeg = E.length := nI_clamp (by omega)
    have e36 : ∀ (μ : Mem) (k : Nat) (v : Int32), m2 μ 36 k v 19 26 = μ 19 26 := fun μ k v => by rw [m2_at, if_neg (by omega)]
    have e37 : ∀ (μ : Mem) (k : Nat) (v : Int32), m2 μ 37 k v 19 26 = μ 19 26 := fun μ k v => by rw [m2_at, if_neg (by omega)]
    have e38 : ∀ (μ : Mem) (k : Nat) (v : Int32), m2 μ 38 k v 19 26 = μ 19 26 := fun μ k v => by rw [m2_at, if_neg (by omega)]
    have e39 : ∀ (μ : Mem) (k : Nat) (v : Int32), m2 μ 39 k v 19 26 = μ 19 26 := fun μ k v => by rw [m2_at, if_neg (by omega)]
    simp only [gbm_e, e36, e37, e38, e39, h1, if_pos hg, hc]
    have hp := Ev_put e h3 (by decide) (by decide) (by decide) (by decide) (by decide) (by decide)
    refine ⟨_, rfl, ⟨?_, ?_, ?_, ?_, ?_, ?_⟩, ?_, ?_⟩
    · rw [m2_at, if_pos ⟨rfl, rfl⟩]; simp only [List.length_append, List.length_cons, List.length_nil]; exact nI_1 _
    · simp only [List.length_append, List.length_cons, List.length_nil]; omega
    · exact hp.keep (m2_ne _ _ _ (by decide)) (m2_ne _ _ _ (by decide)) (m2_ne _ _ _ (by decide)) (m2_ne _ _ _ (by decide))
    · simpa [m2_at] using h4
    · simpa [m2_at] using h5
    · simpa [m2_at] using h6
    · exact fr_m2 (fr_m2 (fr_m2 (fr_m2 (fr_m2 fr_rf (by simp)) (by simp)) (by simp)) (by simp)) (by simp)
    · exact fo_m2 (fo_m2o (fo_m2o (fo_m2o (fo_m2o fo_rf (by decide)) (by decide)) (by decide)) (by decide)) (by simp)
  · rw [if_pos (by rw [h1]; simp (disch := (first | omega | (simp (disch := omega) only [nI_toInt, zk_0, zk_1, zk_2, zk_3, zk_4, zk_5, zk_6, zk_7, zk_8, zk_11, zk_12, zk_15, zk_16, zk_23, zk_24, zk_31, zk_32, zk_50, zk_255, zk_384, zk_400, zk_1023, zk_3072, zk_m1, zk_m50]; omega))) only [z_le, z_lt, z_eq, z_gin, z_cl, nI_toInt, z_add, z_sub, zk_0, zk_1, zk_2, zk_3, zk_4, zk_5, zk_6, zk_7, zk_8, zk_11, zk_12, zk_15, zk_16, zk_23, zk_24, zk_31, zk_32, zk_50, zk_255, zk_384, zk_400, zk_1023, zk_3072, zk_m1, zk_m50]; omega), if_neg hl, if_neg hl]
    refine ⟨_, rfl, ⟨?_, h2, ?_, ?_, ?_, ?_⟩, fr_m2 fr_rf (by simp), fo_m2 fo_rf (by simp)⟩
    · simpa [m2_at] using h1
    · exact h3.keep (m2_ne _ _ _ (by decide)) (m2_ne _ _ _ (by decide)) (m2_ne _ _ _ (by decide)) (m2_ne _ _ _ (by decide))
    · simp [m2_at, h4]
    · simpa [m2_at] using h5
    · simpa [m2_at] using h6
end MA
