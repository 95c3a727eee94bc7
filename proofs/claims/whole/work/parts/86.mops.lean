/-! Pure part: the reference's close, move, pen, screen, picture, at, raise, click, key, next, event. -/
section MH
variable {σ : Mem} {W : Wnd} {O : List Nat} {P : Nat → Nat → Nat → Int32} {S : Nat → Int32} {D E : List Evt} {X : Int32} {T : Evt} {F N : Int32} {M : Int}
/-- the end of close, its loop run -/
def clE (σ : Mem) (x : Int32) : Option Mem := if (σ 19 15) = x then gb (f_M_foremost σ) fun r3 u2 => f_M_close_99 u2 r3 else f_M_close_99 σ (σ 19 15)
theorem M_cl_l (E : List Evt) (w : Int32) (hE : E.length ≤ 12) : ∀ (d k n : Nat) (μ : Mem), k + d = E.length → d < n →
    Ev μ 36 37 38 39 ((E.take k).filter (fun x => decide (x.2.1 ≠ w))) → (∀ i, k ≤ i → i < E.length → μ 36 i = (E.getD i ev0).1 ∧ μ 37 i = (E.getD i ev0).2.1 ∧ μ 38 i = (E.getD i ev0).2.2.1 ∧ μ 39 i = (E.getD i ev0).2.2.2) → μ 19 26 = nI E.length →
    ∃ u, f_M_close_41 n μ w (nI ((E.take k).filter (fun x => decide (x.2.1 ≠ w))).length) (nI k) = clE (m2 u 19 26 (nI (E.filter (fun x => decide (x.2.1 ≠ w))).length)) w ∧ Ev u 36 37 38 39 (E.filter (fun x => decide (x.2.1 ≠ w))) ∧ fr [36, 37, 38, 39] μ u := by
  intro d
  induction d with
  | zero =>
    intro k n μ hk hn h1 h2 h3
    obtain ⟨n, rfl⟩ : ∃ j, n = j + 1 := ⟨n - 1, by omega⟩
    have hk' : k = E.length := by omega
    subst hk'
    rw [List.take_length] at h1 ⊢
    show ∃ u, f_M_close_41B (f_M_close_41 n) μ w (nI (E.filter (fun x => decide (x.2.1 ≠ w))).length) (nI E.length) = _ ∧ _
    unfold f_M_close_41B
    rw [h3, if_pos (by simp (disch := (first | omega | (simp (disch := omega) only [nI_toInt, zk_0, zk_1, zk_2, zk_3, zk_4, zk_5, zk_6, zk_7, zk_8, zk_11, zk_12, zk_15, zk_16, zk_23, zk_24, zk_31, zk_32, zk_50, zk_255, zk_384, zk_400, zk_1023, zk_3072, zk_m1, zk_m50]; omega))) only [z_le, z_lt, z_eq, z_gin, z_cl, nI_toInt, z_add, z_sub, zk_0, zk_1, zk_2, zk_3, zk_4, zk_5, zk_6, zk_7, zk_8, zk_11, zk_12, zk_15, zk_16, zk_23, zk_24, zk_31, zk_32, zk_50, zk_255, zk_384, zk_400, zk_1023, zk_3072, zk_m1, zk_m50]; omega)]
    exact ⟨μ, rfl, h1, fr_rf⟩
  | succ d ih =>
    intro k n μ hk hn h1 h2 h3
    obtain ⟨n, rfl⟩ : ∃ j, n = j + 1 := ⟨n - 1, by omega⟩
    have hT := filt_le (fun x : Evt => decide (x.2.1 ≠ w)) E k
    have hs := take_succ_f (fun x : Evt => decide (x.2.1 ≠ w)) E ev0 k (by omega)
    generalize hTe : (E.take k).filter (fun x => decide (x.2.1 ≠ w)) = T at h1 hT hs ⊢
    show ∃ u, f_M_close_41B (f_M_close_41 n) μ w (nI T.length) (nI k) = _ ∧ _
    unfold f_M_close_41B f_M_close_68
    rw [h3, if_neg (by simp (disch := (first | omega | (simp (disch := omega) only [nI_toInt, zk_0, zk_1, zk_2, zk_3, zk_4, zk_5, zk_6, zk_7, zk_8, zk_11, zk_12, zk_15, zk_16, zk_23, zk_24, zk_31, zk_32, zk_50, zk_255, zk_384, zk_400, zk_1023, zk_3072, zk_m1, zk_m50]; omega))) only [z_le, z_lt, z_eq, z_gin, z_cl, nI_toInt, z_add, z_sub, zk_0, zk_1, zk_2, zk_3, zk_4, zk_5, zk_6, zk_7, zk_8, zk_11, zk_12, zk_15, zk_16, zk_23, zk_24, zk_31, zk_32, zk_50, zk_255, zk_384, zk_400, zk_1023, zk_3072, zk_m1, zk_m50]; omega), if_pos (gin_nI (by omega) (by omega)), nI_clamp (by omega), (h2 k (Nat.le_refl _) (by omega)).2.1]
    by_cases he : (E.getD k ev0).2.1 = w
    · rw [if_pos he]
      have hs1 : (E.take (k + 1)).filter (fun x => decide (x.2.1 ≠ w)) = T := by rw [hs, if_neg (fun h => (of_decide_eq_true h) he), List.append_nil]
      have := ih (k + 1) n μ (by omega) (by omega) (by rw [hs1]; exact h1) (fun i hi => h2 i (by omega)) h3
      rw [hs1] at this
      rw [nI_1]; exact this
    · rw [if_neg he, e_M_moveEvent μ k T.length (by omega) (by omega)]
      have hs1 : (E.take (k + 1)).filter (fun x => decide (x.2.1 ≠ w)) = T ++ [E.getD k ev0] := by rw [hs, if_pos (decide_eq_true he)]
      have hfr := cp4_fr μ 36 37 38 39 k T.length
      have := ih (k + 1) n (cp4 μ 36 37 38 39 k T.length) (by omega) (by omega) (by rw [hs1]; exact Ev_cp4_app (by omega) h1 h2) (fun i hi hi2 => by
        simp only [cp4_rest μ 36 37 38 39 k T.length _ i (by omega)]; exact h2 i (by omega) hi2) (by
        rw [hfr 19 (by decide)]; exact h3)
      rw [hs1] at this
      simp only [List.length_append, List.length_cons, List.length_nil] at this
      obtain ⟨u, e1, e2, e3⟩ := this
      refine ⟨u, ?_, e2, fr_tr hfr e3⟩
      simp only [gbv_some]
      rw [nI_1, nI_1]; exact e1
theorem M_close_hd (hw : Mwin σ W) (x : Int32) : f_M_close x σ = f_M_close_14 σ x (if opB W x then 0 else 1) := by
  unfold f_M_close f_M_close_0
  rw [e_M_isOpen hw, gb_some]
  cases opB W x with
  | false => rw [if_pos (by decide)]; rfl
  | true => rw [if_neg (by decide)]; rfl
theorem M_close_no (hR : RM σ W O P S D E X T F N M) {x : Int32} (hx : opB W x = false) : ∃ u, f_M_close x σ = some u ∧ RM u W O P S D E X T F N M ∧ modF σ u ∧ u 19 0 = 1 := by
  obtain ⟨r, m, z⟩ := RM_code hR 1
  rw [M_close_hd hR.1, hx, if_neg (by decide)]
  unfold f_M_close_14
  rw [gbm_e, z, if_neg (by decide)]
  exact ⟨_, rfl, r, m, z⟩
theorem opB_ok {w : Nat} (hw : w < 8) (ho : ¬ W w 0 = 0) : opB W (nI w) = true := (opB_iff W _).2 ⟨w, hw, rfl, ho⟩
/-- a window closed, in the windows' invariant of the order -/
theorem OI_close (hO : OI W O) {w : Nat} : OI (wset W w 0 0) (O.filter (fun x => decide (x ≠ w))) := by
  refine ⟨hO.1.filter _, fun x => ?_⟩
  rw [List.mem_filter, hO.2 x]
  simp only [decide_eq_true_eq]
  by_cases hx : x = w
  · subst hx; simp [wset]
  · simp [wset, hx]
theorem M_close_ok (hR : RM σ W O P S D E X T F N M) (hD : DI D) (hI : WI W) (hO : OI W O) {w : Nat} (hw : w < 8) (ho : ¬ W w 0 = 0) : ∃ u, f_M_close (nI w) σ = some u ∧
    RM u (wset W w 0 0) (O.filter (fun x => decide (x ≠ w))) P S (dfr D W w) (E.filter (fun x => decide (x.2.1 ≠ nI w))) X T (if F = nI w then hdI (O.filter (fun x => decide (x ≠ w))) else F) N M ∧ modF σ u ∧ u 19 0 = 0 := by
  obtain ⟨a, b, s, hi⟩ := (hI w hw).2 ho
  have hg : gin (nI w) 8 = true := gin_nI hw (by omega)
  have hc : (nI w).toNatClampNeg = w := nI_clamp (by omega)
  obtain ⟨r, m, z⟩ := RM_code hR 0
  rw [M_close_hd hR.1, opB_ok hw ho, if_pos rfl]
  unfold f_M_close_14
  rw [gbm_e, z, if_pos (by decide)]
  obtain ⟨u2, e2, r2, m2', z2⟩ := e_M_damageFrame r hD hw hi
  rw [e2, gbv_some, if_pos hg, hc, gbm_e]
  have f3 : fr [21] u2 (m2 u2 21 w 0) := fr_m2 fr_rf (by simp)
  have r3 : RM (m2 u2 21 w 0) (wset W w 0 0) (O.filter (fun x => decide (x ≠ w))) P S (dfr D W w) E X T F N M := by
    obtain ⟨rw, ro, rp, rS, rd, re, rf, rn, rs⟩ := r2
    have e19 : m2 u2 21 w 0 19 = u2 19 := f3 19 (by decide)
    refine ⟨fun w' hw' => ?_, ?_, fun w' hw' ho' a' b' s' hi' u v hu hv => ?_, fun i hi => ?_, rd.keep (by rw [e19]) (fun q h1 h2 => f3 q (by simp; omega)), re.keep (fun q h1 h2 => f3 q (by simp; omega)) (fun f _ => by rw [e19]), by rw [e19]; exact rf, by rw [e19]; exact rn, by rw [e19]; exact rs⟩
    · obtain ⟨a0, a1, a2, a3, a4, a5, a6, a7⟩ := rw w' hw'
      by_cases hww : w' = w
      · subst hww; simp [m2_at, wset, a1, a2, a3, a4, a5, a6, a7]
      · simp [m2_at, wset, hww, a0, a1, a2, a3, a4, a5, a6, a7]
    · have ro' : Mord (m2 u2 21 w 0) O M := ro.keep (f3 29 (by decide)) (by rw [e19]) (by rw [e19])
      obtain ⟨o1, o2, o3⟩ := ro'
      exact ⟨o1.filter _, fun x hx => o2 x (List.mem_filter.1 hx).1, o3⟩
    · have hne : w' ≠ w := by
        rintro rfl; apply ho'; unfold wset; simp
      have hq : ∀ f, wset W w 0 0 w' f = W w' f := fun f => by unfold wset; rw [if_neg (by omega)]
      rw [f3 30 (by decide)]
      rw [hq] at ho'
      exact rp w' hw' ho' a' b' s' (WI1_ext (fun f _ => hq f) hi') u v hu hv
    · rw [f3 20 (by decide)]; exact rS i hi
  have m3 : modF u2 (m2 u2 21 w 0) := modF_fr f3 (by decide)
  have z3 : m2 u2 21 w 0 19 0 = 0 := by rw [m2_at, if_neg (by omega), z2, z]
  generalize m2 u2 21 w 0 = u3 at r3 m3 z3 ⊢
  have hme := r3.2.2.2.2.2.1
  obtain ⟨u4, e4, v4, f4⟩ := M_cl_l E (nI w) hme.2.1 E.length 0 gN u3 (by omega) (by unfold gN; have := hme.2.1; omega) (fun i hi => by simp at hi) (fun i _ hi => hme.2.2.1 i hi) hme.1
  rw [show f_M_close_41 gN u3 (nI w) 0 0 = clE (m2 u4 19 26 (nI (E.filter (fun x => decide (x.2.1 ≠ nI w))).length)) (nI w) from e4]
  have f5 : fr [19, 36, 37, 38, 39] u3 (m2 u4 19 26 (nI (E.filter (fun x => decide (x.2.1 ≠ nI w))).length)) := fr_m2 (fr_up f4 (by decide)) (by simp)
  have s5 : fo [26] u3 (m2 u4 19 26 (nI (E.filter (fun x => decide (x.2.1 ≠ nI w))).length)) := fo_m2 (fo_fr f4 (by decide)) (by simp)
  have hle := List.length_filter_le (fun x : Evt => decide (x.2.1 ≠ nI w)) E
  have v5 : ME (m2 u4 19 26 (nI (E.filter (fun x => decide (x.2.1 ≠ nI w))).length)) (E.filter (fun x => decide (x.2.1 ≠ nI w))) X T := by
    obtain ⟨g1, g2, g3, g4, g5, g6⟩ := hme
    refine ⟨by rw [m2_at, if_pos ⟨rfl, rfl⟩], by omega, v4.keep (m2_ne _ _ _ (by decide)) (m2_ne _ _ _ (by decide)) (m2_ne _ _ _ (by decide)) (m2_ne _ _ _ (by decide)), ?_, ?_, ?_⟩
    · rw [s5 35 (by decide)]; exact g4
    · rw [s5 31 (by decide)]; exact g5
    · rw [s5 32 (by decide), s5 33 (by decide), s5 34 (by decide)]; exact g6
  generalize m2 u4 19 26 (nI (E.filter (fun x => decide (x.2.1 ≠ nI w))).length) = u5 at f5 s5 v5 ⊢
  obtain ⟨r5, m5, z5⟩ := RM_ev r3 v5 f5 (fo_up s5 (by decide))
  unfold clE f_M_close_99
  rw [r5.2.2.2.2.2.2.1, e_M_foremost r5.1 r5.2.1 (OI_close hO), gb_some, gbm_e, gbm_e]
  have mt := modF_tr m (modF_tr m2' (modF_tr m3 m5))
  by_cases hF : F = nI w
  · rw [if_pos hF, if_pos hF]
    obtain ⟨r6, m6, z6⟩ := RM_foc r5 (hdI (O.filter (fun x => decide (x ≠ w))))
    exact ⟨_, rfl, r6, modF_tr mt m6, by rw [z6, z5, z3]⟩
  · rw [if_neg hF, if_neg hF]
    obtain ⟨r6, m6, z6⟩ := RM_foc r5 F
    exact ⟨_, rfl, r6, modF_tr mt m6, by rw [z6, z5, z3]⟩
/-- move -/
theorem M_move_hd (hw : Mwin σ W) (x a b : Int32) : f_M_move x a b σ = f_M_move_32 σ x a b (if opB W x then (if nearB a b then 0 else 2) else 1) := by
  unfold f_M_move f_M_move_0 f_M_move_27
  rw [e_M_isOpen hw, gb_some, e_M_near, gb_some, e_M_near, gb_some, near_12]
  cases opB W x with
  | false => rw [if_pos (by decide)]; rfl
  | true =>
    rw [if_neg (by decide)]
    cases near1 a with
    | false => rw [if_pos (by decide)]; rfl
    | true =>
      rw [if_neg (by decide)]
      cases near1 b with
      | false => rw [if_pos (by decide)]; rfl
      | true => rw [if_neg (by decide)]; rfl
theorem M_move_no (hR : RM σ W O P S D E X T F N M) {x a b : Int32} (hx : opB W x = false) : ∃ u, f_M_move x a b σ = some u ∧ RM u W O P S D E X T F N M ∧ modF σ u ∧ u 19 0 = 1 := by
  obtain ⟨r, m, z⟩ := RM_code hR 1
  rw [M_move_hd hR.1, hx, if_neg (by decide)]
  unfold f_M_move_32
  rw [gbm_e, z, if_neg (by decide)]
  exact ⟨_, rfl, r, m, z⟩
theorem M_move_far (hR : RM σ W O P S D E X T F N M) {x a b : Int32} (hx : opB W x = true) (hn : nearB a b = false) : ∃ u, f_M_move x a b σ = some u ∧ RM u W O P S D E X T F N M ∧ modF σ u ∧ u 19 0 = 2 := by
  obtain ⟨r, m, z⟩ := RM_code hR 2
  rw [M_move_hd hR.1, hx, if_pos rfl, hn, if_neg (by decide)]
  unfold f_M_move_32
  rw [gbm_e, z, if_neg (by decide)]
  exact ⟨_, rfl, r, m, z⟩
theorem w2_WI {w : Nat} {x y : Int32} (hI : WI W) (hn : nearB x y = true) : WI (w2 W w 1 x 2 y) := by
  have hb := near_b hn
  exact WI_set (WI_set hI (Or.inl rfl) ⟨hb.1, hb.2.1⟩) (Or.inr (Or.inl rfl)) ⟨hb.2.2.1, hb.2.2.2⟩
theorem w2_WIp {w : Nat} {x y : Int32} (hI : WI W) (hn : nearB x y = true) : WI (w2 W w 6 x 7 y) := by
  have hb := near_b hn
  exact WI_set (WI_set hI (Or.inr (Or.inr (Or.inl rfl))) ⟨hb.1, hb.2.1⟩) (Or.inr (Or.inr (Or.inr rfl))) ⟨hb.2.2.1, hb.2.2.2⟩
theorem M_move_ok (hR : RM σ W O P S D E X T F N M) (hD : DI D) (hI : WI W) {w : Nat} {x y : Int32} (hw : w < 8) (ho : ¬ W w 0 = 0) (hn : nearB x y = true) : ∃ u, f_M_move (nI w) x y σ = some u ∧
    RM u (w2 W w 1 x 2 y) O P S (dfr (dfr D W w) (w2 W w 1 x 2 y) w) E X T F N M ∧ modF σ u ∧ u 19 0 = 0 := by
  have hb := near_b hn
  obtain ⟨a, b, s, hi⟩ := (hI w hw).2 ho
  have hg : gin (nI w) 8 = true := gin_nI hw (by omega)
  have hc : (nI w).toNatClampNeg = w := nI_clamp (by omega)
  obtain ⟨r, m, z⟩ := RM_code hR 0
  rw [M_move_hd hR.1, opB_ok hw ho, if_pos rfl, hn, if_pos rfl]
  unfold f_M_move_32
  rw [gbm_e, z, if_pos (by decide)]
  obtain ⟨u2, e2, r2, m2', z2⟩ := e_M_damageFrame r hD hw hi
  rw [e2, gbv_some, if_pos hg, hc, gbm_e, if_pos hg, gbm_e]
  obtain ⟨r3, m3, z3⟩ := RM_set r2 hI (w := w) (f := 1) (q := 22) x (by omega)
  obtain ⟨r4, m4, z4⟩ := RM_set r3 (WI_set hI (Or.inl rfl) ⟨hb.1, hb.2.1⟩) (w := w) (f := 2) (q := 23) y (by omega)
  have ho' : ¬ w2 W w 1 x 2 y w 0 = 0 := by unfold w2 wset; simpa using ho
  obtain ⟨a', b', s', hi'⟩ := (w2_WI (w := w) hI hn w hw).2 ho'
  obtain ⟨u5, e5, r5, m5, z5⟩ := e_M_damageFrame r4 (DI_add hD _ _ _ _) hw hi'
  rw [e5, gbv_some]
  exact ⟨u5, rfl, r5, modF_tr m (modF_tr m2' (modF_tr m3 (modF_tr m4 m5))), by rw [z5, z4, z3, z2, z]⟩
/-- pen -/
theorem M_pen_hd (hw : Mwin σ W) (x a b : Int32) : f_M_pen x a b σ = f_M_pen_32 σ x a b (if opB W x then (if nearB a b then 0 else 2) else 1) := by
  unfold f_M_pen f_M_pen_0 f_M_pen_27
  rw [e_M_isOpen hw, gb_some, e_M_near, gb_some, e_M_near, gb_some, near_12]
  cases opB W x with
  | false => rw [if_pos (by decide)]; rfl
  | true =>
    rw [if_neg (by decide)]
    cases near1 a with
    | false => rw [if_pos (by decide)]; rfl
    | true =>
      rw [if_neg (by decide)]
      cases near1 b with
      | false => rw [if_pos (by decide)]; rfl
      | true => rw [if_neg (by decide)]; rfl
theorem M_pen_no (hR : RM σ W O P S D E X T F N M) {x a b : Int32} (hx : opB W x = false) : ∃ u, f_M_pen x a b σ = some u ∧ RM u W O P S D E X T F N M ∧ modF σ u ∧ u 19 0 = 1 := by
  obtain ⟨r, m, z⟩ := RM_code hR 1
  rw [M_pen_hd hR.1, hx, if_neg (by decide)]
  unfold f_M_pen_32 f_M_pen_56
  rw [gbm_e, z, if_neg (by decide)]
  exact ⟨_, rfl, r, m, z⟩
theorem M_pen_far (hR : RM σ W O P S D E X T F N M) {x a b : Int32} (hx : opB W x = true) (hn : nearB a b = false) : ∃ u, f_M_pen x a b σ = some u ∧ RM u W O P S D E X T F N M ∧ modF σ u ∧ u 19 0 = 2 := by
  obtain ⟨r, m, z⟩ := RM_code hR 2
  rw [M_pen_hd hR.1, hx, if_pos rfl, hn, if_neg (by decide)]
  unfold f_M_pen_32 f_M_pen_56
  rw [gbm_e, z, if_neg (by decide)]
  exact ⟨_, rfl, r, m, z⟩
theorem M_pen_ok (hR : RM σ W O P S D E X T F N M) (hI : WI W) {w : Nat} {x y : Int32} (hw : w < 8) (ho : ¬ W w 0 = 0) (hn : nearB x y = true) : ∃ u, f_M_pen (nI w) x y σ = some u ∧
    RM u (w2 W w 6 x 7 y) O P S D E X T F N M ∧ modF σ u ∧ u 19 0 = 0 := by
  have hb := near_b hn
  have hg : gin (nI w) 8 = true := gin_nI hw (by omega)
  have hc : (nI w).toNatClampNeg = w := nI_clamp (by omega)
  obtain ⟨r, m, z⟩ := RM_code hR 0
  rw [M_pen_hd hR.1, opB_ok hw ho, if_pos rfl, hn, if_pos rfl]
  unfold f_M_pen_32 f_M_pen_56
  rw [gbm_e, z, if_pos rfl, if_pos hg, hc, gbm_e, if_pos hg, gbm_e]
  obtain ⟨r3, m3, z3⟩ := RM_set r hI (w := w) (f := 6) (q := 26) x (by omega)
  obtain ⟨r4, m4, z4⟩ := RM_set r3 (WI_set hI (Or.inr (Or.inr (Or.inl rfl))) ⟨hb.1, hb.2.1⟩) (w := w) (f := 7) (q := 27) y (by omega)
  exact ⟨_, rfl, r4, modF_tr m (modF_tr m3 m4), by rw [z4, z3, z]⟩
/-- screen, at -/
theorem M_screen_no (hR : RM σ W O P S D E X T F N M) {x y : Int32} (h : scrB x y = false) : ∃ r u, f_M_screen x y σ = some (r, u) ∧ RM u W O P S D E X T F N M ∧ modF σ u ∧ u 19 0 = 1 := by
  obtain ⟨r, m, z⟩ := RM_code hR 1
  unfold f_M_screen f_M_screen_0 f_M_screen_14 f_M_screen_39
  rw [e_M_onScreen, gb_some, h, if_pos (by decide), gbm_e, z, if_neg (by decide)]
  exact ⟨_, _, rfl, r, m, z⟩
theorem M_screen_ok (hR : RM σ W O P S D E X T F N M) {m n : Nat} (hm : m < 24) (hn : n < 16) (h : scrB (nI m) (nI n) = true) : ∃ u, f_M_screen (nI m) (nI n) σ = some (S (n * 24 + m), u) ∧ RM u W O P S D E X T F N M ∧ modF σ u ∧ u 19 0 = 0 := by
  obtain ⟨r, mf, z⟩ := RM_code hR 0
  unfold f_M_screen f_M_screen_0 f_M_screen_14 f_M_screen_39
  rw [e_M_onScreen, gb_some, h, if_neg (by decide), gbm_e, z, if_pos rfl, show (24 : Int32) = nI 24 from rfl, pk_mul, nI_add, if_pos (gin_nI (by omega) (by omega)), nI_clamp (by omega), r.2.2.2.1 _ (by omega), show 24 * n + m = n * 24 + m by omega]
  exact ⟨_, rfl, r, mf, z⟩
theorem M_at_no (hR : RM σ W O P S D E X T F N M) {x y : Int32} (h : scrB x y = false) : ∃ r u, f_M_at x y σ = some (r, u) ∧ RM u W O P S D E X T F N M ∧ modF σ u ∧ u 19 0 = 1 := by
  obtain ⟨r, m, z⟩ := RM_code hR 1
  unfold f_M_at f_M_at_0 f_M_at_14 f_M_at_34
  rw [e_M_onScreen, gb_some, h, if_pos (by decide), gbm_e, z, if_neg (by decide)]
  exact ⟨_, _, rfl, r, m, z⟩
theorem M_at_ok (hR : RM σ W O P S D E X T F N M) (hO : OI W O) {x y : Int32} (h : scrB x y = true) : ∃ u, f_M_at x y σ = some (owI (O.find? (cov W x y)), u) ∧ RM u W O P S D E X T F N M ∧ modF σ u ∧ u 19 0 = 0 := by
  obtain ⟨r, mf, z⟩ := RM_code hR 0
  unfold f_M_at f_M_at_0 f_M_at_14 f_M_at_34
  rw [e_M_onScreen, gb_some, h, if_neg (by decide), gbm_e, z, if_pos rfl, e_M_owner r.1 r.2.1 hO, gb_some]
  exact ⟨_, rfl, r, mf, z⟩
/-- picture -/
theorem M_picture_no (hR : RM σ W O P S D E X T F N M) {w x y : Int32} (hw : opB W w = false) : ∃ r u, f_M_picture w x y σ = some (r, u) ∧ RM u W O P S D E X T F N M ∧ modF σ u ∧ u 19 0 = 1 := by
  obtain ⟨r, m, z⟩ := RM_code hR 1
  unfold f_M_picture f_M_picture_0 f_M_picture_28 f_M_picture_59
  rw [e_M_isOpen hR.1, gb_some, hw, if_pos (by decide), gbm_e, z, if_neg (by decide)]
  exact ⟨_, _, rfl, r, m, z⟩
theorem M_picture_out (hR : RM σ W O P S D E X T F N M) {w : Nat} {x y : Int32} (hw : w < 8) (ho : ¬ W w 0 = 0) (hh : hasW W w x y = false) : ∃ r u, f_M_picture (nI w) x y σ = some (r, u) ∧ RM u W O P S D E X T F N M ∧ modF σ u ∧ u 19 0 = 2 := by
  obtain ⟨r, m, z⟩ := RM_code hR 2
  unfold f_M_picture f_M_picture_0 f_M_picture_28 f_M_picture_59
  rw [e_M_isOpen hR.1, gb_some, opB_ok hw ho, if_neg (by decide), e_M_inPicture hR.1 hw, gb_some, hh, if_pos (by decide), gbm_e, z, if_neg (by decide)]
  exact ⟨_, _, rfl, r, m, z⟩
theorem pic_idx (w m n : Nat) : (384 : Int32) * nI w + 24 * nI n + nI m = nI (384 * w + 24 * n + m) := by
  rw [show (384 : Int32) = nI 384 from rfl, show (24 : Int32) = nI 24 from rfl, pk_mul, pk_mul, nI_add, nI_add]
theorem M_picture_ok (hR : RM σ W O P S D E X T F N M) {w m n : Nat} (hw : w < 8) (ho : ¬ W w 0 = 0) (hh : hasW W w (nI m) (nI n) = true) {a b s : Nat} (hi : WI1 W w a b s) (hm : m < a) (hn : n < b) : ∃ u, f_M_picture (nI w) (nI m) (nI n) σ = some (P w m n, u) ∧ RM u W O P S D E X T F N M ∧ modF σ u ∧ u 19 0 = 0 := by
  obtain ⟨r, mf, z⟩ := RM_code hR 0
  have ha := hi.2.2.2.2.1
  have hb := hi.2.2.2.2.2.2.1
  unfold f_M_picture f_M_picture_0 f_M_picture_28 f_M_picture_59
  rw [e_M_isOpen hR.1, gb_some, opB_ok hw ho, if_neg (by decide), e_M_inPicture hR.1 hw, gb_some, hh, if_neg (by decide), gbm_e, z, if_pos rfl, pic_idx, if_pos (gin_nI (by omega) (by omega)), nI_clamp (by omega), r.2.2.1 w hw ho a b s hi m n hm hn]
  exact ⟨_, rfl, r, mf, z⟩
/-- raise -/
theorem M_raise_no (hR : RM σ W O P S D E X T F N M) {w x : Int32} (hw : opB W w = false) : ∃ r u, f_M_raise w x σ = some (r, u) ∧ RM u W O P S D E X T F N M ∧ modF σ u ∧ u 19 0 = 1 := by
  obtain ⟨r, m, z⟩ := RM_code hR 1
  unfold f_M_raise f_M_raise_0 f_M_raise_14 f_M_raise_37 f_M_raise_38
  rw [e_M_isOpen hR.1, gb_some, hw, if_pos (by decide), gbm_e, z, if_neg (by decide), if_pos (by decide)]
  exact ⟨_, _, rfl, r, m, z⟩
theorem M_raise_ok (hR : RM σ W O P S D E X T F N M) (hD : DI D) (hI : WI W) (hO : OI W O) (hM : M ≤ 1000000) {w : Nat} (hw : w < 8) (ho : ¬ W w 0 = 0) (x : Int32) : ∃ u, f_M_raise (nI w) x σ = some (bI (rch O w (!decide (x = 0))), u) ∧ RM u W (rord O w (!decide (x = 0))) P S (rdm D W O w (!decide (x = 0))) E X T F N (M + 1) ∧ modF σ u ∧ u 19 0 = 0 := by
  obtain ⟨r, m, z⟩ := RM_code hR 0
  unfold f_M_raise f_M_raise_0 f_M_raise_14 f_M_raise_37 f_M_raise_38
  obtain ⟨u, e1, r1, m1, z1⟩ := e_M_lift r hD hI hO hM hw ho x
  rw [e_M_isOpen hR.1, gb_some, opB_ok hw ho, if_neg (by decide), gbm_e, z, if_pos rfl, e1, gb_some]
  refine ⟨u, ?_, r1, modF_tr m m1, z1.trans z⟩
  cases rch O w (!decide (x = 0)) with
  | false => rw [if_pos (by decide), if_pos (by decide)]; rfl
  | true => rw [if_neg (by decide), if_pos (by decide)]; rfl
end MH
