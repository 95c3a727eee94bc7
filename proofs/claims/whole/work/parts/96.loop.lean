/-! Pure part: raise and plot once more; the law's turns; the law's loop; the start. -/
section MS
variable {σ : Mem} {M : Int}
def AgB (fL fM : Mem → Option (Int32 × Mem)) (σ : Mem) (M : Int) : Prop := ∃ c u v w, fL σ = some (c, u) ∧ fM u = some (v, w) ∧ w 19 0 = c ∧ (c = 0 → w 40 0 = v ∧ (v = 0 ∨ v = 1)) ∧ Inv w (M + 1)
theorem ab_ok {W : Wnd} {O : List Nat} {P : Nat → Nat → Nat → Int32} {S : Nat → Int32} {D E : List Evt} {X : Int32} {T : Evt} {F N : Int32} {W' : Wnd} {O' : List Nat} {P' : Nat → Nat → Nat → Int32} {S' : Nat → Int32} {D' E' : List Evt} {X' : Int32} {T' : Evt} {F' N' : Int32} {fL fM : Mem → Option (Int32 × Mem)} {r : Int32} {u : Mem} (hr : r = 0 ∨ r = 1) (hL : fL σ = some (0, m2 u 40 0 r)) (hc : clsF σ u) (hC : RC u W' O' P' S' D' E' X' T' F' N') (hR : RM σ W O P S D E X T F N M) (hI : AI W' O' D' E' F') (hM : ∀ μ, RM μ W O P S D E X T F N M → ∃ w, fM μ = some (r, w) ∧ RM w W' O' P' S' D' E' X' T' F' N' (M + 1) ∧ modF μ w ∧ w 19 0 = 0) : AgB fL fM σ M := by
  have h40 : fr [40] u (m2 u 40 0 r) := fr_m2 fr_rf (by simp)
  have hR2 : RM (m2 u 40 0 r) W O P S D E X T F N M := RM_keep hR (fun q h1 h2 => (h40 q (by simp; omega)).trans (hc q h1 (by omega)))
  obtain ⟨w, e1, r1, m1, z1⟩ := hM _ hR2
  refine ⟨0, _, r, w, hL, e1, z1, fun _ => ⟨?_, hr⟩, W', O', P', S', D', E', X', T', F', N', RC_keep hC (fun q hq => ?_), r1, hI⟩
  · rw [m1 40 (by omega), m2_at, if_pos ⟨rfl, rfl⟩]
  · rw [m1 q (by omega), h40 q (by simp; omega)]
theorem ab_ex {W : Wnd} {O : List Nat} {P : Nat → Nat → Nat → Int32} {S : Nat → Int32} {D E : List Evt} {X : Int32} {T : Evt} {F N : Int32} {fL fM : Mem → Option (Int32 × Mem)} {c : Int32} (hL : fL σ = some (c, σ)) (hc : ¬ c = 0) (hC : RC σ W O P S D E X T F N) (hI : AI W O D E F) (hM : ∃ v w, fM σ = some (v, w) ∧ RM w W O P S D E X T F N M ∧ modF σ w ∧ w 19 0 = c) : AgB fL fM σ M := by
  obtain ⟨v, w, e1, r1, m1, z1⟩ := hM
  exact ⟨c, σ, v, w, hL, e1, z1, fun h => absurd h hc, W, O, P, S, D, E, X, T, F, N, RC_keep hC (fun q hq => m1 q (by omega)), RM_more r1, hI⟩
theorem bI_01 (b : Bool) : bI b = 0 ∨ bI b = 1 := by cases b <;> decide
theorem B_raise (h : Inv σ M) (hM : M ≤ 100000) (x a : Int32) : AgB (f_L_raise x a) (f_M_raise x a) σ M := by
  obtain ⟨W, O, P, S, D, E, X, T, F, N, hC, hR, hI⟩ := h
  rcases op_cases W x with ho | ⟨w, hw, rfl, ho⟩
  · refine ab_ex (c := 1) ?_ (by decide) hC hI (M_raise_no hR ho)
    unfold f_L_raise f_L_raise_0; rw [C_raise_no hC ho, gbx_r]; rfl
  · obtain ⟨u, eC, rC, cC⟩ := C_raise_ok hC hI.2.2.1 hw ho a
    refine ab_ok (u := u) (bI_01 _) ?_ cC rC hR (AI_ord hI hw ho _ hI.2.2.2.2.1 hI.2.2.2.2.2) (fun μ hμ => M_raise_ok hμ hI.2.2.2.1 hI.1 hI.2.2.1 (by omega) hw ho a)
    unfold f_L_raise f_L_raise_0 f_L_raise_16; rw [eC, gbx_l]
    cases rch O w (!decide (a = 0)) with
    | false => rw [if_pos (by decide)]; rfl
    | true => rw [if_neg (by decide)]; rfl
theorem B_plot (h : Inv σ M) (x a b c : Int32) : AgB (f_L_plot x a b c) (f_M_plot x a b c) σ M := by
  obtain ⟨W, O, P, S, D, E, X, T, F, N, hC, hR, hI⟩ := h
  rcases op_cases W x with ho | ⟨w, hw, rfl, ho⟩
  · refine ab_ex (c := 1) ?_ (by decide) hC hI (M_plot_no hR ho)
    unfold f_L_plot f_L_plot_0; rw [C_plot_no hC ho, gbx_r]; rfl
  · rcases bt (colB c) with hn | hn
    · refine ab_ex (c := 2) ?_ (by decide) hC hI (M_plot_bad hR (opB_ok hw ho) hn)
      unfold f_L_plot f_L_plot_0; rw [C_plot_col hC hw ho hn, gbx_r]; rfl
    · rcases bt (hasW W w a b) with hh | hh
      · refine ab_ok (r := 0) (u := σ) (Or.inl rfl) ?_ clsF_rf hC hR hI (fun μ hμ => by
          obtain ⟨u, e1, r1, m1⟩ := M_plot_out hμ hI.2.2.2.1 hI.1 hw ho hn hh
          exact ⟨u, e1, RM_more r1, m1⟩)
        unfold f_L_plot f_L_plot_0 f_L_plot_20; rw [C_plot_out hC hw ho hn hh, gbx_l]; rfl
      · obtain ⟨a', b', s, hi⟩ := (hI.1 w hw).2 ho
        obtain ⟨m, n, rfl, rfl, hma, hnb⟩ := has_nat hi hh
        obtain ⟨u, eC, rC, cC⟩ := C_plot_ok hC hI.1 hI.2.1 hw ho hn hh hi hma hnb
        refine ab_ok (r := 1) (u := u) (Or.inr rfl) ?_ cC rC hR (AI_dmg hI (DI_add hI.2.2.2.1 _ _ _ _)) (fun μ hμ => by
          obtain ⟨u, e1, r1, m1⟩ := M_plot_ok hμ hI.2.2.2.1 hw ho hn hh hi hma hnb
          exact ⟨u, e1, RM_more r1, m1⟩)
        unfold f_L_plot f_L_plot_0 f_L_plot_20; rw [eC, gbx_l]; rfl
theorem turn_b {fL fM : Mem → Option (Int32 × Mem)} {G : Mem → Option Unit} (h : AgB fL fM σ M) (hG : ∀ w, Inv w (M + 1) → G w ≠ none) : (gb (fL σ) fun r1 u2 => gb (fM u2) fun r4 u3 => gb (f_M_thrown u3) fun r6 u5 => if r6 = r1 then (if r1 = 0 then (if r4 = 0 then (if (lg_cmp ((u5 40 (0 : Int32).toNatClampNeg) : Int32).toInt64 ((0 : Int32)).toInt64) = 0 then G u5 else none) else (if (lg_cmp ((u5 40 (0 : Int32).toNatClampNeg) : Int32).toInt64 ((1 : Int32)).toInt64) = 0 then G u5 else none)) else G u5) else none) ≠ none := by
  obtain ⟨c, u, v, w, e1, e2, e3, e4, e5⟩ := h
  rw [e1, gb_some, e2, gb_some, e_thrown, gb_some, if_pos e3]
  by_cases hc : c = 0
  · obtain ⟨k1, k2⟩ := e4 hc
    rw [if_pos hc, c00, k1]
    rcases k2 with rfl | rfl
    · rw [if_pos rfl, if_pos (lgc _)]; exact hG w e5
    · rw [if_neg (by decide), if_pos (lgc _)]; exact hG w e5
  · rw [if_neg hc]; exact hG w e5
theorem ite_nn {p : Prop} [Decidable p] {a b : Option Unit} (ha : a ≠ none) (hb : b ≠ none) : (if p then a else b) ≠ none := by
  by_cases h : p
  · rw [if_pos h]; exact ha
  · rw [if_neg h]; exact hb
theorem law_l (xs : Nat → Int32) (L : Nat) (hL : L ≤ 3072) : ∀ (d t n : Nat) (σ : Mem), t + d = 600 → d < n → Inv σ t → f_L_law_23 xs L n σ (nI (6 * t)) ≠ none := by
  intro d
  induction d with
  | zero =>
    intro t n σ h1 h2 h
    obtain ⟨n, rfl⟩ : ∃ j, n = j + 1 := ⟨n - 1, by omega⟩
    show f_L_law_23B xs L (f_L_law_23 xs L n) σ (nI (6 * t)) ≠ none
    unfold f_L_law_23B
    have e6 : (nI L - 6).toInt = (L : Int) - 6 := by
      rw [z_sub] <;> rw [nI_toInt (by omega), show (6 : Int32).toInt = 6 by decide] <;> omega
    rw [if_pos (show Int32.ofNat L - 6 < nI (6 * t) from z_lt.2 (by rw [show (Int32.ofNat L - 6 : Int32).toInt = (L : Int) - 6 from e6, nI_toInt (by omega)]; omega))]
    exact fun h => by cases h
  | succ d ih =>
    intro t n σ h1 h2 h
    obtain ⟨n, rfl⟩ : ∃ j, n = j + 1 := ⟨n - 1, by omega⟩
    show f_L_law_23B xs L (f_L_law_23 xs L n) σ (nI (6 * t)) ≠ none
    have e6 : (nI L - 6).toInt = (L : Int) - 6 := by
      rw [z_sub] <;> rw [nI_toInt (by omega), show (6 : Int32).toInt = 6 by decide] <;> omega
    by_cases hend : Int32.ofNat L - 6 < nI (6 * t)
    · unfold f_L_law_23B; rw [if_pos hend]; exact fun h => by cases h
    · have hlt : 6 * t + 6 ≤ L := by
        rw [z_lt, show (Int32.ofNat L - 6 : Int32).toInt = (L : Int) - 6 from e6, nI_toInt (by omega)] at hend; omega
      have g0 : gin (nI (6 * t)) L = true := gin_nI (by omega) (by omega)
      have g1 : gin (nI (6 * t) + 1) L = true := by rw [nI_1]; exact gin_nI (by omega) (by omega)
      have g2 : gin (nI (6 * t) + 2) L = true := by rw [show (2 : Int32) = nI 2 from rfl, nI_add]; exact gin_nI (by omega) (by omega)
      have g3 : gin (nI (6 * t) + 3) L = true := by rw [show (3 : Int32) = nI 3 from rfl, nI_add]; exact gin_nI (by omega) (by omega)
      have g4 : gin (nI (6 * t) + 4) L = true := by rw [show (4 : Int32) = nI 4 from rfl, nI_add]; exact gin_nI (by omega) (by omega)
      have g5 : gin (nI (6 * t) + 5) L = true := by rw [show (5 : Int32) = nI 5 from rfl, nI_add]; exact gin_nI (by omega) (by omega)
      have hG : ∀ w, Inv w ((t : Int) + 1) → f_L_law_1360 xs L (f_L_law_23 xs L n) w (nI (6 * t)) ≠ none := fun w hw => by
        unfold f_L_law_1360
        rw [show nI (6 * t) + 6 = nI (6 * (t + 1)) by rw [show (6 : Int32) = nI 6 from rfl, nI_add, show 6 * t + 6 = 6 * (t + 1) by omega]]
        exact ih (t + 1) n w (by omega) (by omega) (by rw [show ((t + 1 : Nat) : Int) = (t : Int) + 1 by omega]; exact hw)
      have hM : (t : Int) ≤ 100000 := by omega
      unfold f_L_law_23B
      rw [if_neg hend, if_pos g0]
      generalize f_L_law_23 xs L n = K at hG
      generalize nI (6 * t) = x4 at g1 g2 g3 g4 g5 hG
      simp only [gsw]
      refine ite_nn ?_ (ite_nn ?_ (ite_nn ?_ (ite_nn ?_ (ite_nn ?_ (ite_nn ?_ (ite_nn ?_ (ite_nn ?_ (ite_nn ?_ (ite_nn ?_ (ite_nn ?_ (ite_nn ?_ (ite_nn ?_ (ite_nn ?_ (ite_nn ?_ (ite_nn ?_ (ite_nn ?_ (ite_nn ?_ (ite_nn ?_ ?_))))))))))))))))))
      · unfold f_L_law_132 f_L_law_221; simp only [if_pos g1, if_pos g2, if_pos g3, if_pos g4]; exact turn_v (A_open h hM _ _ _ _) hG
      · unfold f_L_law_224; simp only [if_pos g1]; exact turn_n (A_close h _) hG
      · unfold f_L_law_260; simp only [if_pos g1, if_pos g2, if_pos g3]; exact turn_n (A_move h _ _ _) hG
      · unfold f_L_law_320 f_L_law_341 f_L_law_368 f_L_law_402 f_L_law_408; simp only [if_pos g1, if_pos g2]
        by_cases hx : xs (x4 + 2).toNatClampNeg = 0
        · simp only [if_pos hx]; exact turn_b (B_raise h hM _ _) hG
        · simp only [if_neg hx]; exact turn_b (B_raise h hM _ _) hG
      · unfold f_L_law_411 f_L_law_501 f_L_law_507; simp only [if_pos g1, if_pos g2, if_pos g3, if_pos g4]; exact turn_b (B_plot h _ _ _ _) hG
      · unfold f_L_law_510 f_L_law_611; simp only [if_pos g1, if_pos g2, if_pos g3, if_pos g4, if_pos g5]; exact turn_v (A_fill h _ _ _ _ _) hG
      · unfold f_L_law_614; simp only [if_pos g1, if_pos g2, if_pos g3]; exact turn_n (A_pen h _ _ _) hG
      · unfold f_L_law_674 f_L_law_763; simp only [if_pos g1, if_pos g2, if_pos g3, if_pos g4]; exact turn_v (A_line h _ _ _ _) hG
      · unfold f_L_law_766; simp only [if_pos g1, if_pos g2, if_pos g3]; exact turn_n (A_scroll h _ _ _) hG
      · unfold f_L_law_826
        obtain ⟨r, u, w, e1, e2, e3⟩ := A_flush h
        rw [e1, gb_some, e2, gb_some, if_pos rfl]; exact hG w e3
      · unfold f_L_law_839 f_L_law_904; simp only [if_pos g1, if_pos g2]; exact turn_v (A_screen h _ _) hG
      · unfold f_L_law_907 f_L_law_984; simp only [if_pos g1, if_pos g2, if_pos g3]; exact turn_v (A_picture h _ _ _) hG
      · unfold f_L_law_987 f_L_law_1052; simp only [if_pos g1, if_pos g2]; exact turn_v (A_at h _ _) hG
      · unfold f_L_law_1055 f_L_law_1108; simp only [if_pos g1]; exact turn_v (A_visible h _) hG
      · unfold f_L_law_1111 f_L_law_1176; simp only [if_pos g1, if_pos g2]; exact turn_v (A_click h hM _ _) hG
      · unfold f_L_law_1179; simp only [if_pos g1]
        obtain ⟨r, u, w, e1, e2, e3⟩ := A_key h (xs (x4 + 1).toNatClampNeg)
        rw [e1, gb_some, e2, gb_some, if_pos rfl]; exact hG w e3
      · unfold f_L_law_1204 f_L_law_1245; exact turn_v (A_next h) hG
      · unfold f_L_law_1248 f_L_law_1301; simp only [if_pos g1]; exact turn_v (A_event h _) hG
      · unfold f_L_law_1304 f_L_law_1357; simp only [if_pos g1]; exact turn_v (A_figure h _) hG
      · obtain ⟨W, O, P, S, D, E, X, T, F, N, hC, hR, hI⟩ := h
        exact hG σ ⟨W, O, P, S, D, E, X, T, F, N, hC, RM_more hR, hI⟩
def W0 : Wnd := fun _ _ => 0
theorem Inv0 : Inv gS0 0 := by
  refine ⟨W0, [], fun _ _ _ => 0, fun _ => 0, [], [], 0, (-1, 0, 0, 0), -1, 0, ⟨fun w hw f hf => ?_, ⟨rfl, by simp, fun i hi => by simp at hi⟩, fun c hc => ?_, fun w hw ho => absurd rfl ho, fun i hi => rfl, ⟨rfl, by simp, fun i hi => by simp at hi⟩, ⟨rfl, by simp, fun i hi => by simp at hi, rfl, rfl, rfl, rfl, rfl⟩, rfl, rfl⟩, ⟨fun w hw => ⟨rfl, rfl, rfl, rfl, rfl, rfl, rfl, rfl⟩, ⟨List.Pairwise.nil, fun w hw => by (cases hw), by decide, by decide, by decide, by decide⟩, fun w hw ho => absurd rfl ho, fun i hi => rfl, ⟨rfl, by simp, fun i hi => by simp at hi⟩, ⟨rfl, by simp, fun i hi => by simp at hi, rfl, rfl, fun h => absurd rfl h⟩, rfl, rfl, rfl⟩, ⟨fun w hw => ⟨Or.inl rfl, fun ho => absurd rfl ho⟩, fun w hw w' hw' hne c hc hb => blk_closed rfl, ⟨List.nodup_nil, fun w => ?_⟩, DI_nil, fun e he => by (cases he), Or.inl rfl⟩⟩
  · rcases (show w = 0 ∨ w = 1 ∨ w = 2 ∨ w = 3 ∨ w = 4 ∨ w = 5 ∨ w = 6 ∨ w = 7 by omega) with rfl | rfl | rfl | rfl | rfl | rfl | rfl | rfl <;> rfl
  · have : frW W0 c = true := (frW_iff W0 c).2 (fun i _ => blk_closed rfl)
    rw [this]; rfl
  · constructor
    · intro h; cases h
    · rintro ⟨-, h⟩; exact absurd rfl h
theorem pure_law (xs : Nat → Int32) (L : Nat) (hL : L ≤ 3072) : f_L_law_23 xs L gN gS0 0 ≠ none :=
  law_l xs L hL 600 0 gN gS0 rfl (by unfold gN; omega) Inv0
end MS
