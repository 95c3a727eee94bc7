/-! Pure part: every call of the law agrees on both sides. -/
section MQ
variable {σ : Mem} {M : Int}
theorem op_cases (W : Wnd) (x : Int32) : opB W x = false ∨ ∃ w, w < 8 ∧ x = nI w ∧ ¬ W w 0 = 0 := by
  cases h : opB W x with
  | false => exact Or.inl rfl
  | true => exact Or.inr ((opB_iff W x).1 h)
theorem bt (b : Bool) : b = false ∨ b = true := by cases b <;> simp
theorem A_open (h : Inv σ M) (hM : M ≤ 100000) (x y a b : Int32) : AgV (f_L_open x y a b) (f_M_open x y a b) σ M := by
  obtain ⟨W, O, P, S, D, E, X, T, F, N, hC, hR, hI⟩ := h
  rcases bt (nearB x y && sizeB a b) with hb | hb
  · have hb' : nearB x y = false ∨ sizeB a b = false := by
      cases h1 : nearB x y with
      | false => exact Or.inl rfl
      | true => right; rw [h1] at hb; simpa using hb
    refine ag_ex (c := 1) ?_ (by decide) hC hI ?_
    · unfold f_L_open f_L_open_0; rw [C_open_bad hb', gbx_r]; rfl
    · obtain ⟨u, e1, r1⟩ := M_open_bad hR hb'; exact ⟨_, u, e1, r1⟩
  · rw [Bool.and_eq_true] at hb
    by_cases hf : lcD W 8 0 = 8 ∨ ffind (frW W) (a * b) 400 0 0 = -1
    · refine ag_ex (c := 2) ?_ (by decide) hC hI ?_
      · unfold f_L_open f_L_open_0; rw [C_open_full hC.1 hC.2.2.1 hb.1 hb.2 hf, gbx_r]; rfl
      · obtain ⟨u, e1, r1⟩ := M_open_full hR hb.1 hb.2 hf; exact ⟨_, u, e1, r1⟩
    · obtain ⟨m, n, rfl, rfl, hm1, hm2, hn1, hn2⟩ := size_b hb.2
      have hmn : m * n ≤ 384 := Nat.mul_le_mul hm2 hn2
      have hmn1 : 1 ≤ m * n := Nat.mul_le_mul hm1 hn1
      have hl := lcD_spec W 8 0
      have hsp := ffind_spec (frW W) (m * n) hmn1 (by omega) 400 0 0 rfl (Nat.le_refl _) (by omega) (fun c h1 h2 => by omega)
      have hpk : nI m * nI n = nI (m * n) := pk_mul m n
      rcases hsp with hsp | ⟨s, e1, e2, e3⟩
      · exact absurd (Or.inr (by rw [hpk]; exact hsp)) hf
      · have hk8 : lcD W 8 0 < 8 := by have := hl.2.1; omega
        have hff : ffind (frW W) (nI m * nI n) 400 0 0 = nI s := by rw [hpk]; exact e1
        obtain ⟨u, eC, rC, cC⟩ := C_open_ok hC hI.1 hI.2.2.1 hb.1 ⟨hm1, hm2⟩ ⟨hn1, hn2⟩ rfl hk8 hff e2 e3
        refine ag_ok (r := nI (lcD W 8 0)) (u := u) ?_ cC rC hR (AI_open hI hb.1 ⟨hm1, hm2⟩ ⟨hn1, hn2⟩ hk8 (hl.2.2 (by omega)) e2 e3 _ _ _ _) (fun μ hμ => M_open_ok hμ hI.2.2.2.1 hI.2.2.1 (by omega) hb.1 ⟨hm1, hm2⟩ ⟨hn1, hn2⟩ rfl hk8 hff e2)
        unfold f_L_open f_L_open_0; rw [eC, gbx_l]; rfl
theorem A_close (h : Inv σ M) (x : Int32) : AgN (f_L_close x) (f_M_close x) σ M := by
  obtain ⟨W, O, P, S, D, E, X, T, F, N, hC, hR, hI⟩ := h
  rcases op_cases W x with ho | ⟨w, hw, rfl, ho⟩
  · refine an_ex (c := 1) ?_ hC hI (M_close_no hR ho)
    unfold f_L_close f_L_close_0; rw [C_close_no hC ho, gbx_r]; rfl
  · obtain ⟨u, eC, rC, cC⟩ := C_close_ok hC hI.1 hI.2.1 hI.2.2.1 hw ho
    refine an_ok (u := u) ?_ cC rC hR (AI_close hI w _) (fun μ hμ => M_close_ok hμ hI.2.2.2.1 hI.1 hI.2.2.1 hw ho)
    unfold f_L_close f_L_close_0; rw [eC, gbx_l]
theorem A_move (h : Inv σ M) (x a b : Int32) : AgN (f_L_move x a b) (f_M_move x a b) σ M := by
  obtain ⟨W, O, P, S, D, E, X, T, F, N, hC, hR, hI⟩ := h
  rcases op_cases W x with ho | ⟨w, hw, rfl, ho⟩
  · refine an_ex (c := 1) ?_ hC hI (M_move_no hR ho)
    unfold f_L_move f_L_move_0; rw [C_move_no hC ho, gbx_r]; rfl
  · rcases bt (nearB a b) with hn | hn
    · refine an_ex (c := 2) ?_ hC hI (M_move_far hR (opB_ok hw ho) hn)
      unfold f_L_move f_L_move_0; rw [C_move_far hC hw ho hn, gbx_r]; rfl
    · obtain ⟨u, eC, rC, cC⟩ := C_move_ok hC hI.1 hw ho hn
      refine an_ok (u := u) ?_ cC rC hR (AI_move hI hn (DI_fr (DI_fr hI.2.2.2.1 w) w)) (fun μ hμ => M_move_ok hμ hI.2.2.2.1 hI.1 hw ho hn)
      unfold f_L_move f_L_move_0; rw [eC, gbx_l]
theorem A_pen (h : Inv σ M) (x a b : Int32) : AgN (f_L_pen x a b) (f_M_pen x a b) σ M := by
  obtain ⟨W, O, P, S, D, E, X, T, F, N, hC, hR, hI⟩ := h
  rcases op_cases W x with ho | ⟨w, hw, rfl, ho⟩
  · refine an_ex (c := 1) ?_ hC hI (M_pen_no hR ho)
    unfold f_L_pen f_L_pen_0; rw [C_pen_no hC ho, gbx_r]; rfl
  · rcases bt (nearB a b) with hn | hn
    · refine an_ex (c := 2) ?_ hC hI (M_pen_far hR (opB_ok hw ho) hn)
      unfold f_L_pen f_L_pen_0; rw [C_pen_far hC hw ho hn, gbx_r]; rfl
    · obtain ⟨u, eC, rC, cC⟩ := C_pen_ok hC hI.1 hw ho hn
      refine an_ok (u := u) ?_ cC rC hR (AI_pen hI hn hI.2.2.2.1) (fun μ hμ => M_pen_ok hμ hI.1 hw ho hn)
      unfold f_L_pen f_L_pen_0; rw [eC, gbx_l]
theorem A_scroll (h : Inv σ M) (x a b : Int32) : AgN (f_L_scroll x a b) (f_M_scroll x a b) σ M := by
  obtain ⟨W, O, P, S, D, E, X, T, F, N, hC, hR, hI⟩ := h
  rcases op_cases W x with ho | ⟨w, hw, rfl, ho⟩
  · refine an_ex (c := 1) ?_ hC hI (M_scroll_no hR ho)
    unfold f_L_scroll f_L_scroll_0; rw [C_scroll_no hC ho, gbx_r]; rfl
  · rcases bt (nearB a b) with hn | hn
    · refine an_ex (c := 2) ?_ hC hI (M_scroll_far hR (opB_ok hw ho) hn)
      unfold f_L_scroll f_L_scroll_0; rw [C_scroll_far hC hw ho hn, gbx_r]; rfl
    · obtain ⟨a', b', s, hi⟩ := (hI.1 w hw).2 ho
      obtain ⟨u, eC, rC, cC⟩ := C_scroll_ok hC hI.2.1 hw ho hi hn
      refine an_ok (u := u) ?_ cC rC hR (AI_dmg hI (DI_fr hI.2.2.2.1 w)) (fun μ hμ => M_scroll_ok hμ hI.2.2.2.1 hw ho hi hn)
      unfold f_L_scroll f_L_scroll_0; rw [eC, gbx_l]
theorem A_raise (h : Inv σ M) (hM : M ≤ 100000) (x a : Int32) : AgV (f_L_raise x a) (f_M_raise x a) σ M := by
  obtain ⟨W, O, P, S, D, E, X, T, F, N, hC, hR, hI⟩ := h
  rcases op_cases W x with ho | ⟨w, hw, rfl, ho⟩
  · refine ag_ex (c := 1) ?_ (by decide) hC hI (M_raise_no hR ho)
    unfold f_L_raise f_L_raise_0; rw [C_raise_no hC ho, gbx_r]; rfl
  · obtain ⟨u, eC, rC, cC⟩ := C_raise_ok hC hI.2.2.1 hw ho a
    refine ag_ok (u := u) ?_ cC rC hR (AI_ord hI hw ho _ hI.2.2.2.2.1 hI.2.2.2.2.2) (fun μ hμ => M_raise_ok hμ hI.2.2.2.1 hI.1 hI.2.2.1 (by omega) hw ho a)
    unfold f_L_raise f_L_raise_0 f_L_raise_16; rw [eC, gbx_l]
    cases rch O w (!decide (a = 0)) with
    | false => rw [if_pos (by decide)]; rfl
    | true => rw [if_neg (by decide)]; rfl
theorem A_plot (h : Inv σ M) (x a b c : Int32) : AgV (f_L_plot x a b c) (f_M_plot x a b c) σ M := by
  obtain ⟨W, O, P, S, D, E, X, T, F, N, hC, hR, hI⟩ := h
  rcases op_cases W x with ho | ⟨w, hw, rfl, ho⟩
  · refine ag_ex (c := 1) ?_ (by decide) hC hI (M_plot_no hR ho)
    unfold f_L_plot f_L_plot_0; rw [C_plot_no hC ho, gbx_r]; rfl
  · rcases bt (colB c) with hn | hn
    · refine ag_ex (c := 2) ?_ (by decide) hC hI (M_plot_bad hR (opB_ok hw ho) hn)
      unfold f_L_plot f_L_plot_0; rw [C_plot_col hC hw ho hn, gbx_r]; rfl
    · rcases bt (hasW W w a b) with hh | hh
      · refine ag_ok (r := 0) (u := σ) ?_ clsF_rf hC hR hI (fun μ hμ => by
          obtain ⟨u, e1, r1, m1⟩ := M_plot_out hμ hI.2.2.2.1 hI.1 hw ho hn hh
          exact ⟨u, e1, RM_more r1, m1⟩)
        unfold f_L_plot f_L_plot_0 f_L_plot_20; rw [C_plot_out hC hw ho hn hh, gbx_l]; rfl
      · obtain ⟨a', b', s, hi⟩ := (hI.1 w hw).2 ho
        obtain ⟨m, n, rfl, rfl, hma, hnb⟩ := has_nat hi hh
        obtain ⟨u, eC, rC, cC⟩ := C_plot_ok hC hI.1 hI.2.1 hw ho hn hh hi hma hnb
        refine ag_ok (r := 1) (u := u) ?_ cC rC hR (AI_dmg hI (DI_add hI.2.2.2.1 _ _ _ _)) (fun μ hμ => by
          obtain ⟨u, e1, r1, m1⟩ := M_plot_ok hμ hI.2.2.2.1 hw ho hn hh hi hma hnb
          exact ⟨u, e1, RM_more r1, m1⟩)
        unfold f_L_plot f_L_plot_0 f_L_plot_20; rw [eC, gbx_l]; rfl
theorem A_line (h : Inv σ M) (x a b c : Int32) : AgV (f_L_line x a b c) (f_M_line x a b c) σ M := by
  obtain ⟨W, O, P, S, D, E, X, T, F, N, hC, hR, hI⟩ := h
  rcases op_cases W x with ho | ⟨w, hw, rfl, ho⟩
  · refine ag_ex (c := 1) ?_ (by decide) hC hI (M_line_no hR ho)
    unfold f_L_line f_L_line_0; rw [C_line_no hC ho, gbx_r]; rfl
  · rcases bt (nearB a b && colB c) with hn | hn
    · refine ag_ex (c := 2) ?_ (by decide) hC hI (M_line_bad hR (opB_ok hw ho) hn)
      unfold f_L_line f_L_line_0; rw [C_line_bad hC hw ho hn, gbx_r]; rfl
    · rw [Bool.and_eq_true] at hn
      obtain ⟨u, eC, rC, cC⟩ := C_line_ok hC hI.1 hI.2.1 hw ho hn.1 hn.2
      refine ag_ok (u := u) ?_ cC rC hR (AI_pen hI hn.1 (DI_ldm hI.2.2.2.1 w _)) (fun μ hμ => by
        obtain ⟨u, e1, r1, m1⟩ := M_line_ok hμ hI.2.2.2.1 hI.1 hw ho hn.1 hn.2
        exact ⟨u, e1, RM_more r1, m1⟩)
      unfold f_L_line f_L_line_0; rw [eC, gbx_l]; rfl
theorem A_screen (h : Inv σ M) (x y : Int32) : AgV (f_L_screen x y) (f_M_screen x y) σ M := by
  obtain ⟨W, O, P, S, D, E, X, T, F, N, hC, hR, hI⟩ := h
  rcases bt (scrB x y) with hs | hs
  · refine ag_ex (c := 1) ?_ (by decide) hC hI (M_screen_no hR hs)
    unfold f_L_screen f_L_screen_0; rw [C_screen_no hs, gbx_r]; rfl
  · obtain ⟨m, n, rfl, rfl, hm, hn⟩ := scr_nat hs
    refine ag_ok (u := σ) ?_ clsF_rf hC hR hI (fun μ hμ => by
      obtain ⟨u, e1, r1, m1⟩ := M_screen_ok hμ hm hn hs
      exact ⟨u, e1, RM_more r1, m1⟩)
    unfold f_L_screen f_L_screen_0; rw [C_screen_ok hC hm hn hs, gbx_l]; rfl
theorem A_at (h : Inv σ M) (x y : Int32) : AgV (f_L_at x y) (f_M_at x y) σ M := by
  obtain ⟨W, O, P, S, D, E, X, T, F, N, hC, hR, hI⟩ := h
  rcases bt (scrB x y) with hs | hs
  · refine ag_ex (c := 1) ?_ (by decide) hC hI (M_at_no hR hs)
    unfold f_L_at f_L_at_0; rw [C_at_no hs, gbx_r]; rfl
  · refine ag_ok (u := σ) ?_ clsF_rf hC hR hI (fun μ hμ => by
      obtain ⟨u, e1, r1, m1⟩ := M_at_ok hμ hI.2.2.1 hs
      exact ⟨u, e1, RM_more r1, m1⟩)
    unfold f_L_at f_L_at_0; rw [C_at_ok hC hI.2.2.1 hs, gbx_l]; rfl
theorem A_picture (h : Inv σ M) (x a b : Int32) : AgV (f_L_picture x a b) (f_M_picture x a b) σ M := by
  obtain ⟨W, O, P, S, D, E, X, T, F, N, hC, hR, hI⟩ := h
  rcases op_cases W x with ho | ⟨w, hw, rfl, ho⟩
  · refine ag_ex (c := 1) ?_ (by decide) hC hI (M_picture_no hR ho)
    unfold f_L_picture f_L_picture_0; rw [C_picture_no hC ho, gbx_r]; rfl
  · rcases bt (hasW W w a b) with hh | hh
    · refine ag_ex (c := 2) ?_ (by decide) hC hI (M_picture_out hR hw ho hh)
      unfold f_L_picture f_L_picture_0; rw [C_picture_out hC hw ho hh, gbx_r]; rfl
    · obtain ⟨a', b', s, hi⟩ := (hI.1 w hw).2 ho
      obtain ⟨m, n, rfl, rfl, hma, hnb⟩ := has_nat hi hh
      refine ag_ok (u := σ) ?_ clsF_rf hC hR hI (fun μ hμ => by
        obtain ⟨u, e1, r1, m1⟩ := M_picture_ok hμ hw ho hh hi hma hnb
        exact ⟨u, e1, RM_more r1, m1⟩)
      unfold f_L_picture f_L_picture_0; rw [C_picture_ok hC hw ho hh hi hma hnb, gbx_l]; rfl
theorem A_visible (h : Inv σ M) (x : Int32) : AgV (f_L_visible x) (f_M_visible x) σ M := by
  obtain ⟨W, O, P, S, D, E, X, T, F, N, hC, hR, hI⟩ := h
  rcases op_cases W x with ho | ⟨w, hw, rfl, ho⟩
  · refine ag_ex (c := 1) ?_ (by decide) hC hI (M_visible_no hR ho)
    unfold f_L_visible f_L_visible_0; rw [C_visible_no hC ho, gbx_r]; rfl
  · refine ag_ok (u := σ) ?_ clsF_rf hC hR hI (fun μ hμ => by
      obtain ⟨u, e1, r1, m1⟩ := M_visible_ok hμ hI.2.2.1 hw ho
      exact ⟨u, e1, RM_more r1, m1⟩)
    unfold f_L_visible f_L_visible_0; rw [C_visible_ok hC hI.2.2.1 hw ho, gbx_l]; rfl
theorem A_click (h : Inv σ M) (hM : M ≤ 100000) (x y : Int32) : AgV (f_L_click x y) (f_M_click x y) σ M := by
  obtain ⟨W, O, P, S, D, E, X, T, F, N, hC, hR, hI⟩ := h
  rcases bt (scrB x y) with hs | hs
  · refine ag_ex (c := 1) ?_ (by decide) hC hI (M_click_no hR hs)
    unfold f_L_click f_L_click_0; rw [C_click_no hs, gbx_r]; rfl
  · cases hf : O.find? (cov W x y) with
    | none =>
      obtain ⟨u, eC, rC, cC⟩ := C_click_none hC hI.2.2.1 hs hf
      refine ag_ok (u := u) ?_ cC rC hR ⟨hI.1, hI.2.1, hI.2.2.1, hI.2.2.2.1, EI_gfE hI.2.2.2.2.1 F (-1), Or.inl rfl⟩ (fun μ hμ => by
        obtain ⟨u, e1, r1, m1⟩ := M_click_none hμ hI.2.2.1 hI.2.2.2.2.2 hs hf
        exact ⟨u, e1, RM_more r1, m1⟩)
      unfold f_L_click f_L_click_0; rw [eC, gbx_l]; rfl
    | some w =>
      obtain ⟨hw, ho⟩ := (hI.2.2.1.2 w).1 (List.mem_of_find?_eq_some hf)
      obtain ⟨u, eC, rC, cC⟩ := C_click_ok hC hI.2.2.1 hs hf
      refine ag_ok (u := u) ?_ cC rC hR (AI_ord hI hw ho true (EI_tE (EI_gfE hI.2.2.2.2.1 F (nI w)) (by show ¬ (1 : Int32) = -1; decide)) (Or.inr ⟨w, hw, rfl⟩)) (fun μ hμ => M_click_ok hμ hI.2.2.2.1 hI.1 hI.2.2.1 (by omega) hI.2.2.2.2.2 hs hf)
      unfold f_L_click f_L_click_0; rw [eC, gbx_l]; rfl
theorem A_next (h : Inv σ M) : AgV f_L_next f_M_next σ M := by
  obtain ⟨W, O, P, S, D, E, X, T, F, N, hC, hR, hI⟩ := h
  cases E with
  | nil =>
    refine ag_ex (c := 1) ?_ (by decide) hC hI (M_next_no hR)
    unfold f_L_next f_L_next_0; rw [C_next_no hC, gbx_r]; rfl
  | cons e E =>
    obtain ⟨u, eC, rC, cC⟩ := C_next_ok hC
    refine ag_ok (u := u) ?_ cC rC hR ⟨hI.1, hI.2.1, hI.2.2.1, hI.2.2.2.1, fun x hx => hI.2.2.2.2.1 x (by simp [hx]), hI.2.2.2.2.2⟩ (fun μ hμ => by
      obtain ⟨u, e1, r1, m1⟩ := M_next_ok hμ (hI.2.2.2.2.1 e (by simp))
      exact ⟨u, e1, RM_more r1, m1⟩)
    unfold f_L_next f_L_next_0; rw [eC, gbx_l]; rfl
theorem A_event (h : Inv σ M) (x : Int32) : AgV (f_L_event x) (f_M_event x) σ M := by
  obtain ⟨W, O, P, S, D, E, X, T, F, N, hC, hR, hI⟩ := h
  by_cases hT : T.1 = -1
  · refine ag_ex (c := 1) ?_ (by decide) hC hI (M_event_no hR hT)
    unfold f_L_event f_L_event_0; rw [C_event_no hC hT, gbx_r]; rfl
  · by_cases hx : 0 ≤ x.toInt ∧ x.toInt ≤ 2
    · refine ag_ok (r := if x.toInt = 0 then T.2.1 else if x.toInt = 1 then T.2.2.1 else T.2.2.2) (u := σ) ?_ clsF_rf hC hR hI (fun μ hμ => by
        obtain ⟨u, e1, r1, m1⟩ := M_event_ok hμ hT hx
        exact ⟨u, e1, RM_more r1, m1⟩)
      unfold f_L_event f_L_event_0; rw [C_event_ok hC hT]
      by_cases a0 : x.toInt = 0
      · rw [if_pos a0, if_pos a0, gbx_l]; rfl
      by_cases a1 : x.toInt = 1
      · rw [if_neg a0, if_pos a1, if_neg a0, if_pos a1, gbx_l]; rfl
      rw [if_neg a0, if_neg a1, if_pos (show x.toInt = 2 by omega), if_neg a0, if_neg a1, gbx_l]; rfl
    · refine ag_ex (c := 2) ?_ (by decide) hC hI (M_event_bad hR hT hx)
      unfold f_L_event f_L_event_0; rw [C_event_ok hC hT, if_neg (by omega), if_neg (by omega), if_neg (by omega), gbx_r]; rfl
theorem A_figure (h : Inv σ M) (x : Int32) : AgV (f_L_figure x) (f_M_figure x) σ M := by
  obtain ⟨W, O, P, S, D, E, X, T, F, N, hC, hR, hI⟩ := h
  have hF := C_figure hC x
  cases hv : figV W O D E X F N x.toInt with
  | none =>
    rw [hv] at hF
    refine ag_ex (c := 1) ?_ (by decide) hC hI ?_
    · unfold f_L_figure f_L_figure_0; rw [hF]; rfl
    · obtain ⟨u, e1, r1, m1, z1⟩ := M_figure hR hI.2.2.1 x
      rw [hv] at z1; exact ⟨_, u, e1, r1, m1, z1⟩
  | some v =>
    rw [hv] at hF
    refine ag_ok (r := v) (u := σ) ?_ clsF_rf hC hR hI (fun μ hμ => ?_)
    · unfold f_L_figure f_L_figure_0; rw [hF]; rfl
    · obtain ⟨u, e1, r1, m1, z1⟩ := M_figure hμ hI.2.2.1 x
      rw [hv] at z1 e1; exact ⟨u, e1, RM_more r1, m1, z1⟩
end MQ
