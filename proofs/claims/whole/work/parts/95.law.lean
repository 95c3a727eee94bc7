/-! Pure part: fill, flush, key on both sides; the law's turn; the law's loop. -/
section MR
variable {σ : Mem} {M : Int}
theorem ext_nat {e : Int32} (h : extB e = true) : ∃ k, e = nI k ∧ k ≤ 1023 := by
  unfold extB at h
  simp only [Bool.and_eq_true, Bool.not_eq_true', decide_eq_false_iff_not, decide_eq_true_eq, z_lt, z_le, zk_0, zk_1023] at h
  exact ⟨e.toInt.toNat, z_nI e (by omega), by omega⟩
theorem mmax_nat (u : Int32) (l : Nat) (hl : (l : Int) = max u.toInt 0) (h2 : l ≤ 1000) : mmax u 0 = nI l := by
  rw [z_eq, mmax_i, zk_0, nI_toInt (by omega)]; omega
theorem mmin_nat {u : Int32} {m a r : Nat} (h1 : -1000 ≤ u.toInt ∧ u.toInt ≤ 1000) (hm : m ≤ 1000) (ha : a ≤ 1000) (hr : (r : Int) = min (u.toInt + m) a) : mmin (u + nI m) (nI a) = nI r := by
  have e : (u + nI m).toInt = u.toInt + m := by rw [z_add] <;> rw [nI_toInt (by omega)] <;> omega
  rw [z_eq, mmin_i, e, nI_toInt (by omega), nI_toInt (by omega)]; omega
theorem mmin_lt {u : Int32} {m a : Nat} (h1 : -1000 ≤ u.toInt ∧ u.toInt ≤ 1000) (hm : m ≤ 1000) (ha : a ≤ 1000) : (mmin (u + nI m) (nI a)).toInt = min (u.toInt + m) a := by
  have e : (u + nI m).toInt = u.toInt + m := by rw [z_add] <;> rw [nI_toInt (by omega)] <;> omega
  rw [mmin_i, e, nI_toInt (by omega)]
theorem A_fill (h : Inv σ M) (x u v e c : Int32) : AgV (f_L_fill x u v e c) (f_M_fill x u v e c) σ M := by
  obtain ⟨W, O, P, S, D, E, X, T, F, N, hC, hR, hI⟩ := h
  rcases op_cases W x with ho | ⟨w, hw, rfl, ho⟩
  · refine ag_ex (c := 1) ?_ (by decide) hC hI (M_fill_no hR ho)
    unfold f_L_fill f_L_fill_0; rw [C_fill_no hC ho, gbx_r]; rfl
  · rcases bt (nearB u v && extB e && colB c) with hn | hn
    · refine ag_ex (c := 2) ?_ (by decide) hC hI (M_fill_bad hR (opB_ok hw ho) hn)
      unfold f_L_fill f_L_fill_0; rw [C_fill_bad hC hw ho hn, gbx_r]; rfl
    · rw [Bool.and_eq_true, Bool.and_eq_true] at hn
      obtain ⟨⟨h1, h2⟩, h3⟩ := hn
      obtain ⟨k, rfl, hk⟩ := ext_nat h2
      obtain ⟨a, b, s, hi⟩ := (hI.1 w hw).2 ho
      have hb := near_b h1
      have ha := hi.2.2.2.2.1
      have hbb := hi.2.2.2.2.2.2.1
      obtain ⟨q1, q2⟩ := nI_mod32 k hk
      obtain ⟨l, hl⟩ : ∃ l : Nat, (l : Int) = max u.toInt 0 := ⟨(max u.toInt 0).toNat, by omega⟩
      obtain ⟨t, ht⟩ : ∃ t : Nat, (t : Int) = max v.toInt 0 := ⟨(max v.toInt 0).toNat, by omega⟩
      obtain ⟨H, hH⟩ : ∃ H : Nat, H = (min (u.toInt + (k % 32 : Nat)) a - max u.toInt 0).toNat := ⟨_, rfl⟩
      obtain ⟨Q, hQ⟩ : ∃ Q : Nat, Q = (min (v.toInt + (k / 32 : Nat)) b - max v.toInt 0).toNat := ⟨_, rfl⟩
      have eR : (fR W w u (nI k)).toInt = min (u.toInt + (k % 32 : Nat)) a := by
        unfold fR; rw [q1, hi.1]; exact mmin_lt (by omega) (by omega) (by omega)
      have eB : (fB W w v (nI k)).toInt = min (v.toInt + (k / 32 : Nat)) b := by
        unfold fB; rw [q2, hi.2.1]; exact mmin_lt (by omega) (by omega) (by omega)
      have eL := mmax_nat u l hl (by omega)
      have eT := mmax_nat v t ht (by omega)
      by_cases hne : H = 0 ∨ Q = 0
      · have hz : zst l t H Q 0 = none := by unfold zst; rw [if_pos rfl, if_pos hne]
        have hp : pbox P w l t (l + H) (t + Q) c = P := by
          funext w' m n; unfold pbox; rw [if_neg (by omega)]
        have h0 : nI (H * Q) = 0 := by
          rcases hne with h | h
          · rw [h, Nat.zero_mul]; rfl
          · rw [h, Nat.mul_zero]; rfl
        refine ag_ok (r := 0) (u := σ) ?_ clsF_rf hC hR hI (fun μ hμ => by
          obtain ⟨z, e1, r1, m1⟩ := M_fill_ok hμ hI.2.2.2.1 hw ho hi h1 h2 hk h3 hl ht hH hQ
          rw [h0] at e1; rw [hz, hp] at r1
          exact ⟨z, e1, RM_more r1, m1⟩)
        unfold f_L_fill f_L_fill_0
        rw [C_fill_go hC hw ho h1 h2 h3]
        by_cases hc1 : fR W w u (nI k) ≤ mmax u 0
        · rw [if_pos hc1, gbx_l]; rfl
        · rw [if_neg hc1, if_neg (by
            rw [z_le, eR, mmax_i, zk_0] at hc1
            rw [z_lt, eB, mmax_i, zk_0]; omega), gbx_l]; rfl
      · have er : fR W w u (nI k) = nI (l + H) := by rw [z_eq, eR, nI_toInt (by omega)]; omega
        have eb : fB W w v (nI k) = nI (t + Q) := by rw [z_eq, eB, nI_toInt (by omega)]; omega
        obtain ⟨z, eC, rC, cC⟩ := C_fill_ok hC hI.2.1 hw ho hi h1 h2 h3 eL eT er eb (by omega) (by omega) (by omega) (by omega)
        have hz : zst l t H Q 0 = some (nI l, nI t, nI (l + H - 1), nI (t + Q - 1)) := by unfold zst; rw [if_pos rfl, if_neg hne]
        have hv : (nI (l + H) - nI l) * (nI (t + Q) - nI t) = nI (H * Q) := by
          rw [pk_sub (by omega), pk_sub (by omega), pk_mul, Nat.add_sub_cancel_left, Nat.add_sub_cancel_left]
        have hd : mdc D W w (zst l t H Q 0) = dadd D (W w 1 + nI l) (W w 2 + nI t) (W w 1 + nI (l + H)) (W w 2 + nI (t + Q)) := by
          rw [hz]; unfold mdc; simp only; rw [nI_1, nI_1, show l + H - 1 + 1 = l + H by omega, show t + Q - 1 + 1 = t + Q by omega]
        rw [hv] at eC
        refine ag_ok (r := nI (H * Q)) (u := z) ?_ cC rC hR (AI_dmg hI (DI_add hI.2.2.2.1 _ _ _ _)) (fun μ hμ => by
          obtain ⟨z, e1, r1, m1⟩ := M_fill_ok hμ hI.2.2.2.1 hw ho hi h1 h2 hk h3 hl ht hH hQ
          rw [hd] at r1
          exact ⟨z, e1, RM_more r1, m1⟩)
        unfold f_L_fill f_L_fill_0; rw [eC, gbx_l]; rfl
theorem A_flush (h : Inv σ M) : ∃ r u w, f_S_flush σ = some (r, u) ∧ f_M_flush u = some (r, w) ∧ Inv w (M + 1) := by
  obtain ⟨W, O, P, S, D, E, X, T, F, N, hC, hR, hI⟩ := h
  obtain ⟨u, eC, rC, cC⟩ := C_flush hC hI.1 hI.2.2.1
  obtain ⟨w, e1, r1, m1⟩ := M_flush (RM_keep hR (fun q h1 h2 => cC q h1 (by omega))) hI.2.2.2.1 hI.1 hI.2.2.1
  exact ⟨_, u, w, eC, e1, _, _, _, _, _, _, _, _, _, _, RC_keep rC (fun q hq => m1 q (by omega)), RM_more r1, AI_dmg hI DI_nil⟩
theorem A_key (h : Inv σ M) (x : Int32) : ∃ r u w, f_S_key x σ = some (r, u) ∧ f_M_key x u = some (r, w) ∧ Inv w (M + 1) := by
  obtain ⟨W, O, P, S, D, E, X, T, F, N, hC, hR, hI⟩ := h
  by_cases hF : F = -1
  · obtain ⟨w, e1, r1, m1⟩ := M_key_no (c := x) hR hF
    exact ⟨_, σ, w, C_key_no hC hF, e1, _, _, _, _, _, _, _, _, _, _, RC_keep hC (fun q hq => m1 q (by omega)), RM_more r1, hI⟩
  · obtain ⟨u, eC, rC, cC⟩ := C_key_ok (c := x) hC hF
    obtain ⟨w, e1, r1, m1⟩ := M_key_ok (c := x) (RM_keep hR (fun q h1 h2 => cC q h1 (by omega))) hI.2.2.2.2.2 hF
    exact ⟨_, u, w, eC, e1, _, _, _, _, _, _, _, _, _, _, RC_keep rC (fun q hq => m1 q (by omega)), RM_more r1, hI.1, hI.2.1, hI.2.2.1, hI.2.2.2.1, EI_tE hI.2.2.2.2.1 (by show ¬ (2 : Int32) = -1; decide), hI.2.2.2.2.2⟩
theorem lgc (x : Int64) : lg_cmp x x = 0 := by unfold lg_cmp; simp
theorem e_thrown (σ : Mem) : f_M_thrown σ = some (σ 19 0, σ) := rfl
theorem c00 : (0 : Int32).toNatClampNeg = 0 := rfl
/-- the law's turn behind one call: with an answer, without -/
theorem turn_v {fL fM : Mem → Option (Int32 × Mem)} {G : Mem → Option Unit} (h : AgV fL fM σ M) (hG : ∀ w, Inv w (M + 1) → G w ≠ none) : (gb (fL σ) fun r1 u2 => gb (fM u2) fun r4 u3 => gb (f_M_thrown u3) fun r6 u5 => if r6 = r1 then (if r1 = 0 then (if (lg_cmp ((u5 40 (0 : Int32).toNatClampNeg) : Int32).toInt64 (r4 : Int32).toInt64) = 0 then G u5 else none) else G u5) else none) ≠ none := by
  obtain ⟨c, u, v, w, e1, e2, e3, e4, e5⟩ := h
  rw [e1, gb_some, e2, gb_some, e_thrown, gb_some, if_pos e3]
  by_cases hc : c = 0
  · rw [if_pos hc, c00, e4 hc, if_pos (lgc _)]; exact hG w e5
  · rw [if_neg hc]; exact hG w e5
theorem turn_n {fL : Mem → Option (Int32 × Mem)} {fM : Mem → Option Mem} {G : Mem → Option Unit} (h : AgN fL fM σ M) (hG : ∀ w, Inv w (M + 1) → G w ≠ none) : (gb (fL σ) fun r1 u2 => gbv (fM u2) fun u3 => gb (f_M_thrown u3) fun r5 u4 => if r5 = r1 then G u4 else none) ≠ none := by
  obtain ⟨c, u, w, e1, e2, e3, e5⟩ := h
  rw [e1, gb_some, e2, gbv_some, e_thrown, gb_some, if_pos e3]; exact hG w e5
end MR
