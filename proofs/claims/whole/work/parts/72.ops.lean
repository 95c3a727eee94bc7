/-! Pure part: the class's raise, click, key, next, event, figure. -/
section PT
variable {σ : Mem} {W : Wnd} {O : List Nat} {P : Nat → Nat → Nat → Int32} {S : Nat → Int32} {D E : List Evt} {X : Int32} {T : Evt} {F N : Int32}
theorem RC_ord (hR : RC σ W O P S D E X T F N) {u : Mem} {O' : List Nat} (ho : Cord u O') (hf : fr [3, 4] σ u) : RC u W O' P S D E X T F N ∧ clsF σ u := by
  obtain ⟨rw, ro, rs, rp, rS, rd, re, rf, rn⟩ := hR
  refine ⟨⟨rw.keep (hf.hi (by decide)), ho, rs.keep (hf 8 (by decide)), rp.keep (hf 6 (by decide)), fun i hi => ?_, rd.keep (fun q h1 h2 => hf q (by simp; omega)), re.keep (fun q h1 h2 => hf q (by simp; omega)), ?_, ?_⟩, clsF_fr hf (by decide)⟩
  · rw [hf 1 (by decide)]; exact rS i hi
  · rw [hf 0 (by decide)]; exact rf
  · rw [hf 0 (by decide)]; exact rn
theorem RC_ev (hR : RC σ W O P S D E X T F N) {u : Mem} {E' : List Evt} {X' : Int32} {T' : Evt} (he : CE u E' X' T') (hf : fr [14, 15, 16, 17, 18] σ u) : RC u W O P S D E' X' T' F N ∧ clsF σ u := by
  obtain ⟨rw, ro, rs, rp, rS, rd, re, rf, rn⟩ := hR
  refine ⟨⟨rw.keep (hf.hi (by decide)), ro.keep (hf 3 (by decide)) (hf 4 (by decide)), rs.keep (hf 8 (by decide)), rp.keep (hf 6 (by decide)), fun i hi => ?_, rd.keep (fun q h1 h2 => hf q (by simp; omega)), he, ?_, ?_⟩, clsF_fr hf (by decide)⟩
  · rw [hf 1 (by decide)]; exact rS i hi
  · rw [hf 0 (by decide)]; exact rf
  · rw [hf 0 (by decide)]; exact rn
theorem RC_foc (hR : RC σ W O P S D E X T F N) (F' : Int32) : RC (m2 σ 0 6 F') W O P S D E X T F' N ∧ clsF σ (m2 σ 0 6 F') := by
  obtain ⟨rw, ro, rs, rp, rS, rd, re, rf, rn⟩ := hR
  have hf : fr [0] σ (m2 σ 0 6 F') := fr_m2 fr_rf (by simp)
  refine ⟨⟨rw.keep (hf.hi (by decide)), ro.keep (hf 3 (by decide)) (hf 4 (by decide)), rs.keep (hf 8 (by decide)), rp.keep (hf 6 (by decide)), fun i hi => ?_, rd.keep (fun q h1 h2 => hf q (by simp; omega)), re.keep (fun q h1 h2 => hf q (by simp; omega)), ?_, ?_⟩, clsF_fr hf (by decide)⟩
  · rw [hf 1 (by decide)]; exact rS i hi
  · rw [m2_at, if_pos ⟨rfl, rfl⟩]
  · rw [m2_at, if_neg (by omega)]; exact rn
/-- raising to the front, to the back: whether it changes, the order behind it -/
def rch (O : List Nat) (w : Nat) (up : Bool) : Bool := if up then !decide (nI w = hdI O) else !decide (nI w = lsI O)
def rord (O : List Nat) (w : Nat) (up : Bool) : List Nat := if rch O w up then (if up then w :: O.filter (fun x => decide (x ≠ w)) else O.filter (fun x => decide (x ≠ w)) ++ [w]) else O
def rdm (D : List Evt) (W : Wnd) (O : List Nat) (w : Nat) (up : Bool) : List Evt := if rch O w up then dfr D W w else D
theorem C_reorder (hR : RC σ W O P S D E X T F N) (hO : OI W O) {w : Nat} (hw : w < 8) (ho : ¬ W w 0 = 0) (x : Int32) : ∃ u, f_S_reorder (nI w) (gPB + w) x σ = some (bI (rch O w (!decide (x = 0))), u) ∧ RC u W (rord O w (!decide (x = 0))) P S (rdm D W O w (!decide (x = 0))) E X T F N ∧ clsF σ u := by
  have hm : w ∈ O := (hO.2 w).2 ⟨hw, ho⟩
  unfold f_S_reorder f_S_reorder_0 f_S_reorder_22 f_S_reorder_30 f_S_reorder_68 f_S_reorder_73 rord rdm rch
  by_cases hx : x = 0
  · simp only [hx, if_true, decide_true, Bool.not_true, Bool.false_eq_true, if_false]
    rw [e_O_last hR.2.1, gb_some]
    by_cases hc : nI w = lsI O
    · rw [if_pos hc, decide_eq_true hc]
      simp only [if_true, Bool.not_true, Bool.false_eq_true, if_false]
      exact ⟨σ, by rw [if_pos (by decide)]; rfl, hR, clsF_rf⟩
    · rw [if_neg hc, decide_eq_false hc, if_neg (by decide)]
      obtain ⟨u1, e1, o1, f1⟩ := e_O_remove w hR.2.1 hO.lt hw
      obtain ⟨r1, c1⟩ := RC_ord hR o1 f1
      rw [e1, gbv_some]
      obtain ⟨u2, e2, o2, f2⟩ := e_O_addBehind w r1.2.1 (hO.len_lt_mem hm)
      obtain ⟨r2, c2⟩ := RC_ord r1 o2 f2
      rw [e2, gbv_some]
      obtain ⟨u3, e3, d3, f3⟩ := e_dFrame r2.2.2.2.2.2.1 r2.1 hw
      obtain ⟨r3, c3⟩ := RC_dmg r2 d3 f3
      rw [e3, gbv_some, if_pos (by decide)]
      exact ⟨u3, rfl, by simpa using r3, clsF_tr c1 (clsF_tr c2 c3)⟩
  · simp only [hx, if_false, decide_false, Bool.not_false, if_true]
    rw [e_O_first hR.2.1, gb_some]
    by_cases hc : nI w = hdI O
    · rw [if_pos hc, decide_eq_true hc]
      simp only [if_true, Bool.not_true, Bool.false_eq_true, if_false]
      exact ⟨σ, by rw [if_pos (by decide)]; rfl, hR, clsF_rf⟩
    · rw [if_neg hc, decide_eq_false hc, if_neg (by decide)]
      obtain ⟨u1, e1, o1, f1⟩ := e_O_remove w hR.2.1 hO.lt hw
      obtain ⟨r1, c1⟩ := RC_ord hR o1 f1
      rw [e1, gbv_some]
      obtain ⟨u2, e2, o2, f2⟩ := e_O_addInFront w r1.2.1 (hO.len_lt_mem hm)
      obtain ⟨r2, c2⟩ := RC_ord r1 o2 f2
      rw [e2, gbv_some]
      obtain ⟨u3, e3, d3, f3⟩ := e_dFrame r2.2.2.2.2.2.1 r2.1 hw
      obtain ⟨r3, c3⟩ := RC_dmg r2 d3 f3
      rw [e3, gbv_some, if_pos (by decide)]
      exact ⟨u3, rfl, by simpa using r3, clsF_tr c1 (clsF_tr c2 c3)⟩
theorem C_raise_no (hR : RC σ W O P S D E X T F N) {w x : Int32} (hw : opB W w = false) : f_S_raise w x σ = some (.inr NSE, σ) := by
  unfold f_S_raise f_S_raise_0; rw [e_openPane_no hR.1 hw, gbx_r]
theorem C_raise_ok (hR : RC σ W O P S D E X T F N) (hO : OI W O) {w : Nat} (hw : w < 8) (ho : ¬ W w 0 = 0) (x : Int32) : ∃ u, f_S_raise (nI w) x σ = some (.inl (bI (rch O w (!decide (x = 0)))), u) ∧ RC u W (rord O w (!decide (x = 0))) P S (rdm D W O w (!decide (x = 0))) E X T F N ∧ clsF σ u := by
  unfold f_S_raise f_S_raise_0
  rw [e_openPane_ok hR.1 hw ho, gbx_l, if_pos (gpn_w hw)]
  obtain ⟨u, e1, r1, c1⟩ := C_reorder hR hO hw ho x
  rw [e1, gb_some, if_pos (bI_and _)]
  exact ⟨u, rfl, r1, c1⟩
/-- events of a change of focus -/
def gE1 (E : List Evt) (F : Int32) : List Evt := if F = -1 then E else tE E (4, F, 0, 0)
def gX1 (E : List Evt) (X F : Int32) : Int32 := if F = -1 then X else tX E X
def gfE (E : List Evt) (F x : Int32) : List Evt := if x = F then E else if x = -1 then gE1 E F else tE (gE1 E F) (3, x, 0, 0)
def gfX (E : List Evt) (X F x : Int32) : Int32 := if x = F then X else if x = -1 then gX1 E X F else tX (gE1 E F) (gX1 E X F)
theorem C_giveFocus (hR : RC σ W O P S D E X T F N) (x : Int32) : ∃ u, f_S_giveFocus x σ = some u ∧ RC u W O P S D (gfE E F x) (gfX E X F x) T x N ∧ clsF σ u := by
  have hF := hR.2.2.2.2.2.2.2.1
  unfold f_S_giveFocus f_S_giveFocus_0 f_S_giveFocus_31 f_S_giveFocus_58 gfE gfX
  rw [hF]
  by_cases h1 : x = F
  · rw [if_pos h1, if_pos h1, if_pos h1, h1]; exact ⟨σ, rfl, hR, clsF_rf⟩
  rw [if_neg h1, if_neg h1, if_neg h1]
  have key : ∀ (μ : Mem), RC μ W O P S D (gE1 E F) (gX1 E X F) T F N → clsF σ μ → ∃ u, (gbm (m2 μ 0 6 x) fun u1 => if (u1 0 6) = (-1) then some u1 else gbv (f_E_tell 3 (u1 0 6) 0 0 u1) fun u2 => some u2) = some u ∧ RC u W O P S D (if x = -1 then gE1 E F else tE (gE1 E F) (3, x, 0, 0)) (if x = -1 then gX1 E X F else tX (gE1 E F) (gX1 E X F)) T x N ∧ clsF σ u := by
    intro μ hμ hc
    obtain ⟨r1, c1⟩ := RC_foc hμ x
    have e06 : m2 μ 0 6 x 0 6 = x := by rw [m2_at, if_pos ⟨rfl, rfl⟩]
    rw [gbm_e, e06]
    by_cases h2 : x = -1
    · rw [if_pos h2, if_pos h2, if_pos h2]; exact ⟨_, rfl, r1, clsF_tr hc c1⟩
    · rw [if_neg h2, if_neg h2, if_neg h2]
      obtain ⟨u, e2, v2, f2⟩ := e_E_tell (3, x, 0, 0) r1.2.2.2.2.2.2.1
      obtain ⟨r2, c2⟩ := RC_ev r1 v2 f2
      rw [show f_E_tell 3 x 0 0 (m2 μ 0 6 x) = some u from e2, gbv_some]
      exact ⟨u, rfl, r2, clsF_tr hc (clsF_tr c1 c2)⟩
  by_cases h3 : F = -1
  · rw [if_pos h3]
    exact key σ (by unfold gE1 gX1; rw [if_pos h3, if_pos h3]; exact hR) clsF_rf
  · rw [if_neg h3]
    obtain ⟨u, e2, v2, f2⟩ := e_E_tell (4, F, 0, 0) hR.2.2.2.2.2.2.1
    obtain ⟨r2, c2⟩ := RC_ev hR v2 f2
    rw [show f_E_tell 4 F 0 0 σ = some u from e2, gbv_some]
    exact key u (by unfold gE1 gX1; rw [if_neg h3, if_neg h3]; exact r2) c2
theorem C_click_no {x y : Int32} (h : scrB x y = false) : f_S_click x y σ = some (.inr IOB, σ) := by
  unfold f_S_click f_S_click_0; rw [e_requireOnScreen, h]; rfl
theorem C_click_none (hR : RC σ W O P S D E X T F N) (hO : OI W O) {x y : Int32} (h : scrB x y = true) (hn : O.find? (cov W x y) = none) : ∃ u, f_S_click x y σ = some (.inl (-1), u) ∧ RC u W O P S D (gfE E F (-1)) (gfX E X F (-1)) T (-1) N ∧ clsF σ u := by
  unfold f_S_click f_S_click_0 f_S_click_62
  rw [e_requireOnScreen, if_pos h, gbx_l, e_ownerOf hR.1 hR.2.1 hO.lt, gb_some, hn]
  obtain ⟨u, e1, r1, c1⟩ := C_giveFocus hR (-1)
  rw [show f_S_giveFocus (owI none) σ = some u from e1, gbv_some, if_pos (show owI none = -1 from rfl)]
  exact ⟨u, rfl, r1, c1⟩
theorem C_click_ok (hR : RC σ W O P S D E X T F N) (hO : OI W O) {x y : Int32} (h : scrB x y = true) {w : Nat} (hn : O.find? (cov W x y) = some w) : ∃ u, f_S_click x y σ = some (.inl (nI w), u) ∧
    RC u W (rord O w true) P S (rdm D W O w true) (tE (gfE E F (nI w)) (1, nI w, x - W w 1, y - W w 2)) (tX (gfE E F (nI w)) (gfX E X F (nI w))) T (nI w) N ∧ clsF σ u := by
  have hm := List.mem_of_find?_eq_some hn
  obtain ⟨hw, ho⟩ := (hO.2 w).1 hm
  unfold f_S_click f_S_click_0 f_S_click_62
  rw [e_requireOnScreen, if_pos h, gbx_l, e_ownerOf hR.1 hR.2.1 hO.lt, gb_some, hn]
  obtain ⟨u1, e1, r1, c1⟩ := C_giveFocus hR (nI w)
  rw [show f_S_giveFocus (owI (some w)) σ = some u1 from e1, gbv_some, if_neg (show ¬ owI (some w) = -1 by show ¬ nI w = -1; simp (disch := (first | omega | (simp (disch := omega) only [nI_toInt, zk_0, zk_1, zk_2, zk_3, zk_4, zk_5, zk_6, zk_7, zk_8, zk_11, zk_12, zk_15, zk_16, zk_23, zk_24, zk_31, zk_32, zk_50, zk_255, zk_384, zk_400, zk_1023, zk_3072, zk_m1, zk_m50]; omega))) only [z_le, z_lt, z_eq, z_gin, z_cl, nI_toInt, z_add, z_sub, zk_0, zk_1, zk_2, zk_3, zk_4, zk_5, zk_6, zk_7, zk_8, zk_11, zk_12, zk_15, zk_16, zk_23, zk_24, zk_31, zk_32, zk_50, zk_255, zk_384, zk_400, zk_1023, zk_3072, zk_m1, zk_m50]; omega)]
  rw [show owI (some w) = nI w from rfl, if_pos (gin_nI hw (by omega)), nI_clamp (by omega), gbn_e]
  obtain ⟨u2, e2, r2, c2⟩ := C_reorder r1 hO hw ho 1
  rw [e2, gb_some]
  rw [show (!decide ((1 : Int32) = 0)) = true from by decide] at r2
  rw [r2.1 w hw 1 (by omega), r2.1 w hw 2 (by omega)]
  obtain ⟨u3, e3, v3, f3⟩ := e_E_tell (1, nI w, x - W w 1, y - W w 2) r2.2.2.2.2.2.2.1
  obtain ⟨r3, c3⟩ := RC_ev r2 v3 f3
  rw [show f_E_tell 1 (nI w) (x - W w 1) (y - W w 2) u2 = some u3 from e3, gbv_some]
  exact ⟨u3, rfl, r3, clsF_tr c1 (clsF_tr c2 c3)⟩
theorem C_key_no (hR : RC σ W O P S D E X T F N) {c : Int32} (h : F = -1) : f_S_key c σ = some (0, σ) := by
  unfold f_S_key f_S_key_0; rw [hR.2.2.2.2.2.2.2.1, if_pos h]
theorem C_key_ok (hR : RC σ W O P S D E X T F N) {c : Int32} (h : ¬ F = -1) : ∃ u, f_S_key c σ = some (1, u) ∧ RC u W O P S D (tE E (2, F, c, 0)) (tX E X) T F N ∧ clsF σ u := by
  unfold f_S_key f_S_key_0
  rw [hR.2.2.2.2.2.2.2.1, if_neg h]
  obtain ⟨u, e1, v1, f1⟩ := e_E_tell (2, F, c, 0) hR.2.2.2.2.2.2.1
  obtain ⟨r1, c1⟩ := RC_ev hR v1 f1
  rw [show f_E_tell 2 F c 0 σ = some u from e1, gbv_some]
  exact ⟨u, rfl, r1, c1⟩
theorem C_next_no (hR : RC σ W O P S D [] X T F N) : f_S_next σ = some (.inr NSE, σ) := by
  unfold f_S_next f_S_next_0; rw [hR.2.2.2.2.2.2.1.1, if_pos (by decide)]; rfl
theorem C_next_ok {e : Evt} (hR : RC σ W O P S D (e :: E) X T F N) : ∃ u, f_S_next σ = some (.inl e.1, u) ∧ RC u W O P S D E X e F N ∧ clsF σ u := by
  unfold f_S_next f_S_next_0
  have h12 := hR.2.2.2.2.2.2.1.2.1
  simp only [List.length_cons] at h12
  rw [hR.2.2.2.2.2.2.1.1, if_neg (by simp only [List.length_cons]; simp (disch := (first | omega | (simp (disch := omega) only [nI_toInt, zk_0, zk_1, zk_2, zk_3, zk_4, zk_5, zk_6, zk_7, zk_8, zk_11, zk_12, zk_15, zk_16, zk_23, zk_24, zk_31, zk_32, zk_50, zk_255, zk_384, zk_400, zk_1023, zk_3072, zk_m1, zk_m50]; omega))) only [z_le, z_lt, z_eq, z_gin, z_cl, nI_toInt, z_add, z_sub, zk_0, zk_1, zk_2, zk_3, zk_4, zk_5, zk_6, zk_7, zk_8, zk_11, zk_12, zk_15, zk_16, zk_23, zk_24, zk_31, zk_32, zk_50, zk_255, zk_384, zk_400, zk_1023, zk_3072, zk_m1, zk_m50]; omega)]
  obtain ⟨u, e1, v1, f1⟩ := e_E_takeFirst e hR.2.2.2.2.2.2.1
  obtain ⟨r1, c1⟩ := RC_ev hR v1 f1
  rw [e1, gbv_some, v1.2.2.2.2.1]
  exact ⟨u, rfl, r1, c1⟩
theorem C_event_no (hR : RC σ W O P S D E X T F N) {x : Int32} (h : T.1 = -1) : f_S_event x σ = some (.inr ISE, σ) := by
  unfold f_S_event f_S_event_0; rw [hR.2.2.2.2.2.2.1.2.2.2.2.1, if_pos h]; rfl
theorem C_event_ok (hR : RC σ W O P S D E X T F N) {x : Int32} (h : ¬ T.1 = -1) : f_S_event x σ = some (if x.toInt = 0 then .inl T.2.1 else if x.toInt = 1 then .inl T.2.2.1 else if x.toInt = 2 then .inl T.2.2.2 else .inr IAE, σ) := by
  obtain ⟨-, -, -, -, h6, h7, h8, h9⟩ := hR.2.2.2.2.2.2.1
  unfold f_S_event f_S_event_0
  rw [h6, if_neg h, h7, h8, h9]
  simp only [gsw]
  by_cases a0 : x.toInt = 0
  · simp [a0]
  by_cases a1 : x.toInt = 1
  · simp [a1]
  by_cases a2 : x.toInt = 2
  · simp [a2]
  rw [if_neg a0, if_neg (by omega), if_neg (by omega), if_neg a0, if_neg a1, if_neg a2]; rfl
end PT
