/-! Pure part: the reference's damage, its frame, whether a place is damaged. -/
section MC
variable {σ : Mem} {W : Wnd} {O : List Nat} {P : Nat → Nat → Nat → Int32} {S : Nat → Int32} {D E : List Evt} {X : Int32} {T : Evt} {F N : Int32} {M : Int}
theorem map_getD {d0 : Evt} (D : List Evt) (i : Nat) (h : i < D.length) : (D.map dinc).getD i d0 = dinc (D.getD i d0) := by
  simp [List.getD_eq_getElem?_getD, h]
theorem M_dam_50 (r bt a b : Int32) (hr : -1000 ≤ r.toInt ∧ r.toInt ≤ 1000) (hb : -1000 ≤ bt.toInt ∧ bt.toInt ≤ 1000) : f_M_damage a b (r - 1) (bt - 1) σ = f_M_damage_50 σ (mmax a 0) (mmax b 0) (mmin r 24 - 1) (mmin bt 16 - 1) := by
  have e1 : (if 0 ≤ a then a else 0) = mmax a 0 := by
    unfold mmax; by_cases h : a < 0
    · rw [if_pos h, if_neg (by rw [z_lt] at h; rw [z_le]; omega)]
    · rw [if_neg h, if_pos (by rw [z_lt] at h; rw [z_le]; omega)]
  have e2 : (if 0 ≤ b then b else 0) = mmax b 0 := by
    unfold mmax; by_cases h : b < 0
    · rw [if_pos h, if_neg (by rw [z_lt] at h; rw [z_le]; omega)]
    · rw [if_neg h, if_pos (by rw [z_lt] at h; rw [z_le]; omega)]
  have er : (r - 1).toInt = r.toInt - 1 := by rw [z_sub (by rw [zk_1]; omega) (by rw [zk_1]; omega), zk_1]
  have eb : (bt - 1).toInt = bt.toInt - 1 := by rw [z_sub (by rw [zk_1]; omega) (by rw [zk_1]; omega), zk_1]
  have e3 : (if r - 1 ≤ 23 then r - 1 else 23) = mmin r 24 - 1 := by
    unfold mmin; by_cases h : 24 < r
    · rw [if_pos h, if_neg (by rw [z_lt, zk_24] at h; rw [z_le, zk_23]; omega)]; rfl
    · rw [if_neg h, if_pos (by rw [z_lt, zk_24] at h; rw [z_le, zk_23]; omega)]
  have e4 : (if bt - 1 ≤ 15 then bt - 1 else 15) = mmin bt 16 - 1 := by
    unfold mmin; by_cases h : 16 < bt
    · rw [if_pos h, if_neg (by rw [z_lt, zk_16] at h; rw [z_le, zk_15]; omega)]; rfl
    · rw [if_neg h, if_pos (by rw [z_lt, zk_16] at h; rw [z_le, zk_15]; omega)]
  rw [← e1, ← e2, ← e3, ← e4]
  unfold f_M_damage f_M_damage_0 f_M_damage_9 f_M_damage_20 f_M_damage_34
  by_cases h1 : 0 ≤ a <;> by_cases h2 : 0 ≤ b <;> by_cases h3 : r - 1 ≤ 23 <;> by_cases h4 : bt - 1 ≤ 15 <;> simp only [h1, h2, h3, h4, if_true, if_false]
theorem e_M_damage (h : MD σ D) (hD : DI D) (a b r bt : Int32) (hr : -1000 ≤ r.toInt ∧ r.toInt ≤ 1000) (hb : -1000 ≤ bt.toInt ∧ bt.toInt ≤ 1000) : ∃ u, f_M_damage a b (r - 1) (bt - 1) σ = some u ∧ MD u (dadd D a b r bt) ∧ fr [19, 32, 33, 34, 35] σ u ∧ fo [16] σ u := by
  rw [M_dam_50 r bt a b hr hb]
  have iR := mmin_i r 24
  have iB := mmin_i bt 16
  have iL := mmax_i a 0
  have iT := mmax_i b 0
  rw [zk_24] at iR; rw [zk_16] at iB; rw [zk_0] at iL iT
  have eR : (mmin r 24 - 1).toInt = (mmin r 24).toInt - 1 := by rw [z_sub (by rw [zk_1]; omega) (by rw [zk_1]; omega), zk_1]
  have eB : (mmin bt 16 - 1).toInt = (mmin bt 16).toInt - 1 := by rw [z_sub (by rw [zk_1]; omega) (by rw [zk_1]; omega), zk_1]
  have hadd : dadd D a b r bt = if (mmin r 24 ≤ mmax a 0 ∨ mmin bt 16 ≤ mmax b 0) then D else if D.length < 6 then D ++ [dclip a b r bt] else [D.foldl djn (dclip a b r bt)] := rfl
  rw [hadd]
  unfold f_M_damage_50 f_M_damage_66 f_M_damage_303
  by_cases h1 : mmin r 24 ≤ mmax a 0
  · rw [if_pos (by rw [z_le] at h1; rw [z_lt]; omega), if_pos (Or.inl h1)]; exact ⟨σ, rfl, h, fr_rf, fo_rf⟩
  by_cases h2 : mmin bt 16 ≤ mmax b 0
  · rw [if_neg (by rw [z_le] at h1; rw [z_lt]; omega), if_neg (by rw [z_le] at h2 ⊢; omega), if_pos (Or.inr h2)]; exact ⟨σ, rfl, h, fr_rf, fo_rf⟩
  rw [if_neg (by rw [z_le] at h1; rw [z_lt]; omega), if_pos (by rw [z_le] at h2 ⊢; omega), if_neg (show ¬ (mmin r 24 ≤ mmax a 0 ∨ mmin bt 16 ≤ mmax b 0) from fun q => q.elim h1 h2)]
  obtain ⟨a1, a2, a3⟩ := h
  have hg : gin (nI D.length) 7 = true := gin_nI (by omega) (by omega)
  have hc : (nI D.length).toNatClampNeg = D.length := nI_clamp (by omega)
  have e36 : ∀ (μ : Mem) (k : Nat) (v : Int32), m2 μ 32 k v 19 16 = μ 19 16 := fun μ k v => by rw [m2_at, if_neg (by omega)]
  have e37 : ∀ (μ : Mem) (k : Nat) (v : Int32), m2 μ 33 k v 19 16 = μ 19 16 := fun μ k v => by rw [m2_at, if_neg (by omega)]
  have e38 : ∀ (μ : Mem) (k : Nat) (v : Int32), m2 μ 34 k v 19 16 = μ 19 16 := fun μ k v => by rw [m2_at, if_neg (by omega)]
  have e39 : ∀ (μ : Mem) (k : Nat) (v : Int32), m2 μ 35 k v 19 16 = μ 19 16 := fun μ k v => by rw [m2_at, if_neg (by omega)]
  have e40 : ∀ (μ : Mem) (v : Int32), m2 μ 19 16 v 19 16 = v := fun μ v => by rw [m2_at, if_pos ⟨rfl, rfl⟩]
  simp only [gbm_e, e36, e37, e38, e39, e40, a1, if_pos hg, hc]
  have hz : rOK (dclip a b r bt) := by
    unfold rOK dclip; rw [z_le] at h1 h2; simp only; omega
  have hv := Ev_put (dinc (dclip a b r bt)) a3 (by decide) (by decide) (by decide) (by decide) (by decide) (by decide)
  rw [List.length_map] at hv
  have hpf := pt4_fr σ 32 33 34 35 D.length (dinc (dclip a b r bt))
  have fz : fr [19, 32, 33, 34, 35] σ (m2 (pt4 σ 32 33 34 35 D.length (dinc (dclip a b r bt))) 19 16 (nI D.length + 1)) := fr_m2 (fr_up hpf (by decide)) (by simp)
  have fs : fo [16] σ (m2 (pt4 σ 32 33 34 35 D.length (dinc (dclip a b r bt))) 19 16 (nI D.length + 1)) := fo_m2 (fo_fr hpf (by decide)) (by simp)
  have hev : Ev (m2 (pt4 σ 32 33 34 35 D.length (dinc (dclip a b r bt))) 19 16 (nI D.length + 1)) 32 33 34 35 (D.map dinc ++ [dinc (dclip a b r bt)]) := hv.keep (m2_ne _ _ _ (by decide)) (m2_ne _ _ _ (by decide)) (m2_ne _ _ _ (by decide)) (m2_ne _ _ _ (by decide))
  have h16 : m2 (pt4 σ 32 33 34 35 D.length (dinc (dclip a b r bt))) 19 16 (nI D.length + 1) 19 16 = nI (D.length + 1) := by rw [m2_at, if_pos ⟨rfl, rfl⟩, nI_1]
  show ∃ u, (if nI D.length + 1 = 7 then f_M_damage_133 gN (m2 (pt4 σ 32 33 34 35 D.length (dinc (dclip a b r bt))) 19 16 (nI D.length + 1)) 1 else some (m2 (pt4 σ 32 33 34 35 D.length (dinc (dclip a b r bt))) 19 16 (nI D.length + 1))) = some u ∧ _
  generalize m2 (pt4 σ 32 33 34 35 D.length (dinc (dclip a b r bt))) 19 16 (nI D.length + 1) = μ at fz fs hev h16 ⊢
  rw [nI_1]
  by_cases h3 : D.length < 6
  · rw [if_neg (by simp (disch := (first | omega | (simp (disch := omega) only [nI_toInt, zk_0, zk_1, zk_2, zk_3, zk_4, zk_5, zk_6, zk_7, zk_8, zk_11, zk_12, zk_15, zk_16, zk_23, zk_24, zk_31, zk_32, zk_50, zk_255, zk_384, zk_400, zk_1023, zk_3072, zk_m1, zk_m50]; omega))) only [z_le, z_lt, z_eq, z_gin, z_cl, nI_toInt, z_add, z_sub, zk_0, zk_1, zk_2, zk_3, zk_4, zk_5, zk_6, zk_7, zk_8, zk_11, zk_12, zk_15, zk_16, zk_23, zk_24, zk_31, zk_32, zk_50, zk_255, zk_384, zk_400, zk_1023, zk_3072, zk_m1, zk_m50]; omega), if_pos h3]
    refine ⟨μ, rfl, ⟨?_, by simp only [List.length_append, List.length_cons, List.length_nil]; omega, ?_⟩, fz, fs⟩
    · rw [h16]; simp only [List.length_append, List.length_cons, List.length_nil]
    · rw [List.map_append]; exact hev
  · have h6 : D.length = 6 := by omega
    rw [if_pos (by rw [h6]; rfl), if_neg h3]
    obtain ⟨d0, d1, d2, d3, d4, d5, rfl⟩ : ∃ d0 d1 d2 d3 d4 d5, D = [d0, d1, d2, d3, d4, d5] := by
      match D, h6 with
      | [d0, d1, d2, d3, d4, d5], _ => exact ⟨d0, d1, d2, d3, d4, d5, rfl⟩
    have hat : ∀ i, i < 7 → at4 μ i (([d0, d1, d2, d3, d4, d5].map dinc ++ [dinc (dclip a b r bt)]).getD i ev0) := fun i hi => hev i (by simp; omega)
    obtain ⟨u, e1, e2, e3, e4, e5⟩ := M_join_l (fun i => ([d0, d1, d2, d3, d4, d5].map dinc ++ [dinc (dclip a b r bt)]).getD i ev0) 6 1 gN μ (dinc d0) rfl (Nat.le_refl _) (by decide) (hat 0 (by omega)) (fun i h1 h2 => hat i h2)
    refine ⟨u, e1, ⟨by rw [e3]; rfl, by simp, fun i hi => ?_⟩, fr_tr fz e4, fo_tr fs e5⟩
    have hi0 : i = 0 := by simp at hi; omega
    subst hi0
    have hje := join_eq d0 d1 d2 d3 d4 d5 (dclip a b r bt) (hD d0 (by simp)) (hD d1 (by simp)) (hD d2 (by simp)) (hD d3 (by simp)) (hD d4 (by simp)) (hD d5 (by simp)) hz
    show u 32 0 = (dinc (djn (djn (djn (djn (djn (djn (dclip a b r bt) d0) d1) d2) d3) d4) d5)).1 ∧ u 33 0 = (dinc (djn (djn (djn (djn (djn (djn (dclip a b r bt) d0) d1) d2) d3) d4) d5)).2.1 ∧ u 34 0 = (dinc (djn (djn (djn (djn (djn (djn (dclip a b r bt) d0) d1) d2) d3) d4) d5)).2.2.1 ∧ u 35 0 = (dinc (djn (djn (djn (djn (djn (djn (dclip a b r bt) d0) d1) d2) d3) d4) d5)).2.2.2
    rw [← hje]
    exact e2
theorem RM_dmg (hR : RM σ W O P S D E X T F N M) {u : Mem} {D' : List Evt} (hd : MD u D') (hf : fr [19, 32, 33, 34, 35] σ u) (hs : fo [16] σ u) : RM u W O P S D' E X T F N M ∧ modF σ u ∧ u 19 0 = σ 19 0 := by
  obtain ⟨rw, ro, rp, rS, rd, re, rf, rn, rs⟩ := hR
  refine ⟨⟨rw.keep (fun q h1 h2 => hf q (by simp; omega)), ro.keep (hf 29 (by decide)) (hs 11 (by decide)) (hs 12 (by decide)), rp.keep (hf 30 (by decide)), fun i hi => ?_, hd, re.keep (fun q h1 h2 => hf q (by simp; omega)) (fun f hq => hs f (by simp; omega)), ?_, ?_, ?_⟩, modF_fr hf (by decide), hs 0 (by decide)⟩
  · rw [hf 20 (by decide)]; exact rS i hi
  · rw [hs 15 (by decide)]; exact rf
  · rw [hs 36 (by decide)]; exact rn
  · rw [hs 21 (by decide)]; exact rs
theorem i32_0 (a : Int32) : a + 0 = a := Int32.add_zero a
theorem e_M_damageFrame (hR : RM σ W O P S D E X T F N M) (hD : DI D) {w a b s : Nat} (hw : w < 8) (hi : WI1 W w a b s) : ∃ u, f_M_damageFrame (nI w) σ = some u ∧ RM u W O P S (dfr D W w) E X T F N M ∧ modF σ u ∧ u 19 0 = σ 19 0 := by
  obtain ⟨-, a1, a2, a3, a4, -⟩ := hR.1 w hw
  have hg : gin (nI w) 8 = true := gin_nI hw (by omega)
  have hc : (nI w).toNatClampNeg = w := nI_clamp (by omega)
  obtain ⟨g1, g2, -, g4, g5, g6, g7, -, g9, g10, g11, g12, -⟩ := hi
  have x1 : (W w 1 + W w 3).toInt = (W w 1).toInt + (W w 3).toInt := by rw [z_add] <;> rw [g1, nI_toInt (by omega)] <;> omega
  have x2 : (W w 2 + W w 4).toInt = (W w 2).toInt + (W w 4).toInt := by rw [z_add] <;> rw [g2, nI_toInt (by omega)] <;> omega
  have y1 : (W w 3).toInt = a := by rw [g1, nI_toInt (by omega)]
  have y2 : (W w 4).toInt = b := by rw [g2, nI_toInt (by omega)]
  unfold f_M_damageFrame f_M_damageFrame_0
  rw [if_pos hg, if_pos hg, if_pos hg, if_pos hg, if_pos hg, if_pos hg, hc, a1, a2, a3, a4]
  obtain ⟨u, e1, d1, f1, s1⟩ := e_M_damage hR.2.2.2.2.1 hD (W w 1) (W w 2) (W w 1 + W w 3) (W w 2 + W w 4) (by omega) (by omega)
  obtain ⟨r2, c2, z2⟩ := RM_dmg hR d1 f1 s1
  rw [e1, gbv_some]
  refine ⟨u, rfl, ?_, c2, z2⟩
  unfold dfr; rw [i32_0, i32_0]; exact r2
theorem M_isd_l (h : MD σ D) (hD : DI D) (x y : Int32) : ∀ (d k n : Nat) (b : Bool), k + d = D.length → d < n → f_M_isDamaged_5 n σ x y (bI b) (nI k) = some (bI (b || (D.drop k).any (din x y)), σ) := by
  obtain ⟨a1, a2, a3⟩ := h
  intro d
  induction d with
  | zero =>
    intro k n b h1 h2
    obtain ⟨n, rfl⟩ : ∃ j, n = j + 1 := ⟨n - 1, by omega⟩
    show f_M_isDamaged_5B (f_M_isDamaged_5 n) σ x y (bI b) (nI k) = _
    unfold f_M_isDamaged_5B
    rw [a1, if_pos (by simp (disch := (first | omega | (simp (disch := omega) only [nI_toInt, zk_0, zk_1, zk_2, zk_3, zk_4, zk_5, zk_6, zk_7, zk_8, zk_11, zk_12, zk_15, zk_16, zk_23, zk_24, zk_31, zk_32, zk_50, zk_255, zk_384, zk_400, zk_1023, zk_3072, zk_m1, zk_m50]; omega))) only [z_le, z_lt, z_eq, z_gin, z_cl, nI_toInt, z_add, z_sub, zk_0, zk_1, zk_2, zk_3, zk_4, zk_5, zk_6, zk_7, zk_8, zk_11, zk_12, zk_15, zk_16, zk_23, zk_24, zk_31, zk_32, zk_50, zk_255, zk_384, zk_400, zk_1023, zk_3072, zk_m1, zk_m50]; omega), if_pos (bI_and b), List.drop_eq_nil_of_le (by omega)]; simp
  | succ d ih =>
    intro k n b h1 h2
    obtain ⟨n, rfl⟩ : ∃ j, n = j + 1 := ⟨n - 1, by omega⟩
    show f_M_isDamaged_5B (f_M_isDamaged_5 n) σ x y (bI b) (nI k) = _
    unfold f_M_isDamaged_5B f_M_isDamaged_66 f_M_isDamaged_62 f_M_isDamaged_67
    have hg : gin (nI k) 7 = true := gin_nI (by omega) (by omega)
    have hc : (nI k).toNatClampNeg = k := nI_clamp (by omega)
    obtain ⟨v1, v2, v3, v4⟩ := a3 k (by rw [List.length_map]; omega)
    rw [map_getD D k (by omega)] at v1 v2 v3 v4
    have hd := hD _ (getD_mem D ev0 k (by omega))
    have i0 := ih (k + 1) n false (by omega) (by omega)
    have i1 := ih (k + 1) n true (by omega) (by omega)
    rw [bI_f] at i0; rw [bI_t] at i1
    rw [a1, if_neg (by simp (disch := (first | omega | (simp (disch := omega) only [nI_toInt, zk_0, zk_1, zk_2, zk_3, zk_4, zk_5, zk_6, zk_7, zk_8, zk_11, zk_12, zk_15, zk_16, zk_23, zk_24, zk_31, zk_32, zk_50, zk_255, zk_384, zk_400, zk_1023, zk_3072, zk_m1, zk_m50]; omega))) only [z_le, z_lt, z_eq, z_gin, z_cl, nI_toInt, z_add, z_sub, zk_0, zk_1, zk_2, zk_3, zk_4, zk_5, zk_6, zk_7, zk_8, zk_11, zk_12, zk_15, zk_16, zk_23, zk_24, zk_31, zk_32, zk_50, zk_255, zk_384, zk_400, zk_1023, zk_3072, zk_m1, zk_m50]; omega), nI_1, i0, i1, drop_getD D ev0 k (by omega), List.any_cons]
    cases b with
    | true => rw [if_neg (by decide)]; simp
    | false =>
      rw [if_pos (by decide), if_pos hg, if_pos hg, if_pos hg, if_pos hg, hc, v1, v2, v3, v4]
      generalize D.getD k ev0 = e at hd ⊢
      unfold rOK at hd
      have m1 : (e.2.2.1 - 1).toInt = e.2.2.1.toInt - 1 := by rw [z_sub (by rw [zk_1]; omega) (by rw [zk_1]; omega), zk_1]
      have m2' : (e.2.2.2 - 1).toInt = e.2.2.2.toInt - 1 := by rw [z_sub (by rw [zk_1]; omega) (by rw [zk_1]; omega), zk_1]
      unfold din dinc
      by_cases c1 : x < e.1
      · rw [if_pos c1, decide_eq_true c1]; simp
      by_cases c2 : e.2.2.1 ≤ x
      · rw [if_neg c1, if_pos (by rw [z_le] at c2; rw [z_lt]; simp only; omega), decide_eq_true c2]; simp
      by_cases c3 : y < e.2.1
      · rw [if_neg c1, if_neg (by rw [z_le] at c2; rw [z_lt]; simp only; omega), if_pos c3, decide_eq_true c3]; simp
      by_cases c4 : e.2.2.2 ≤ y
      · rw [if_neg c1, if_neg (by rw [z_le] at c2; rw [z_lt]; simp only; omega), if_neg c3, if_pos (by rw [z_le] at c4; rw [z_lt]; simp only; omega), decide_eq_true c4]; simp
      rw [if_neg c1, if_neg (by rw [z_le] at c2; rw [z_lt]; simp only; omega), if_neg c3, if_neg (by rw [z_le] at c4; rw [z_lt]; simp only; omega), decide_eq_false c1, decide_eq_false c2, decide_eq_false c3, decide_eq_false c4]; simp
theorem e_M_isDamaged (h : MD σ D) (hD : DI D) (x y : Int32) : f_M_isDamaged x y σ = some (bI (D.any (din x y)), σ) := by
  have h2 : f_M_isDamaged x y σ = some (bI (false || (D.drop 0).any (din x y)), σ) := M_isd_l h hD x y D.length 0 gN false (by omega) (by unfold gN; have := h.2.1; omega)
  simpa using h2
end MC
