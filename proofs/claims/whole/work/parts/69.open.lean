/-! Pure part: the class's open. -/
section PP
theorem fr.hi {l : List Nat} {σ u : Mem} (h : fr l σ u) (hl : ∀ q ∈ l, q < 41) : ∀ q, 41 ≤ q → u q = σ q := fun q hq => h q (fun hm => by have := hl q hm; omega)
theorem fr.pn {σ u : Mem} {k : Nat} (h : fr [gPB + k] σ u) : ∀ q, q < 41 → u q = σ q := fun q hq => h q (by simp [gPB]; omega)
/-- the windows behind open -/
def wO (W : Wnd) (k : Nat) (x y a b s : Int32) : Wnd := fun w f => if w = k then (if f = 0 then 1 else if f = 1 then x else if f = 2 then y else if f = 3 then a else if f = 4 then b else if f = 5 then s else 0) else W w f
def pO (P : Nat → Nat → Nat → Int32) (k : Nat) : Nat → Nat → Nat → Int32 := fun w u v => if w = k then 0 else P w u v
theorem wO_ne {W : Wnd} {k w : Nat} {x y a b s : Int32} (h : w ≠ k) (f : Nat) : wO W k x y a b s w f = W w f := by unfold wO; rw [if_neg h]
theorem blk_ext {W W' : Wnd} {c w : Nat} (h0 : W w 0 = W' w 0) (h3 : W w 3 = W' w 3) (h4 : W w 4 = W' w 4) (h5 : W w 5 = W' w 5) : blk W c w = blk W' c w := by unfold blk; rw [h0, h3, h4, h5]
theorem WI1_ext {W W' : Wnd} {w a b s : Nat} (h : ∀ f, f < 8 → W w f = W' w f) (hi : WI1 W w a b s) : WI1 W' w a b s := by
  unfold WI1 at hi ⊢
  rw [← h 3 (by omega), ← h 4 (by omega), ← h 5 (by omega), ← h 1 (by omega), ← h 2 (by omega), ← h 6 (by omega), ← h 7 (by omega)]; exact hi
theorem nI_inj {a b : Nat} (ha : a < 2147483648) (hb : b < 2147483648) (h : nI a = nI b) : a = b := (nI_eq (by omega) (by omega)).1 h
theorem WI1_uniq {W : Wnd} {w a b s a' b' s' : Nat} (h : WI1 W w a b s) (h' : WI1 W w a' b' s') : a = a' ∧ b = b' ∧ s = s' := by
  obtain ⟨h1, h2, h3, h4, h5, h6, h7, h8, -⟩ := h
  obtain ⟨g1, g2, g3, g4, g5, g6, g7, g8, -⟩ := h'
  exact ⟨nI_inj (by omega) (by omega) (h1.symm.trans g1), nI_inj (by omega) (by omega) (h2.symm.trans g2), nI_inj (by omega) (by omega) (h3.symm.trans g3)⟩
/-- near numbers, sizes, as natural numbers -/
theorem near_b {a b : Int32} (h : nearB a b = true) : -50 ≤ a.toInt ∧ a.toInt ≤ 50 ∧ -50 ≤ b.toInt ∧ b.toInt ≤ 50 := by
  unfold nearB at h
  simp only [Bool.and_eq_true, Bool.not_eq_true', decide_eq_false_iff_not, decide_eq_true_eq, z_lt, z_le, zk_m50, zk_50] at h
  omega
theorem size_b {a b : Int32} (h : sizeB a b = true) : ∃ m n : Nat, a = nI m ∧ b = nI n ∧ 1 ≤ m ∧ m ≤ 24 ∧ 1 ≤ n ∧ n ≤ 16 := by
  unfold sizeB at h
  simp only [Bool.and_eq_true, Bool.not_eq_true', decide_eq_false_iff_not, decide_eq_true_eq, z_lt, z_le, zk_1, zk_24, zk_16] at h
  exact ⟨a.toInt.toNat, b.toInt.toNat, z_nI a (by omega), z_nI b (by omega), by omega, by omega, by omega, by omega⟩
theorem wO_WI1 {W : Wnd} {k m n s : Nat} {x y : Int32} (hxy : nearB x y = true) (hm : 1 ≤ m ∧ m ≤ 24) (hn : 1 ≤ n ∧ n ≤ 16) (hs : s + m * n ≤ 400) : WI1 (wO W k x y (nI m) (nI n) (nI s)) k m n s := by
  have hb := near_b hxy
  unfold WI1 wO
  simp only [if_true, show ¬ (3 = 0) by omega, show ¬ (3 = 1) by omega, show ¬ (3 = 2) by omega, show ¬ (4 = 0) by omega, show ¬ (4 = 1) by omega, show ¬ (4 = 2) by omega, show ¬ (4 = 3) by omega, show ¬ (5 = 0) by omega, show ¬ (5 = 1) by omega, show ¬ (5 = 2) by omega, show ¬ (5 = 3) by omega, show ¬ (5 = 4) by omega, show ¬ (1 = 0) by omega, show ¬ (2 = 0) by omega, show ¬ (2 = 1) by omega, show ¬ (6 = 0) by omega, show ¬ (6 = 1) by omega, show ¬ (6 = 2) by omega, show ¬ (6 = 3) by omega, show ¬ (6 = 4) by omega, show ¬ (6 = 5) by omega, show ¬ (7 = 0) by omega, show ¬ (7 = 1) by omega, show ¬ (7 = 2) by omega, show ¬ (7 = 3) by omega, show ¬ (7 = 4) by omega, show ¬ (7 = 5) by omega, if_false, zk_0]
  exact ⟨trivial, trivial, trivial, hm.1, hm.2, hn.1, hn.2, hs, hb.1, hb.2.1, hb.2.2.1, hb.2.2.2, by omega, by omega, by omega, by omega⟩
theorem wO_op {W : Wnd} {k : Nat} {x y a b s : Int32} : wO W k x y a b s k 0 = 1 := by unfold wO; simp
theorem frW_open {W : Wnd} {k m n s : Nat} {x y : Int32} (hk : k < 8) (hc0 : W k 0 = 0) (hxy : nearB x y = true) (hm : 1 ≤ m ∧ m ≤ 24) (hn : 1 ≤ n ∧ n ≤ 16) (hs : s + m * n ≤ 400) (c : Nat) (hc : c < 400) :
    frW (wO W k x y (nI m) (nI n) (nI s)) c = (frW W c && !(decide (s ≤ c) && decide (c < s + m * n))) := by
  have hk1 := blk_iff (wO_WI1 (W := W) (k := k) hxy hm hn hs) (by rw [wO_op]; decide) hc
  rw [Bool.eq_iff_iff, frW_iff, Bool.and_eq_true, frW_iff]
  simp only [Bool.not_eq_true', Bool.and_eq_false_iff, decide_eq_false_iff_not]
  constructor
  · intro h
    refine ⟨fun i hi => ?_, ?_⟩
    · by_cases hik : i = k
      · rw [hik]; exact blk_closed hc0
      · rw [← h i hi]; exact blk_ext (wO_ne hik 0).symm (wO_ne hik 3).symm (wO_ne hik 4).symm (wO_ne hik 5).symm
    · have := h k hk
      by_cases h1 : s ≤ c
      · right; intro h2; rw [hk1.2 ⟨h1, h2⟩] at this; cases this
      · left; exact h1
  · rintro ⟨h1, h2⟩ i hi
    by_cases hik : i = k
    · rw [hik]
      cases hb : blk (wO W k x y (nI m) (nI n) (nI s)) c k with
      | false => rfl
      | true => have := hk1.1 hb; rcases h2 with h2 | h2 <;> omega
    · rw [← h1 i hi]; exact blk_ext (wO_ne hik 0) (wO_ne hik 3) (wO_ne hik 4) (wO_ne hik 5)
theorem C_open_bad {σ : Mem} {x y a b : Int32} (h : nearB x y = false ∨ sizeB a b = false) : f_S_open x y a b σ = some (.inr IAE, σ) := by
  unfold f_S_open f_S_open_0
  rw [e_requireNear]
  by_cases h1 : nearB x y = true
  · have h2 : sizeB a b = false := by rcases h with h | h
                                      · rw [h1] at h; cases h
                                      · exact h
    rw [if_pos h1, gbx_l, e_requireSize, h2]; rfl
  · rw [if_neg h1, gbx_r]
theorem C_open_full {σ : Mem} {W : Wnd} {x y a b : Int32} (hw : Cwin σ W) (hs : Cst σ W) (h1 : nearB x y = true) (h2 : sizeB a b = true) (h3 : lcD W 8 0 = 8 ∨ ffind (frW W) (a * b) 400 0 0 = -1) : f_S_open x y a b σ = some (.inr ISE, σ) := by
  have he : ffind (fun c => decide (σ 8 c = 0)) (a * b) 400 0 0 = ffind (frW W) (a * b) 400 0 0 := ffind_ext _ _ _ 400 0 0 (fun c _ hc => by
    rw [hs c (by omega)]; cases frW W c <;> decide)
  unfold f_S_open f_S_open_0 f_S_open_42
  rw [e_requireNear, if_pos h1, gbx_l, e_requireSize, if_pos h2, gbx_l, e_leastClosed hw, gb_some, e_T_firstFree, gb_some, he]
  have hl := lcD_spec W 8 0
  by_cases h5 : lcD W 8 0 = 8
  · simp only [h5, if_true]; rfl
  · rw [if_neg h5, if_neg (by simp (disch := (first | omega | (simp (disch := omega) only [nI_toInt, zk_0, zk_1, zk_2, zk_3, zk_4, zk_5, zk_6, zk_7, zk_8, zk_11, zk_12, zk_15, zk_16, zk_23, zk_24, zk_31, zk_32, zk_50, zk_255, zk_384, zk_400, zk_1023, zk_3072, zk_m1, zk_m50]; omega))) only [z_le, z_lt, z_eq, z_gin, z_cl, nI_toInt, z_add, z_sub, zk_0, zk_1, zk_2, zk_3, zk_4, zk_5, zk_6, zk_7, zk_8, zk_11, zk_12, zk_15, zk_16, zk_23, zk_24, zk_31, zk_32, zk_50, zk_255, zk_384, zk_400, zk_1023, zk_3072, zk_m1, zk_m50]; omega), if_pos (h3.resolve_left h5)]; rfl
theorem C_open_ok {σ : Mem} {W : Wnd} {O : List Nat} {P : Nat → Nat → Nat → Int32} {S : Nat → Int32} {D E : List Evt} {X : Int32} {T : Evt} {F N : Int32} (hR : RC σ W O P S D E X T F N) (hI : WI W) (hO : OI W O) {x y : Int32} {m n s k : Nat}
    (h1 : nearB x y = true) (hm : 1 ≤ m ∧ m ≤ 24) (hn : 1 ≤ n ∧ n ≤ 16) (hk : lcD W 8 0 = k) (hk8 : k < 8) (hf : ffind (frW W) (nI m * nI n) 400 0 0 = nI s) (hs : s + m * n ≤ 400) (hfr : ∀ c, s ≤ c → c < s + m * n → frW W c = true) :
    ∃ u, f_S_open x y (nI m) (nI n) σ = some (.inl (nI k), u) ∧ RC u (wO W k x y (nI m) (nI n) (nI s)) (k :: O) (pO P k) S (dadd D (x + 0) (y + 0) (x + nI m) (y + nI n)) E X T (nI k) N ∧ clsF σ u := by
  obtain ⟨rw, ro, rs, rp, rS, rd, re, rf, rn⟩ := hR
  have h2 : sizeB (nI m) (nI n) = true := by
    unfold sizeB
    simp only [Bool.and_eq_true, Bool.not_eq_true', decide_eq_false_iff_not, decide_eq_true_eq]
    refine ⟨⟨⟨?_, ?_⟩, ?_⟩, ?_⟩ <;> (simp (disch := (first | omega | (simp (disch := omega) only [nI_toInt, zk_0, zk_1, zk_2, zk_3, zk_4, zk_5, zk_6, zk_7, zk_8, zk_11, zk_12, zk_15, zk_16, zk_23, zk_24, zk_31, zk_32, zk_50, zk_255, zk_384, zk_400, zk_1023, zk_3072, zk_m1, zk_m50]; omega))) only [z_le, z_lt, z_eq, z_gin, z_cl, nI_toInt, z_add, z_sub, zk_0, zk_1, zk_2, zk_3, zk_4, zk_5, zk_6, zk_7, zk_8, zk_11, zk_12, zk_15, zk_16, zk_23, zk_24, zk_31, zk_32, zk_50, zk_255, zk_384, zk_400, zk_1023, zk_3072, zk_m1, zk_m50]; omega)
  have hc0 : W k 0 = 0 := by have := (lcD_spec W 8 0).2.2; rw [hk] at this; exact this (by omega)
  have he : ffind (fun c => decide (σ 8 c = 0)) (nI m * nI n) 400 0 0 = ffind (frW W) (nI m * nI n) 400 0 0 := ffind_ext _ _ _ 400 0 0 (fun c _ hc => by
    rw [rs c (by omega)]; cases frW W c <;> decide)
  unfold f_S_open f_S_open_0 f_S_open_42
  rw [e_requireNear, if_pos h1, gbx_l, e_requireSize, if_pos h2, gbx_l, e_leastClosed rw, gb_some, e_T_firstFree, gb_some, he, hf, hk, if_neg (show ¬ k = 8 by omega), if_neg (by simp (disch := (first | omega | (simp (disch := omega) only [nI_toInt, zk_0, zk_1, zk_2, zk_3, zk_4, zk_5, zk_6, zk_7, zk_8, zk_11, zk_12, zk_15, zk_16, zk_23, zk_24, zk_31, zk_32, zk_50, zk_255, zk_384, zk_400, zk_1023, zk_3072, zk_m1, zk_m50]; omega))) only [z_le, z_lt, z_eq, z_gin, z_cl, nI_toInt, z_add, z_sub, zk_0, zk_1, zk_2, zk_3, zk_4, zk_5, zk_6, zk_7, zk_8, zk_11, zk_12, zk_15, zk_16, zk_23, zk_24, zk_31, zk_32, zk_50, zk_255, zk_384, zk_400, zk_1023, zk_3072, zk_m1, zk_m50]; omega), if_neg (by simp (disch := (first | omega | (simp (disch := omega) only [nI_toInt, zk_0, zk_1, zk_2, zk_3, zk_4, zk_5, zk_6, zk_7, zk_8, zk_11, zk_12, zk_15, zk_16, zk_23, zk_24, zk_31, zk_32, zk_50, zk_255, zk_384, zk_400, zk_1023, zk_3072, zk_m1, zk_m50]; omega))) only [z_le, z_lt, z_eq, z_gin, z_cl, nI_toInt, z_add, z_sub, zk_0, zk_1, zk_2, zk_3, zk_4, zk_5, zk_6, zk_7, zk_8, zk_11, zk_12, zk_15, zk_16, zk_23, zk_24, zk_31, zk_32, zk_50, zk_255, zk_384, zk_400, zk_1023, zk_3072, zk_m1, zk_m50]; omega), pk_mul]
  obtain ⟨u7, e7, t1, t2, f7⟩ := e_T_take σ s (m * n) hs
  rw [e7, gbv_some]
  have hg : gin (nI k) 8 = true := gin_nI hk8 (by omega)
  have hcl : (nI k).toNatClampNeg = k := nI_clamp (by omega)
  rw [if_pos hg, hcl, gbn_e, e_P_begin, gbv_some, if_pos hg, gbn_e, e_P_place, gbv_some]
  have hw7 : Cwin u7 W := rw.keep (f7.hi (by decide))
  have hw9 := Cwin_set (Cwin_set (Cwin_set (Cwin_set (Cwin_set (Cwin_set (Cwin_set (Cwin_set hw7 k 0 1) k 5 (nI s)) k 3 (nI m)) k 4 (nI n)) k 6 0) k 7 0) k 1 x) k 2 y
  have f9 : fr [gPB + k] u7 (m2 (m2 (m2 (m2 (m2 (m2 (m2 (m2 u7 (gPB + k) 0 1) (gPB + k) 5 (nI s)) (gPB + k) 3 (nI m)) (gPB + k) 4 (nI n)) (gPB + k) 6 0) (gPB + k) 7 0) (gPB + k) 1 x) (gPB + k) 2 y) :=
    fr_m2 (fr_m2 (fr_m2 (fr_m2 (fr_m2 (fr_m2 (fr_m2 (fr_m2 fr_rf (by simp)) (by simp)) (by simp)) (by simp)) (by simp)) (by simp)) (by simp)) (by simp)
  generalize m2 (m2 (m2 (m2 (m2 (m2 (m2 (m2 u7 (gPB + k) 0 1) (gPB + k) 5 (nI s)) (gPB + k) 3 (nI m)) (gPB + k) 4 (nI n)) (gPB + k) 6 0) (gPB + k) 7 0) (gPB + k) 1 x) (gPB + k) 2 y = v at hw9 f9 ⊢
  have hw9 : Cwin v (wO W k x y (nI m) (nI n) (nI s)) := Cwin_ext hw9 (fun w hw f hf => by
    unfold wset wO
    by_cases hwk : w = k
    · subst hwk
      simp only [true_and, if_true]
      rcases (show f = 0 ∨ f = 1 ∨ f = 2 ∨ f = 3 ∨ f = 4 ∨ f = 5 ∨ f = 6 ∨ f = 7 by omega) with rfl | rfl | rfl | rfl | rfl | rfl | rfl | rfl <;> simp
    · simp only [hwk, false_and, if_false])
  have ho9 : Cord v O := ro.keep ((f9.pn 3 (by omega)).trans (f7 3 (by decide))) ((f9.pn 4 (by omega)).trans (f7 4 (by decide)))
  obtain ⟨u12, e12, o12, f12⟩ := e_O_addInFront k ho9 (hO.len_lt hk8 hc0)
  rw [e12, gbv_some, if_pos hg, gbn_e]
  have hw12 : Cwin u12 (wO W k x y (nI m) (nI n) (nI s)) := hw9.keep (f12.hi (by decide))
  have hd12 : CD u12 D := rd.keep (fun q h1 h2 => (f12 q (by simp; omega)).trans ((f9.pn q (by omega)).trans (f7 q (by simp; omega))))
  obtain ⟨u14, e14, d14, f14⟩ := e_S_damageFrame (gPB + k) hd12
  rw [e14, gbv_some]
  have hx : u12 (gPB + k) 1 = x ∧ u12 (gPB + k) 2 = y ∧ u12 (gPB + k) 3 = nI m ∧ u12 (gPB + k) 4 = nI n := by
    rw [hw12 k hk8 1 (by omega), hw12 k hk8 2 (by omega), hw12 k hk8 3 (by omega), hw12 k hk8 4 (by omega)]; unfold wO; simp
  rw [hx.1, hx.2.1, hx.2.2.1, hx.2.2.2] at d14
  have fz : fr [0] u14 (m2 u14 0 6 (nI k)) := fr_m2 fr_rf (by simp)
  refine ⟨_, rfl, ⟨?_, ?_, ?_, ?_, ?_, ?_, ?_, ?_, ?_⟩, ?_⟩
  · exact (hw12.keep (f14.hi (by decide))).keep (fz.hi (by decide))
  · exact o12.keep ((fz 3 (by decide)).trans (f14 3 (by decide))) ((fz 4 (by decide)).trans (f14 4 (by decide)))
  · intro c hc
    rw [fz 8 (by decide), f14 8 (by decide), f12 8 (by decide), f9.pn 8 (by omega), t1 c, frW_open hk8 hc0 h1 hm hn hs c hc]
    by_cases hin : s ≤ c ∧ c < s + m * n
    · rw [if_pos hin]; simp [hin.1, hin.2, bI]
    · rw [if_neg hin, rs c hc]
      have : (decide (s ≤ c) && decide (c < s + m * n)) = false := by
        simp only [Bool.and_eq_false_iff, decide_eq_false_iff_not]; omega
      rw [this]; simp
  · intro w hw ho a b s' hi u v hu hv
    rw [fz 6 (by decide), f14 6 (by decide), f12 6 (by decide), f9.pn 6 (by omega), t2]
    unfold pO
    by_cases hwk : w = k
    · subst hwk
      obtain ⟨rfl, rfl, rfl⟩ := WI1_uniq hi (wO_WI1 h1 hm hn hs)
      rw [if_pos (cell_lt hu hv), if_pos rfl]
    · have hi' : WI1 W w a b s' := WI1_ext (fun f _ => wO_ne hwk f) hi
      have ho' : ¬ W w 0 = 0 := by rw [wO_ne hwk] at ho; exact ho
      have hcl := cell_lt (s := s') hu hv
      have hb : blk W (s' + v * a + u) w = true := (blk_iff hi' ho' (by have := hi'.2.2.2.2.2.2.2.1; omega)).2 hcl
      rw [if_neg (fun hin => by
        have h9 := (frW_iff W _).1 (hfr _ hin.1 hin.2) w hw
        rw [hb] at h9; cases h9), if_neg hwk]
      exact rp w hw ho' a b s' hi' u v hu hv
  · intro i hi
    rw [fz 1 (by decide), f14 1 (by decide), f12 1 (by decide), f9.pn 1 (by omega), f7 1 (by decide)]; exact rS i hi
  · exact d14.keep (fun q h1 h2 => fz q (by simp; omega))
  · exact re.keep (fun q h1 h2 => (fz q (by simp; omega)).trans ((f14 q (by simp; omega)).trans ((f12 q (by simp; omega)).trans ((f9.pn q (by omega)).trans (f7 q (by simp; omega))))))
  · rw [m2_at, if_pos ⟨rfl, rfl⟩]
  · rw [m2_at, if_neg (by omega), f14 0 (by decide), f12 0 (by decide), f9.pn 0 (by omega), f7 0 (by decide)]; exact rn
  · intro q h1 h2
    rw [fz q (by simp; omega), f14 q (by simp; omega), f12 q (by simp; omega), f9.pn q (by omega), f7 q (by simp; omega)]
end PP
