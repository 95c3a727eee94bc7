/-! Pure part: the reference's line. -/
section MO
variable {σ : Mem} {W : Wnd} {O : List Nat} {P : Nat → Nat → Nat → Int32} {S : Nat → Int32} {D E : List Evt} {X : Int32} {T : Evt} {F N : Int32} {M : Int}
theorem xor_sign (A B : Int32) (hB : 0 < B.toInt) : (0 : Int32) ≤ A ^^^ B ↔ 0 ≤ A.toInt := by
  have e : ∀ x : Int32, x.toBitVec.msb = decide (x.toInt < 0) := fun x => by rw [BitVec.msb_eq_toInt]; rfl
  have h1 := e (A ^^^ B)
  rw [Int32.toBitVec_xor, BitVec.msb_xor, e A, e B, decide_eq_false (show ¬ B.toInt < 0 by omega)] at h1
  rw [z_le, zk_0]
  by_cases hA : A.toInt < 0
  · rw [decide_eq_true hA] at h1
    have : decide ((A ^^^ B).toInt < 0) = true := by rw [← h1]; rfl
    have := of_decide_eq_true this
    omega
  · rw [decide_eq_false hA] at h1
    have : decide ((A ^^^ B).toInt < 0) = false := by rw [← h1]; rfl
    have := of_decide_eq_false this
    omega
theorem tdiv_pos (α β : Int) (hα : 0 ≤ α) (hβ : 0 < β) : 0 ≤ α.tdiv β ∧ α.tdiv β ≤ α ∧ 0 ≤ α.tdiv β * β ∧ α.tdiv β * β ≤ α := by
  rw [Int.tdiv_eq_ediv_of_nonneg hα]
  have h1 := Int.ediv_nonneg hα (show 0 ≤ β by omega)
  refine ⟨h1, Int.ediv_le_self _ hα, Int.mul_nonneg h1 (by omega), Int.ediv_mul_le α (by omega)⟩
theorem tdiv_neg' (α β : Int) (hα : α < 0) (hβ : 0 < β) : α.tdiv β ≤ 0 ∧ α ≤ α.tdiv β ∧ α.tdiv β * β ≤ 0 ∧ α ≤ α.tdiv β * β := by
  have h := tdiv_pos (-α) β (by omega) hβ
  have e : α.tdiv β = -((-α).tdiv β) := by rw [Int.neg_tdiv]; omega
  rw [e, Int.neg_mul]; omega
theorem e_M_div (A B : Int32) (hB : 0 < B.toInt) (h1 : -1000000 ≤ A.toInt) (h2 : A.toInt ≤ 1000000) (σ : Mem) : f_M_div A B σ = some (mfdiv A B, σ) := by
  have hB0 : ¬ B = 0 := by rw [z_eq, zk_0]; omega
  unfold f_M_div f_M_div_0 f_M_div_18 mfdiv
  rw [if_neg hB0, gbi_e]
  by_cases hA : 0 ≤ A.toInt
  · obtain ⟨k1, k2, k3, k4⟩ := tdiv_pos A.toInt B.toInt hA hB
    have q1 : (A / B).toInt = A.toInt.tdiv B.toInt := z_div (by omega) (by omega)
    have q2 : (A / B * B).toInt = A.toInt.tdiv B.toInt * B.toInt := by rw [z_mul] <;> rw [q1] <;> omega
    rw [if_pos ((xor_sign A B hB).2 hA), if_pos (by rw [z_le, q2]; omega)]
  · obtain ⟨k1, k2, k3, k4⟩ := tdiv_neg' A.toInt B.toInt (by omega) hB
    have q1 : (A / B).toInt = A.toInt.tdiv B.toInt := z_div (by omega) (by omega)
    have q2 : (A / B * B).toInt = A.toInt.tdiv B.toInt * B.toInt := by rw [z_mul] <;> rw [q1] <;> omega
    rw [if_neg (fun h => hA ((xor_sign A B hB).1 h))]
    by_cases he : A / B * B = A
    · rw [if_pos he, if_pos (by rw [he, z_le]; omega)]
    · rw [if_neg he, if_neg (by rw [z_le, q2]; rw [z_eq, q2] at he; omega)]
theorem mul_bd (a b A B : Int) (ha : -A ≤ a ∧ a ≤ A) (hb : 0 ≤ b ∧ b ≤ B) (hA : 0 ≤ A) : -(B * A) ≤ b * a ∧ b * a ≤ B * A := by
  have h1 : b * a ≤ b * A := Int.mul_le_mul_of_nonneg_left ha.2 hb.1
  have h2 : b * A ≤ B * A := Int.mul_le_mul_of_nonneg_right hb.2 hA
  have h3 : b * (-A) ≤ b * a := Int.mul_le_mul_of_nonneg_left ha.1 hb.1
  rw [Int.mul_neg] at h3
  omega
theorem M_step {k m : Nat} (hk : k ≤ 201) (hm : m ≤ 200) (hm0 : ¬ nI m = 0) {a : Int32} (ha : -200 ≤ a.toInt ∧ a.toInt ≤ 200) (σ : Mem) : f_M_div (((2 * nI k) * a) + nI m) (2 * nI m) σ = some (stp (nI k) a (nI m), σ) := by
  have hm1 : 0 < m := by
    rcases Nat.eq_zero_or_pos m with h | h
    · subst h; exact absurd rfl hm0
    · exact h
  have e2 : (2 : Int32) * nI k = nI (2 * k) := by rw [show (2 : Int32) = nI 2 from rfl, pk_mul]
  have e3 : (2 : Int32) * nI m = nI (2 * m) := by rw [show (2 : Int32) = nI 2 from rfl, pk_mul]
  have hb := mul_bd a.toInt (2 * k : Nat) 200 402 ha (by omega) (by omega)
  have q1 : (nI (2 * k) * a).toInt = (2 * k : Nat) * a.toInt := by
    rw [z_mul] <;> rw [nI_toInt (by omega)] <;> omega
  have q2 : (nI (2 * k) * a + nI m).toInt = (2 * k : Nat) * a.toInt + m := by
    rw [z_add] <;> rw [q1, nI_toInt (by omega)] <;> omega
  unfold stp
  rw [if_neg hm0, e2, e3]
  exact e_M_div _ _ (by rw [nI_toInt (by omega)]; omega) (by rw [q2]; omega) (by rw [q2]; omega) σ
abbrev MSt : Type := (Nat → Nat → Nat → Int32) × Option Evt × Int32
def mst (W : Wnd) (w : Nat) (c a b n k : Int32) (z : MSt) : MSt := if hasW W w (W w 6 + stp k a n) (W w 7 + stp k b n) = true then (pset z.1 w (W w 6 + stp k a n).toNatClampNeg (W w 7 + stp k b n).toNatClampNeg c, some (pbx z.2.1 (W w 6 + stp k a n) (W w 7 + stp k b n)), z.2.2 + 1) else z
def mfd (W : Wnd) (w : Nat) (c a b n : Int32) : Nat → Nat → MSt → MSt
  | 0, _, z => z
  | d + 1, k, z => mfd W w c a b n d (k + 1) (mst W w c a b n (nI k) z)
theorem bok_pbx {z : Option Evt} (h : bok z) {i j : Nat} (hi : i < 100) (hj : j < 100) : bok (some (pbx z (nI i) (nI j))) := by
  intro b hb
  cases hb
  have n1 : (nI i).toInt = i := nI_toInt (by omega)
  have n2 : (nI j).toInt = j := nI_toInt (by omega)
  unfold pbx
  cases z with
  | none => simp only; omega
  | some q =>
    have hq := h q rfl
    simp only
    by_cases h3 : nI i ≤ q.2.2.1 <;> by_cases h4 : nI j ≤ q.2.2.2 <;> simp only [h3, h4, if_true, if_false] <;> omega
theorem M_line_l (hD : DI D) (hI : WI W) {w a b s : Nat} (hw : w < 8) (hi : WI1 W w a b s) {u v : Int32} (hn : nearB u v = true) (c p q : Int32) {m : Nat} (hm : m ≤ 200) (hp : -200 ≤ p.toInt ∧ p.toInt ≤ 200) (hq : -200 ≤ q.toInt ∧ q.toInt ≤ 200) : ∀ (d k n : Nat) (μ : Mem) (z : MSt), k + d = m + 1 → d < n → bok z.2.1 → RB μ W O z.1 S D E X T F N M z.2.1 →
    ∃ t, f_M_line_124 n μ (nI w) u v c p q (nI m) z.2.2 (nI k) = some ((mfd W w c p q (nI m) d k z).2.2, t) ∧ RM t (w2 W w 6 u 7 v) O (mfd W w c p q (nI m) d k z).1 S (mdc D W w (mfd W w c p q (nI m) d k z).2.1) E X T F N M ∧ modF μ t ∧ t 19 0 = μ 19 0 := by
  have hb := near_b hn
  have ha := hi.2.2.2.2.1
  have hbb := hi.2.2.2.2.2.2.1
  have hgw : gin (nI w) 8 = true := gin_nI hw (by omega)
  have hcw : (nI w).toNatClampNeg = w := nI_clamp (by omega)
  intro d
  induction d with
  | zero =>
    intro k n μ z h1 h2 hz hR
    obtain ⟨n, rfl⟩ : ∃ j, n = j + 1 := ⟨n - 1, by omega⟩
    show ∃ t, f_M_line_124B (f_M_line_124 n) μ (nI w) u v c p q (nI m) z.2.2 (nI k) = _ ∧ _
    unfold f_M_line_124B
    obtain ⟨u1, e1, r1, m1, z1⟩ := M_dch hR hD hw hi hz
    rw [if_pos (by simp (disch := (first | omega | (simp (disch := omega) only [nI_toInt, zk_0, zk_1, zk_2, zk_3, zk_4, zk_5, zk_6, zk_7, zk_8, zk_11, zk_12, zk_15, zk_16, zk_23, zk_24, zk_31, zk_32, zk_50, zk_255, zk_384, zk_400, zk_1023, zk_3072, zk_m1, zk_m50]; omega))) only [z_le, z_lt, z_eq, z_gin, z_cl, nI_toInt, z_add, z_sub, zk_0, zk_1, zk_2, zk_3, zk_4, zk_5, zk_6, zk_7, zk_8, zk_11, zk_12, zk_15, zk_16, zk_23, zk_24, zk_31, zk_32, zk_50, zk_255, zk_384, zk_400, zk_1023, zk_3072, zk_m1, zk_m50]; omega), e1, gbv_some, if_pos hgw, hcw, gbm_e, if_pos hgw, gbm_e]
    obtain ⟨r2, m2', z2⟩ := RM_set r1 hI (w := w) (f := 6) (q := 26) u (by omega)
    obtain ⟨r3, m3, z3⟩ := RM_set r2 (WI_set hI (Or.inr (Or.inr (Or.inl rfl))) ⟨hb.1, hb.2.1⟩) (w := w) (f := 7) (q := 27) v (by omega)
    exact ⟨_, rfl, r3, modF_tr m1 (modF_tr m2' m3), by rw [z3, z2, z1]⟩
  | succ d ih =>
    intro k n μ z h1 h2 hz hR
    obtain ⟨n, rfl⟩ : ∃ j, n = j + 1 := ⟨n - 1, by omega⟩
    show ∃ t, f_M_line_124B (f_M_line_124 n) μ (nI w) u v c p q (nI m) z.2.2 (nI k) = _ ∧ _
    have hs : ∀ x : Int32, (-200 ≤ x.toInt ∧ x.toInt ≤ 200) → ∀ (τ : Mem) (G : Int32 → Mem → Option (Int32 × Mem)), (if nI m = 0 then G 0 τ else gb (f_M_div (((2 * nI k) * x) + nI m) (2 * nI m) τ) G) = G (stp (nI k) x (nI m)) τ := fun x hx τ G => by
      by_cases h0 : nI m = 0
      · rw [if_pos h0]; unfold stp; rw [if_pos h0]
      · rw [if_neg h0, M_step (by omega) hm h0 hx, gb_some]
    have e157 : ∀ s0 : Int32, f_M_line_157 (f_M_line_124 n) μ (nI w) u v c p q (nI m) z.2.2 (nI k) s0 = f_M_line_185 (f_M_line_124 n) μ (nI w) u v c p q (nI m) z.2.2 (nI k) s0 (stp (nI k) q (nI m)) := fun s0 => hs q hq μ (fun r2 u1 => f_M_line_185 (f_M_line_124 n) u1 (nI w) u v c p q (nI m) z.2.2 (nI k) s0 r2)
    have e124 : f_M_line_124B (f_M_line_124 n) μ (nI w) u v c p q (nI m) z.2.2 (nI k) = f_M_line_185 (f_M_line_124 n) μ (nI w) u v c p q (nI m) z.2.2 (nI k) (stp (nI k) p (nI m)) (stp (nI k) q (nI m)) := by
      unfold f_M_line_124B
      rw [if_neg (by simp (disch := (first | omega | (simp (disch := omega) only [nI_toInt, zk_0, zk_1, zk_2, zk_3, zk_4, zk_5, zk_6, zk_7, zk_8, zk_11, zk_12, zk_15, zk_16, zk_23, zk_24, zk_31, zk_32, zk_50, zk_255, zk_384, zk_400, zk_1023, zk_3072, zk_m1, zk_m50]; omega))) only [z_le, z_lt, z_eq, z_gin, z_cl, nI_toInt, z_add, z_sub, zk_0, zk_1, zk_2, zk_3, zk_4, zk_5, zk_6, zk_7, zk_8, zk_11, zk_12, zk_15, zk_16, zk_23, zk_24, zk_31, zk_32, zk_50, zk_255, zk_384, zk_400, zk_1023, zk_3072, zk_m1, zk_m50]; omega), ← e157]
      exact hs p hp μ (fun r2 u1 => f_M_line_157 (f_M_line_124 n) u1 (nI w) u v c p q (nI m) z.2.2 (nI k) r2)
    rw [e124]
    unfold f_M_line_185 f_M_line_222
    obtain ⟨-, -, -, -, -, -, a6, a7⟩ := hR.1 w hw
    rw [if_pos hgw, if_pos hgw, hcw, a6, a7]
    simp only [mfd]
    by_cases hh : hasW W w (W w 6 + stp (nI k) p (nI m)) (W w 7 + stp (nI k) q (nI m)) = true
    · obtain ⟨i, j, ei, ej, hia, hjb⟩ := has_nat hi hh
      have hl : mst W w c p q (nI m) (nI k) z = (pset z.1 w i j c, some (pbx z.2.1 (nI i) (nI j)), z.2.2 + 1) := by
        unfold mst; rw [if_pos hh, ei, ej, nI_clamp (by omega), nI_clamp (by omega)]
      rw [ei, ej] at hh ⊢
      obtain ⟨u1, e1, r1, m1, z1⟩ := M_paint_ok hR hw hi hia hjb hh c
      rw [e1, gb_some, if_neg (by decide), gbi_e, nI_1 k, hl]
      obtain ⟨t, e2, r2, m2', z2⟩ := ih (k + 1) n u1 (pset z.1 w i j c, some (pbx z.2.1 (nI i) (nI j)), z.2.2 + 1) (by omega) (by omega) (bok_pbx hz (by omega) (by omega)) r1
      exact ⟨t, e2, r2, modF_tr m1 m2', z2.trans z1⟩
    · have hh' : hasW W w (W w 6 + stp (nI k) p (nI m)) (W w 7 + stp (nI k) q (nI m)) = false := by simpa using hh
      have hl : mst W w c p q (nI m) (nI k) z = z := by unfold mst; rw [if_neg hh]
      rw [M_paint_no hR.1 hw hh', gb_some, if_pos rfl, gbi_e, nI_1 k, Int32.add_zero, hl]
      exact ih (k + 1) n μ z (by omega) (by omega) hz hR
/-- the line as the class draws it, as the reference does -/
def lrel (W : Wnd) (w : Nat) (zl : LSt) (zm : MSt) (cnt : Nat) : Prop := zl.1 = zm.1 ∧ zl.2.2 = nI cnt ∧ zm.2.2 = nI cnt ∧ (cnt = 0 → zm.2.1 = none ∧ zl.2.1 = (W w 3, W w 4, 0, 0)) ∧ (¬ cnt = 0 → ∃ b, zm.2.1 = some b ∧ zl.2.1 = (b.1, b.2.1, b.2.2.1 + 1, b.2.2.2 + 1) ∧ 0 ≤ b.2.2.1.toInt ∧ b.2.2.1.toInt ≤ 100 ∧ 0 ≤ b.2.2.2.toInt ∧ b.2.2.2.toInt ≤ 100)
theorem hi_step (x y : Int32) (hx : 0 ≤ x.toInt ∧ x.toInt ≤ 100) (hy : 0 ≤ y.toInt ∧ y.toInt ≤ 100) : mmax (x + 1) (y + 1) = (if y ≤ x then x else y) + 1 := by
  have e1 : (x + 1).toInt = x.toInt + 1 := by rw [z_add (by rw [zk_1]; omega) (by rw [zk_1]; omega), zk_1]
  have e2 : (y + 1).toInt = y.toInt + 1 := by rw [z_add (by rw [zk_1]; omega) (by rw [zk_1]; omega), zk_1]
  unfold mmax
  by_cases h : y ≤ x
  · rw [if_pos h, if_neg (by rw [z_le] at h; rw [z_lt, e1, e2]; omega)]
  · rw [if_neg h, if_pos (by rw [z_le] at h; rw [z_lt, e1, e2]; omega)]
theorem lo_step (x y : Int32) : mmin x y = if x ≤ y then x else y := by
  unfold mmin
  by_cases h : x ≤ y
  · rw [if_pos h, if_neg (by rw [z_le] at h; rw [z_lt]; omega)]
  · rw [if_neg h, if_pos (by rw [z_le] at h; rw [z_lt]; omega)]
theorem lrel_step {w a b s : Nat} (hi : WI1 W w a b s) (c p q n k : Int32) {zl : LSt} {zm : MSt} {cnt : Nat} (h : lrel W w zl zm cnt) : ∃ cnt', cnt' ≤ cnt + 1 ∧ lrel W w (lst W w c p q n k zl) (mst W w c p q n k zm) cnt' := by
  obtain ⟨h1, h2, h3, h4, h5⟩ := h
  have ha := hi.2.2.2.2.1
  have hbb := hi.2.2.2.2.2.2.1
  unfold lst mst
  by_cases hh : hasW W w (W w 6 + stp k p n) (W w 7 + stp k q n) = true
  · rw [if_pos hh, if_pos hh]
    obtain ⟨i, j, ei, ej, hia, hjb⟩ := has_nat hi hh
    rw [ei, ej]
    have n1 : (nI i).toInt = i := nI_toInt (by omega)
    have n2 : (nI j).toInt = j := nI_toInt (by omega)
    refine ⟨cnt + 1, Nat.le_refl _, ?_, ?_, ?_, fun h0 => by omega, fun _ => ?_⟩
    · show pset zl.1 w _ _ c = pset zm.1 w _ _ c; rw [h1]
    · show zl.2.2 + 1 = _; rw [h2, nI_1]
    · show zm.2.2 + 1 = _; rw [h3, nI_1]
    · by_cases h0 : cnt = 0
      · obtain ⟨g1, g2⟩ := h4 h0
        refine ⟨(nI i, nI j, nI i, nI j), ?_, ?_, ?_⟩
        · show some (pbx zm.2.1 (nI i) (nI j)) = _; rw [g1]; rfl
        · show (mmin zl.2.1.1 (nI i), mmin zl.2.1.2.1 (nI j), mmax zl.2.1.2.2.1 (nI i + 1), mmax zl.2.1.2.2.2 (nI j + 1)) = _
          rw [g2]
          have x1 : (nI i + 1).toInt = i + 1 := by rw [nI_1, nI_toInt (by omega)]; omega
          have x2 : (nI j + 1).toInt = j + 1 := by rw [nI_1, nI_toInt (by omega)]; omega
          have y1 : (W w 3).toInt = a := by rw [hi.1, nI_toInt (by omega)]
          have y2 : (W w 4).toInt = b := by rw [hi.2.1, nI_toInt (by omega)]
          unfold mmin mmax
          simp only
          rw [if_pos (by rw [z_lt]; omega), if_pos (by rw [z_lt]; omega), if_pos (by rw [z_lt, zk_0]; omega), if_pos (by rw [z_lt, zk_0]; omega)]
        · simp only; omega
      · obtain ⟨b', g1, g2, g3, g4, g5, g6⟩ := h5 h0
        refine ⟨pbx zm.2.1 (nI i) (nI j), rfl, ?_, ?_⟩
        · show (mmin zl.2.1.1 (nI i), mmin zl.2.1.2.1 (nI j), mmax zl.2.1.2.2.1 (nI i + 1), mmax zl.2.1.2.2.2 (nI j + 1)) = _
          rw [g1, g2]
          simp only
          rw [lo_step, lo_step, hi_step _ _ ⟨g3, g4⟩ ⟨by omega, by omega⟩, hi_step _ _ ⟨g5, g6⟩ ⟨by omega, by omega⟩]; rfl
        · rw [g1]
          have := bok_pbx (z := some b') (fun b hb => by cases hb; exact ⟨g3, g4, g5, g6⟩) (i := i) (j := j) (by omega) (by omega) _ rfl
          exact this
  · rw [if_neg hh, if_neg hh]; exact ⟨cnt, by omega, h1, h2, h3, h4, h5⟩
theorem lrel_fold {w a b s : Nat} (hi : WI1 W w a b s) (c p q n : Int32) : ∀ (d k : Nat) (zl : LSt) (zm : MSt) (cnt : Nat), lrel W w zl zm cnt → ∃ cnt', cnt' ≤ cnt + d ∧ lrel W w (lfd W w c p q n d k zl) (mfd W w c p q n d k zm) cnt' := by
  intro d
  induction d with
  | zero => intro k zl zm cnt h; exact ⟨cnt, by omega, h⟩
  | succ d ih =>
    intro k zl zm cnt h
    obtain ⟨c1, hc1, h1⟩ := lrel_step hi c p q n (nI k) h
    obtain ⟨c2, hc2, h2⟩ := ih (k + 1) _ _ c1 h1
    exact ⟨c2, by omega, h2⟩
theorem lrel_dm {w cnt : Nat} {zl : LSt} {zm : MSt} (h : lrel W w zl zm cnt) (hc : cnt ≤ 1000) : ldm D W w zl = mdc D W w zm.2.1 := by
  obtain ⟨h1, h2, h3, h4, h5⟩ := h
  unfold ldm
  by_cases h0 : cnt = 0
  · rw [h2, h0, if_pos (by decide), (h4 h0).1]; rfl
  · obtain ⟨b', g1, g2, -⟩ := h5 h0
    rw [h2, if_neg (by simp (disch := (first | omega | (simp (disch := omega) only [nI_toInt, zk_0, zk_1, zk_2, zk_3, zk_4, zk_5, zk_6, zk_7, zk_8, zk_11, zk_12, zk_15, zk_16, zk_23, zk_24, zk_31, zk_32, zk_50, zk_255, zk_384, zk_400, zk_1023, zk_3072, zk_m1, zk_m50]; omega))) only [z_le, z_lt, z_eq, z_gin, z_cl, nI_toInt, z_add, z_sub, zk_0, zk_1, zk_2, zk_3, zk_4, zk_5, zk_6, zk_7, zk_8, zk_11, zk_12, zk_15, zk_16, zk_23, zk_24, zk_31, zk_32, zk_50, zk_255, zk_384, zk_400, zk_1023, zk_3072, zk_m1, zk_m50]; omega), g1, g2]; rfl
/-- line -/
theorem M_line_hd (hw : Mwin σ W) (x u v c : Int32) : f_M_line x u v c σ = f_M_line_40 σ x u v c (if opB W x then (if nearB u v && colB c then 0 else 2) else 1) := by
  unfold f_M_line f_M_line_0 f_M_line_35
  rw [e_M_isOpen hw, gb_some, e_M_near, gb_some, e_M_near, gb_some, e_M_colour, gb_some, near_12]
  cases opB W x with
  | false => rw [if_pos (by decide)]; rfl
  | true =>
    rw [if_neg (by decide)]
    cases near1 u with
    | false => rw [if_pos (by decide)]; rfl
    | true =>
      rw [if_neg (by decide)]
      cases near1 v with
      | false => rw [if_pos (by decide)]; rfl
      | true =>
        rw [if_neg (by decide)]
        cases colB c with
        | false => rw [if_pos (by decide)]; rfl
        | true => rw [if_neg (by decide)]; rfl
theorem M_line_no (hR : RM σ W O P S D E X T F N M) {x u v c : Int32} (hx : opB W x = false) : ∃ r t, f_M_line x u v c σ = some (r, t) ∧ RM t W O P S D E X T F N M ∧ modF σ t ∧ t 19 0 = 1 := by
  obtain ⟨r, m, z⟩ := RM_code hR 1
  rw [M_line_hd hR.1, hx, if_neg (by decide)]
  unfold f_M_line_40
  rw [gbm_e, z, if_neg (by decide)]
  exact ⟨_, _, rfl, r, m, z⟩
theorem M_line_bad (hR : RM σ W O P S D E X T F N M) {x u v c : Int32} (hx : opB W x = true) (h : (nearB u v && colB c) = false) : ∃ r t, f_M_line x u v c σ = some (r, t) ∧ RM t W O P S D E X T F N M ∧ modF σ t ∧ t 19 0 = 2 := by
  obtain ⟨r, m, z⟩ := RM_code hR 2
  rw [M_line_hd hR.1, hx, if_pos rfl, h, if_neg (by decide)]
  unfold f_M_line_40
  rw [gbm_e, z, if_neg (by decide)]
  exact ⟨_, _, rfl, r, m, z⟩
theorem neg_0 (x : Int32) : -x = 0 - x := (Int32.zero_sub x).symm
theorem M_line_ok (hR : RM σ W O P S D E X T F N M) (hD : DI D) (hI : WI W) {w : Nat} {u v c : Int32} (hw : w < 8) (ho : ¬ W w 0 = 0) (h1 : nearB u v = true) (h2 : colB c = true) : ∃ z, f_M_line (nI w) u v c σ = some ((lnZ W P w u v c).2.2, z) ∧ RM z (w2 W w 6 u 7 v) O (lnZ W P w u v c).1 S (ldm D W w (lnZ W P w u v c)) E X T F N M ∧ modF σ z ∧ z 19 0 = 0 := by
  obtain ⟨a, b, s, hi⟩ := (hI w hw).2 ho
  have hb := near_b h1
  have hi0 := hi
  obtain ⟨-, -, -, -, -, -, -, -, -, -, -, -, g1, g2, g3, g4⟩ := hi0
  have x1 : (u - W w 6).toInt = u.toInt - (W w 6).toInt := z_sub (by omega) (by omega)
  have x2 : (v - W w 7).toInt = v.toInt - (W w 7).toInt := z_sub (by omega) (by omega)
  obtain ⟨m, hm, em⟩ := lnN_nat hi h1
  have hgw : gin (nI w) 8 = true := gin_nI hw (by omega)
  have hcw : (nI w).toNatClampNeg = w := nI_clamp (by omega)
  obtain ⟨r, mf, z⟩ := RM_code hR 0
  obtain ⟨-, -, -, -, -, -, a6, a7⟩ := r.1 w hw
  rw [M_line_hd hR.1, opB_ok hw ho, if_pos rfl, h1, h2, if_pos (by decide)]
  unfold f_M_line_40
  rw [gbm_e, z, if_pos (by decide), if_pos hgw, hcw, gbi_e, if_pos hgw, gbi_e, a6, a7]
  have h85 : ∀ s0, f_M_line_85 (m2 σ 19 0 0) (nI w) u v c (u - W w 6) (v - W w 7) s0 = f_M_line_124 gN (m2 σ 19 0 0) (nI w) u v c (u - W w 6) (v - W w 7) (mmax s0 (mabs (v - W w 7))) 0 0 := fun s0 => by
    have h100 : ∀ s1, f_M_line_100 (m2 σ 19 0 0) (nI w) u v c (u - W w 6) (v - W w 7) s0 s1 = f_M_line_124 gN (m2 σ 19 0 0) (nI w) u v c (u - W w 6) (v - W w 7) (mmax s0 s1) 0 0 := fun s1 => by
      unfold f_M_line_100 f_M_line_116 mmax
      by_cases h : s0 ≤ s1
      · rw [if_pos h]
        by_cases h' : s0 < s1
        · rw [if_pos h']
        · have : s0 = s1 := by rw [z_eq]; rw [z_le] at h; rw [z_lt] at h'; omega
          rw [if_neg h', this]
      · rw [if_neg h, if_neg (by rw [z_le] at h; rw [z_lt]; omega)]
    unfold f_M_line_85 mabs
    rw [h100, h100, neg_0]
    by_cases h : 0 ≤ v - W w 7
    · rw [if_pos h, if_pos h]
    · rw [if_neg h, if_neg h]
  have h40 : (if 0 ≤ u - W w 6 then f_M_line_85 (m2 σ 19 0 0) (nI w) u v c (u - W w 6) (v - W w 7) (u - W w 6) else f_M_line_85 (m2 σ 19 0 0) (nI w) u v c (u - W w 6) (v - W w 7) (-(u - W w 6))) = f_M_line_124 gN (m2 σ 19 0 0) (nI w) u v c (u - W w 6) (v - W w 7) (nI m) 0 0 := by
    rw [h85, h85, neg_0, ← em]
    unfold lnN
    by_cases h : 0 ≤ u - W w 6
    · rw [if_pos h, show mabs (u - W w 6) = u - W w 6 by unfold mabs; rw [if_pos h]]
    · rw [if_neg h, show mabs (u - W w 6) = 0 - (u - W w 6) by unfold mabs; rw [if_neg h]]
  rw [h40]
  have hz : lnZ W P w u v c = lfd W w c (u - W w 6) (v - W w 7) (nI m) (m + 1) 0 (P, (W w 3, W w 4, 0, 0), 0) := by
    unfold lnZ; rw [em, nI_clamp (by omega)]
  obtain ⟨t, e1, r1, m1, z1⟩ := M_line_l hD hI hw hi h1 c (u - W w 6) (v - W w 7) hm (by omega) (by omega) (m + 1) 0 gN (m2 σ 19 0 0) (P, none, 0) (by omega) (by unfold gN; omega) (fun b hb => by cases hb) (RB_of r)
  obtain ⟨cnt, hcnt, hrel⟩ := lrel_fold hi c (u - W w 6) (v - W w 7) (nI m) (m + 1) 0 (P, (W w 3, W w 4, 0, 0), 0) (P, none, 0) 0 ⟨rfl, rfl, rfl, fun _ => ⟨rfl, rfl⟩, fun h => absurd rfl h⟩
  rw [← hz] at hrel
  rw [show f_M_line_124 gN (m2 σ 19 0 0) (nI w) u v c (u - W w 6) (v - W w 7) (nI m) 0 0 = _ from e1]
  rw [← lrel_dm hrel (by omega), ← hrel.1] at r1
  refine ⟨t, ?_, r1, modF_tr mf m1, z1.trans z⟩
  rw [hrel.2.2.1, hrel.2.1]
end MO
