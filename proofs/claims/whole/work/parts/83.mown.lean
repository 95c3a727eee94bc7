/-! Pure part: the reference's owner, foremost, lift. -/
section ME
variable {σ : Mem} {W : Wnd} {O : List Nat} {P : Nat → Nat → Nat → Int32} {S : Nat → Int32} {D E : List Evt} {X : Int32} {T : Evt} {F N : Int32} {M : Int}
/-- b is the best of the windows before k -/
def Bst (c : Nat → Bool) (rk : Nat → Int) (k : Nat) (b : Option Nat) : Prop := (∀ w, w < k → c w = true → ∃ v, b = some v ∧ rk v ≤ rk w) ∧ (∀ v, b = some v → v < k ∧ c v = true)
theorem Bst_0 (c : Nat → Bool) (rk : Nat → Int) : Bst c rk 0 none := ⟨fun w hw => by omega, fun v hv => by cases hv⟩
theorem Bst_no {c : Nat → Bool} {rk : Nat → Int} {k : Nat} {b : Option Nat} (h : Bst c rk k b) (hc : c k = false) : Bst c rk (k + 1) b := by
  refine ⟨fun w hw hw2 => ?_, fun v hv => ?_⟩
  · have hwk : w ≠ k := by rintro rfl; rw [hc] at hw2; cases hw2
    exact h.1 w (by omega) hw2
  · have := h.2 v hv; exact ⟨by omega, this.2⟩
theorem Bst_kp {c : Nat → Bool} {rk : Nat → Int} {k v : Nat} (h : Bst c rk k (some v)) (hr : rk v ≤ rk k) : Bst c rk (k + 1) (some v) := by
  refine ⟨fun w hw hw2 => ?_, fun v' hv => ?_⟩
  · by_cases hwk : w = k
    · subst hwk; exact ⟨v, rfl, hr⟩
    · exact h.1 w (by omega) hw2
  · have := h.2 v' hv; exact ⟨by omega, this.2⟩
theorem Bst_n {c : Nat → Bool} {rk : Nat → Int} {k : Nat} (h : Bst c rk k none) (hc : c k = true) : Bst c rk (k + 1) (some k) := by
  refine ⟨fun w hw hw2 => ?_, fun v' hv => ?_⟩
  · by_cases hwk : w = k
    · subst hwk; exact ⟨w, rfl, Int.le_refl _⟩
    · obtain ⟨v, hv, -⟩ := h.1 w (by omega) hw2; cases hv
  · cases hv; exact ⟨by omega, hc⟩
theorem Bst_s {c : Nat → Bool} {rk : Nat → Int} {k v : Nat} (h : Bst c rk k (some v)) (hc : c k = true) (hr : ¬ rk v ≤ rk k) : Bst c rk (k + 1) (some k) := by
  refine ⟨fun w hw hw2 => ?_, fun v' hv => ?_⟩
  · by_cases hwk : w = k
    · subst hwk; exact ⟨w, rfl, Int.le_refl _⟩
    · obtain ⟨v', hv, h2⟩ := h.1 w (by omega) hw2; cases hv; exact ⟨k, rfl, by omega⟩
  · cases hv; exact ⟨by omega, hc⟩
theorem find_min (rk : Nat → Int) (p : Nat → Bool) (v : Nat) : ∀ O : List Nat, O.Pairwise (fun a b => rk a < rk b) → v ∈ O → p v = true → (∀ w ∈ O, p w = true → rk v ≤ rk w) → O.find? p = some v := by
  intro O
  induction O with
  | nil => intro _ h; cases h
  | cons a t ih =>
    intro hp hm hv hw
    rw [List.pairwise_cons] at hp
    rw [List.find?_cons]
    cases ha : p a with
    | true =>
      rcases List.mem_cons.1 hm with rfl | h2
      · rfl
      · have h3 := hp.1 v h2; have h4 := hw a (by simp) ha; omega
    | false =>
      have hne : v ≠ a := by rintro rfl; rw [hv] at ha; cases ha
      exact ih hp.2 ((List.mem_cons.1 hm).resolve_left hne) hv (fun w hw1 => hw w (by simp [hw1]))
theorem Bst_find {p : Nat → Bool} {rk : Nat → Int} {b : Option Nat} (hp : O.Pairwise (fun a b => rk a < rk b)) (hO : OI W O) (h : Bst (fun w => !decide (W w 0 = 0) && p w) rk 8 b) : O.find? p = b := by
  cases b with
  | none =>
    rw [List.find?_eq_none]
    intro w hw hpw
    obtain ⟨h1, h2⟩ := (hO.2 w).1 hw
    obtain ⟨v, hv, -⟩ := h.1 w h1 (by simp [h2, hpw])
    cases hv
  | some v =>
    obtain ⟨h1, h2⟩ := h.2 v rfl
    simp only [Bool.and_eq_true, Bool.not_eq_true', decide_eq_false_iff_not] at h2
    refine find_min rk p v O hp ((hO.2 v).2 ⟨h1, h2.1⟩) h2.2 (fun w hw hpw => ?_)
    obtain ⟨h3, h4⟩ := (hO.2 w).1 hw
    obtain ⟨v', hv, h5⟩ := h.1 w h3 (by simp [h4, hpw])
    cases hv; exact h5
theorem owI_lt0 (v : Nat) (hv : v < 8) : ¬ owI (some v) < 0 := by show ¬ nI v < 0; simp (disch := (first | omega | (simp (disch := omega) only [nI_toInt, zk_0, zk_1, zk_2, zk_3, zk_4, zk_5, zk_6, zk_7, zk_8, zk_11, zk_12, zk_15, zk_16, zk_23, zk_24, zk_31, zk_32, zk_50, zk_255, zk_384, zk_400, zk_1023, zk_3072, zk_m1, zk_m50]; omega))) only [z_le, z_lt, z_eq, z_gin, z_cl, nI_toInt, z_add, z_sub, zk_0, zk_1, zk_2, zk_3, zk_4, zk_5, zk_6, zk_7, zk_8, zk_11, zk_12, zk_15, zk_16, zk_23, zk_24, zk_31, zk_32, zk_50, zk_255, zk_384, zk_400, zk_1023, zk_3072, zk_m1, zk_m50]; omega
theorem M_own_l (hw : Mwin σ W) (x y : Int32) : ∀ (d k n : Nat) (b : Option Nat), k + d = 8 → d < n → Bst (fun w => !decide (W w 0 = 0) && cov W x y w) (fun w => (σ 29 w).toInt) k b → ∃ b', f_M_owner_5 n σ x y (owI b) (nI k) = some (owI b', σ) ∧ Bst (fun w => !decide (W w 0 = 0) && cov W x y w) (fun w => (σ 29 w).toInt) 8 b' := by
  intro d
  induction d with
  | zero =>
    intro k n b h1 h2 h3
    obtain ⟨n, rfl⟩ : ∃ j, n = j + 1 := ⟨n - 1, by omega⟩
    obtain rfl : k = 8 := by omega
    exact ⟨b, by show f_M_owner_5B (f_M_owner_5 n) σ x y (owI b) (nI 8) = _; unfold f_M_owner_5B; rw [if_pos (by decide)], h3⟩
  | succ d ih =>
    intro k n b h1 h2 h3
    obtain ⟨n, rfl⟩ : ∃ j, n = j + 1 := ⟨n - 1, by omega⟩
    show ∃ b', f_M_owner_5B (f_M_owner_5 n) σ x y (owI b) (nI k) = _ ∧ _
    unfold f_M_owner_5B f_M_owner_53 f_M_owner_54 f_M_owner_86 f_M_owner_81 f_M_owner_87
    have hg : gin (nI k) 8 = true := gin_nI (by omega) (by omega)
    have hc : (nI k).toNatClampNeg = k := nI_clamp (by omega)
    obtain ⟨a0, a1, a2, -⟩ := hw k (by omega)
    rw [if_neg (by simp (disch := (first | omega | (simp (disch := omega) only [nI_toInt, zk_0, zk_1, zk_2, zk_3, zk_4, zk_5, zk_6, zk_7, zk_8, zk_11, zk_12, zk_15, zk_16, zk_23, zk_24, zk_31, zk_32, zk_50, zk_255, zk_384, zk_400, zk_1023, zk_3072, zk_m1, zk_m50]; omega))) only [z_le, z_lt, z_eq, z_gin, z_cl, nI_toInt, z_add, z_sub, zk_0, zk_1, zk_2, zk_3, zk_4, zk_5, zk_6, zk_7, zk_8, zk_11, zk_12, zk_15, zk_16, zk_23, zk_24, zk_31, zk_32, zk_50, zk_255, zk_384, zk_400, zk_1023, zk_3072, zk_m1, zk_m50]; omega), if_pos hg, if_pos hg, if_pos hg, if_pos hg, hc, nI_1, a0, a1, a2, e_M_inPicture hw (by omega), gb_some]
    by_cases h0 : W k 0 = 0
    · rw [if_pos h0, if_pos rfl]; exact ih (k + 1) n b (by omega) (by omega) (Bst_no h3 (by simp [h0]))
    rw [if_neg h0]
    have hcv : hasW W k (x - W k 1) (y - W k 2) = cov W x y k := rfl
    rw [hcv]
    cases hcc : cov W x y k with
    | false => rw [if_pos (by decide), if_pos rfl]; exact ih (k + 1) n b (by omega) (by omega) (Bst_no h3 (by simp [hcc]))
    | true =>
      rw [if_neg (by decide), if_neg (by decide)]
      cases b with
      | none => rw [if_pos (by decide)]; exact ih (k + 1) n (some k) (by omega) (by omega) (Bst_n h3 (by simp [h0, hcc]))
      | some v =>
        have hv := (h3.2 v rfl).1
        have hg2 : gin (owI (some v)) 8 = true := gin_nI (show v < 8 by omega) (by omega)
        have hc2 : (owI (some v)).toNatClampNeg = v := nI_clamp (by omega)
        rw [if_neg (owI_lt0 v (by omega)), if_pos hg, if_pos hg2, hc2]
        by_cases h5 : σ 29 v ≤ σ 29 k
        · rw [if_pos h5]; exact ih (k + 1) n (some v) (by omega) (by omega) (Bst_kp h3 (by rw [z_le] at h5; exact h5))
        · rw [if_neg h5]; exact ih (k + 1) n (some k) (by omega) (by omega) (Bst_s h3 (by simp [h0, hcc]) (by rw [z_le] at h5; exact h5))
theorem e_M_owner (hw : Mwin σ W) (ho : Mord σ O M) (hO : OI W O) (x y : Int32) : f_M_owner x y σ = some (owI (O.find? (cov W x y)), σ) := by
  obtain ⟨b, e1, e2⟩ := M_own_l hw x y 8 0 gN none rfl (by decide) (Bst_0 _ _)
  rw [Bst_find ho.1 hO e2]; exact e1
theorem M_fore_l (hw : Mwin σ W) : ∀ (d k n : Nat) (b : Option Nat), k + d = 8 → d < n → Bst (fun w => !decide (W w 0 = 0) && true) (fun w => (σ 29 w).toInt) k b → ∃ b', f_M_foremost_4 n σ (owI b) (nI k) = some (owI b', σ) ∧ Bst (fun w => !decide (W w 0 = 0) && true) (fun w => (σ 29 w).toInt) 8 b' := by
  intro d
  induction d with
  | zero =>
    intro k n b h1 h2 h3
    obtain ⟨n, rfl⟩ : ∃ j, n = j + 1 := ⟨n - 1, by omega⟩
    obtain rfl : k = 8 := by omega
    exact ⟨b, by show f_M_foremost_4B (f_M_foremost_4 n) σ (owI b) (nI 8) = _; unfold f_M_foremost_4B; rw [if_pos (by decide)], h3⟩
  | succ d ih =>
    intro k n b h1 h2 h3
    obtain ⟨n, rfl⟩ : ∃ j, n = j + 1 := ⟨n - 1, by omega⟩
    show ∃ b', f_M_foremost_4B (f_M_foremost_4 n) σ (owI b) (nI k) = _ ∧ _
    unfold f_M_foremost_4B f_M_foremost_42 f_M_foremost_38 f_M_foremost_43
    have hg : gin (nI k) 8 = true := gin_nI (by omega) (by omega)
    have hc : (nI k).toNatClampNeg = k := nI_clamp (by omega)
    obtain ⟨a0, -⟩ := hw k (by omega)
    rw [if_neg (by simp (disch := (first | omega | (simp (disch := omega) only [nI_toInt, zk_0, zk_1, zk_2, zk_3, zk_4, zk_5, zk_6, zk_7, zk_8, zk_11, zk_12, zk_15, zk_16, zk_23, zk_24, zk_31, zk_32, zk_50, zk_255, zk_384, zk_400, zk_1023, zk_3072, zk_m1, zk_m50]; omega))) only [z_le, z_lt, z_eq, z_gin, z_cl, nI_toInt, z_add, z_sub, zk_0, zk_1, zk_2, zk_3, zk_4, zk_5, zk_6, zk_7, zk_8, zk_11, zk_12, zk_15, zk_16, zk_23, zk_24, zk_31, zk_32, zk_50, zk_255, zk_384, zk_400, zk_1023, zk_3072, zk_m1, zk_m50]; omega), if_pos hg, if_pos hg, hc, nI_1, a0]
    by_cases h0 : W k 0 = 0
    · rw [if_pos h0]; exact ih (k + 1) n b (by omega) (by omega) (Bst_no h3 (by simp [h0]))
    rw [if_neg h0]
    cases b with
    | none => rw [if_pos (by decide)]; exact ih (k + 1) n (some k) (by omega) (by omega) (Bst_n h3 (by simp [h0]))
    | some v =>
      have hv := (h3.2 v rfl).1
      have hg2 : gin (owI (some v)) 8 = true := gin_nI (show v < 8 by omega) (by omega)
      have hc2 : (owI (some v)).toNatClampNeg = v := nI_clamp (by omega)
      rw [if_neg (owI_lt0 v (by omega)), if_pos hg2, hc2]
      by_cases h5 : σ 29 v ≤ σ 29 k
      · rw [if_pos h5]; exact ih (k + 1) n (some v) (by omega) (by omega) (Bst_kp h3 (by rw [z_le] at h5; exact h5))
      · rw [if_neg h5]; exact ih (k + 1) n (some k) (by omega) (by omega) (Bst_s h3 (by simp [h0]) (by rw [z_le] at h5; exact h5))
theorem e_M_foremost (hw : Mwin σ W) (ho : Mord σ O M) (hO : OI W O) : f_M_foremost σ = some (hdI O, σ) := by
  obtain ⟨b, e1, e2⟩ := M_fore_l hw 8 0 gN none rfl (by decide) (Bst_0 _ _)
  have h := Bst_find ho.1 hO e2
  have h2 : owI (O.find? (fun _ => true)) = hdI O := by cases O <;> rfl
  rw [← h2, h]; exact e1
/-- whether another window lies before (up) or behind -/
def lch (σ : Mem) (W : Wnd) (w : Nat) (up : Bool) (k : Nat) : Bool := !decide (W k 0 = 0) && !decide (k = w) && (if up then decide (σ 29 k < σ 29 w) else decide (σ 29 w < σ 29 k))
def lany (p : Nat → Bool) : Nat → Nat → Bool → Bool
  | 0, _, b => b
  | d + 1, k, b => lany p d (k + 1) (b || p k)
theorem lany_iff (p : Nat → Bool) : ∀ (d k : Nat) (b : Bool), lany p d k b = true ↔ b = true ∨ ∃ i, k ≤ i ∧ i < k + d ∧ p i = true := by
  intro d
  induction d with
  | zero => intro k b; simp only [lany]; constructor
            · intro h; exact Or.inl h
            · rintro (h | ⟨i, h1, h2, -⟩)
              · exact h
              · omega
  | succ d ih =>
    intro k b
    simp only [lany]
    rw [ih (k + 1), Bool.or_eq_true]
    constructor
    · rintro ((h | h) | ⟨i, h1, h2, h3⟩)
      · exact Or.inl h
      · exact Or.inr ⟨k, by omega, by omega, h⟩
      · exact Or.inr ⟨i, by omega, by omega, h3⟩
    · rintro (h | ⟨i, h1, h2, h3⟩)
      · exact Or.inl (Or.inl h)
      · by_cases hik : i = k
        · subst hik; exact Or.inl (Or.inr h3)
        · exact Or.inr ⟨i, by omega, by omega, h3⟩
/-- the end of lift's search -/
def lftE (σ : Mem) (w : Nat) (x2 x3 : Int32) : Option (Int32 × Mem) := f_M_lift_5B (fun _ _ _ _ _ => none) σ (nI w) x2 x3 8
theorem M_lift_l (hw : Mwin σ W) {w : Nat} (h8 : w < 8) (x2 : Int32) : ∀ (d k n : Nat) (b : Bool), k + d = 8 → d < n → f_M_lift_5 n σ (nI w) x2 (bI b) (nI k) = lftE σ w x2 (bI (lany (lch σ W w (!decide (x2 = 0))) d k b)) := by
  intro d
  induction d with
  | zero =>
    intro k n b h1 h2
    obtain ⟨n, rfl⟩ : ∃ j, n = j + 1 := ⟨n - 1, by omega⟩
    obtain rfl : k = 8 := by omega
    show f_M_lift_5B (f_M_lift_5 n) σ (nI w) x2 (bI b) (nI 8) = _
    unfold lftE f_M_lift_5B
    rw [if_pos (show (8 : Int32) ≤ nI 8 by decide), if_pos (show (8 : Int32) ≤ 8 by decide)]; rfl
  | succ d ih =>
    intro k n b h1 h2
    obtain ⟨n, rfl⟩ : ∃ j, n = j + 1 := ⟨n - 1, by omega⟩
    show f_M_lift_5B (f_M_lift_5 n) σ (nI w) x2 (bI b) (nI k) = _
    unfold f_M_lift_5B f_M_lift_71 f_M_lift_75 f_M_lift_76
    have hg : gin (nI k) 8 = true := gin_nI (by omega) (by omega)
    have hc : (nI k).toNatClampNeg = k := nI_clamp (by omega)
    have hgw : gin (nI w) 8 = true := gin_nI h8 (by omega)
    have hcw : (nI w).toNatClampNeg = w := nI_clamp (by omega)
    obtain ⟨a0, -⟩ := hw k (by omega)
    have i0 := ih (k + 1) n false (by omega) (by omega)
    have i1 := ih (k + 1) n true (by omega) (by omega)
    rw [bI_f] at i0; rw [bI_t] at i1
    rw [if_neg (by simp (disch := (first | omega | (simp (disch := omega) only [nI_toInt, zk_0, zk_1, zk_2, zk_3, zk_4, zk_5, zk_6, zk_7, zk_8, zk_11, zk_12, zk_15, zk_16, zk_23, zk_24, zk_31, zk_32, zk_50, zk_255, zk_384, zk_400, zk_1023, zk_3072, zk_m1, zk_m50]; omega))) only [z_le, z_lt, z_eq, z_gin, z_cl, nI_toInt, z_add, z_sub, zk_0, zk_1, zk_2, zk_3, zk_4, zk_5, zk_6, zk_7, zk_8, zk_11, zk_12, zk_15, zk_16, zk_23, zk_24, zk_31, zk_32, zk_50, zk_255, zk_384, zk_400, zk_1023, zk_3072, zk_m1, zk_m50]; omega), if_pos hg, if_pos hg, if_pos hg, if_pos hgw, if_pos hgw, hc, hcw, nI_1, a0, i0, i1]
    show _ = lftE σ w x2 (bI (lany (lch σ W w (!decide (x2 = 0))) d (k + 1) (b || lch σ W w (!decide (x2 = 0)) k)))
    cases b with
    | true => rw [if_neg (by decide)]; rfl
    | false =>
      rw [if_pos (by decide), Bool.false_or]
      by_cases h0 : W k 0 = 0
      · rw [if_pos h0, show lch σ W w (!decide (x2 = 0)) k = false by simp [lch, h0]]
      rw [if_neg h0]
      by_cases hk : k = w
      · rw [if_pos (by rw [hk]), show lch σ W w (!decide (x2 = 0)) k = false by simp [lch, hk]]
      rw [if_neg (by rw [nI_eq (by omega) (by omega)]; exact hk)]
      by_cases hx : x2 = 0
      · rw [if_pos hx]
        by_cases h5 : σ 29 k ≤ σ 29 w
        · rw [if_pos h5, show lch σ W w (!decide (x2 = 0)) k = false by
            unfold lch; rw [z_le] at h5; simp [hx, z_lt, show ¬ (σ 29 w).toInt < (σ 29 k).toInt by omega]]
        · rw [if_neg h5, show lch σ W w (!decide (x2 = 0)) k = true by
            unfold lch; rw [z_le] at h5; simp [hx, h0, hk, z_lt, show (σ 29 w).toInt < (σ 29 k).toInt by omega]]
      · rw [if_neg hx]
        by_cases h5 : σ 29 w ≤ σ 29 k
        · rw [if_pos h5, show lch σ W w (!decide (x2 = 0)) k = false by
            unfold lch; rw [z_le] at h5; simp [hx, z_lt, show ¬ (σ 29 k).toInt < (σ 29 w).toInt by omega]]
        · rw [if_neg h5, show lch σ W w (!decide (x2 = 0)) k = true by
            unfold lch; rw [z_le] at h5; simp [hx, h0, hk, z_lt, show (σ 29 k).toInt < (σ 29 w).toInt by omega]]
theorem pw_get {R : Nat → Nat → Prop} (h : O.Pairwise R) {i j : Nat} (hij : i < j) (hj : j < O.length) : R (O.getD i 0) (O.getD j 0) := by
  have := (List.pairwise_iff_getElem.1 h) i j (by omega) hj hij
  rwa [List.getD_eq_getElem?_getD, List.getD_eq_getElem?_getD, List.getElem?_eq_getElem (by omega), List.getElem?_eq_getElem hj]
theorem mem_get {w : Nat} (h : w ∈ O) : ∃ i, i < O.length ∧ O.getD i 0 = w := by
  obtain ⟨i, hi, e⟩ := List.getElem_of_mem h
  exact ⟨i, hi, by rw [List.getD_eq_getElem?_getD, List.getElem?_eq_getElem hi]; exact e⟩
theorem lift_ch (ho : Mord σ O M) (hO : OI W O) {w : Nat} (hw : w ∈ O) (up : Bool) : lany (lch σ W w up) 8 0 false = rch O w up := by
  have h8 := hO.lt w hw
  obtain ⟨i, hi, he⟩ := mem_get hw
  have hlt : ∀ j, j < O.length → O.getD j 0 ∈ O := fun j hj => getD_mem O 0 j hj
  rw [Bool.eq_iff_iff, lany_iff]
  cases up with
  | true =>
    have hh : hdI O = nI (O.getD 0 0) := by cases O with
      | nil => cases hw
      | cons a t => rfl
    unfold rch lch
    rw [hh]
    simp only [if_true, Bool.and_eq_true, Bool.not_eq_true', decide_eq_false_iff_not, decide_eq_true_eq, Bool.false_eq_true, false_or]
    have h80 := hO.lt _ (hlt 0 (by omega))
    rw [nI_eq (by omega) (by omega)]
    constructor
    · rintro ⟨k, -, h2, ⟨h3, h4⟩, h5⟩ hq
      obtain ⟨j, hj, ej⟩ := mem_get ((hO.2 k).2 ⟨by omega, h3⟩)
      rw [z_lt] at h5
      by_cases hj0 : j = 0
      · subst hj0; omega
      · have := pw_get ho.1 (show 0 < j by omega) hj
        rw [ej, ← hq] at this; omega
    · intro hq
      have hi0 : 0 < i := by
        rcases Nat.eq_zero_or_pos i with h | h
        · subst h; exact absurd he.symm hq
        · exact h
      have h1 := pw_get ho.1 hi0 hi
      rw [he] at h1
      have h2 := (hO.2 _).1 (hlt 0 (by omega))
      exact ⟨O.getD 0 0, by omega, by omega, ⟨h2.2, fun h => hq h.symm⟩, by rw [z_lt]; exact h1⟩
  | false =>
    have hh : lsI O = nI (O.getD (O.length - 1) 0) := by unfold lsI; rw [if_neg (by omega)]
    unfold rch lch
    rw [hh]
    simp only [if_false, Bool.and_eq_true, Bool.not_eq_true', decide_eq_false_iff_not, decide_eq_true_eq, Bool.false_eq_true, false_or]
    have h80 := hO.lt _ (hlt (O.length - 1) (by omega))
    rw [nI_eq (by omega) (by omega)]
    constructor
    · rintro ⟨k, -, h2, ⟨h3, h4⟩, h5⟩ hq
      obtain ⟨j, hj, ej⟩ := mem_get ((hO.2 k).2 ⟨by omega, h3⟩)
      rw [z_lt] at h5
      by_cases hj0 : j = O.length - 1
      · subst hj0; omega
      · have := pw_get ho.1 (show j < O.length - 1 by omega) (by omega)
        rw [ej, ← hq] at this; omega
    · intro hq
      have hi0 : i < O.length - 1 := by
        rcases Nat.lt_or_ge i (O.length - 1) with h | h
        · exact h
        · have : i = O.length - 1 := by omega
          subst this; exact absurd he.symm hq
      have h1 := pw_get ho.1 hi0 (by omega)
      rw [he] at h1
      have h2 := (hO.2 _).1 (hlt (O.length - 1) (by omega))
      exact ⟨O.getD (O.length - 1) 0, by omega, by omega, ⟨h2.2, fun h => hq h.symm⟩, by rw [z_lt]; exact h1⟩
/-- the ranks behind a window's way to the front, to the back -/
theorem Mord_front (ho : Mord σ O M) {w : Nat} {u : Mem} {v : Int32} (hv : v.toInt = (σ 19 11).toInt - 1) (h29 : u 29 = m2 σ 29 w v 29) (h11 : u 19 11 = v) (h12 : u 19 12 = σ 19 12) : Mord u (w :: O.filter (fun x => decide (x ≠ w))) (M + 1) := by
  obtain ⟨o1, o2, o3, o4, o5, o6⟩ := ho
  have e1 : ∀ x, x ≠ w → u 29 x = σ 29 x := fun x hx => by rw [h29, m2_at, if_neg (by omega)]
  have e2 : u 29 w = v := by rw [h29, m2_at, if_pos ⟨rfl, rfl⟩]
  have hm : ∀ x ∈ O.filter (fun x => decide (x ≠ w)), x ∈ O ∧ x ≠ w := fun x hx => by
    have := List.mem_filter.1 hx; exact ⟨this.1, by simpa using this.2⟩
  refine ⟨List.pairwise_cons.2 ⟨fun x hx => ?_, ?_⟩, fun x hx => ?_, ?_, ?_, ?_, ?_⟩
  · obtain ⟨h1, h2⟩ := hm x hx
    rw [e2, e1 x h2, hv]; have := (o2 x h1).1; omega
  · refine List.Pairwise.imp_of_mem (fun {a b} ha hb h => ?_) (o1.filter _)
    rw [e1 a (hm a ha).2, e1 b (hm b hb).2]; exact h
  · rw [h11, h12]
    rcases List.mem_cons.1 hx with rfl | h
    · rw [e2]; omega
    · obtain ⟨h1, h2⟩ := hm x h
      rw [e1 x h2]; have := o2 x h1; omega
  · rw [h11]; omega
  · rw [h11]; omega
  · rw [h12]; omega
  · rw [h12]; omega
theorem Mord_back (ho : Mord σ O M) {w : Nat} {u : Mem} {v : Int32} (hv : v.toInt = (σ 19 12).toInt + 1) (h29 : u 29 = m2 σ 29 w v 29) (h12 : u 19 12 = v) (h11 : u 19 11 = σ 19 11) : Mord u (O.filter (fun x => decide (x ≠ w)) ++ [w]) (M + 1) := by
  obtain ⟨o1, o2, o3, o4, o5, o6⟩ := ho
  have e1 : ∀ x, x ≠ w → u 29 x = σ 29 x := fun x hx => by rw [h29, m2_at, if_neg (by omega)]
  have e2 : u 29 w = v := by rw [h29, m2_at, if_pos ⟨rfl, rfl⟩]
  have hm : ∀ x ∈ O.filter (fun x => decide (x ≠ w)), x ∈ O ∧ x ≠ w := fun x hx => by
    have := List.mem_filter.1 hx; exact ⟨this.1, by simpa using this.2⟩
  refine ⟨List.pairwise_append.2 ⟨?_, by simp, fun a ha b hb => ?_⟩, fun x hx => ?_, ?_, ?_, ?_, ?_⟩
  · refine List.Pairwise.imp_of_mem (fun {a b} ha hb h => ?_) (o1.filter _)
    rw [e1 a (hm a ha).2, e1 b (hm b hb).2]; exact h
  · obtain ⟨h1, h2⟩ := hm a ha
    rw [List.mem_singleton.1 hb, e2, e1 a h2, hv]; have := (o2 a h1).2; omega
  · rw [h11, h12]
    rcases List.mem_append.1 hx with h | h
    · obtain ⟨h1, h2⟩ := hm x h
      rw [e1 x h2]; have := o2 x h1; omega
    · rw [List.mem_singleton.1 h, e2]; omega
  · rw [h11]; omega
  · rw [h11]; omega
  · rw [h12]; omega
  · rw [h12]; omega
theorem RM_rank (hR : RM σ W O P S D E X T F N M) {u : Mem} {O' : List Nat} {M' : Int} (ho : Mord u O' M') (hf : fr [19, 29] σ u) (hs : fo [11, 12] σ u) : RM u W O' P S D E X T F N M' ∧ modF σ u ∧ u 19 0 = σ 19 0 := by
  obtain ⟨rw, ro, rp, rS, rd, re, rf, rn, rs⟩ := hR
  refine ⟨⟨rw.keep (fun q h1 h2 => hf q (by simp; omega)), ho, rp.keep (hf 30 (by decide)), fun i hi => ?_, rd.keep (hs 16 (by decide)) (fun q h1 h2 => hf q (by simp; omega)), re.keep (fun q h1 h2 => hf q (by simp; omega)) (fun f hq => hs f (by simp; omega)), ?_, ?_, ?_⟩, modF_fr hf (by decide), hs 0 (by decide)⟩
  · rw [hf 20 (by decide)]; exact rS i hi
  · rw [hs 15 (by decide)]; exact rf
  · rw [hs 36 (by decide)]; exact rn
  · rw [hs 21 (by decide)]; exact rs
theorem RM_more (hR : RM σ W O P S D E X T F N M) : RM σ W O P S D E X T F N (M + 1) := ⟨hR.1, hR.2.1.more (by omega), hR.2.2⟩
theorem lftE_0 (w : Nat) (x : Int32) : lftE σ w x (bI false) = some (bI false, σ) := by
  unfold lftE f_M_lift_5B f_M_lift_114 f_M_lift_138 f_M_lift_147
  rw [if_pos (show (8 : Int32) ≤ 8 by decide), if_pos (show bI false = 0 by decide), if_pos (show bI false = 0 by decide), if_pos (show bI false = 0 by decide), if_pos (bI_and _)]
theorem lftE_dn {w : Nat} (hw : w < 8) {x : Int32} (hx : x = 0) : lftE σ w x (bI true) = gbv (f_M_damageFrame (nI w) (m2 (m2 σ 19 12 (σ 19 12 + 1)) 29 w (σ 19 12 + 1))) fun u => some (bI true, u) := by
  have hg : gin (nI w) 8 = true := gin_nI hw (by omega)
  have hc : (nI w).toNatClampNeg = w := nI_clamp (by omega)
  have e12 : m2 σ 19 12 (σ 19 12 + 1) 19 12 = σ 19 12 + 1 := by rw [m2_at, if_pos ⟨rfl, rfl⟩]
  unfold lftE f_M_lift_5B f_M_lift_114 f_M_lift_138 f_M_lift_147
  rw [if_pos (show (8 : Int32) ≤ 8 by decide), if_neg (show ¬ bI true = 0 by decide), if_pos hx, if_neg (show ¬ bI true = 0 by decide), gbm_e, if_pos hg, gbm_e, if_neg (show ¬ bI true = 0 by decide), e12, hc]
  simp only [if_pos (bI_and true)]
theorem lftE_up {w : Nat} (hw : w < 8) {x : Int32} (hx : ¬ x = 0) : lftE σ w x (bI true) = gbv (f_M_damageFrame (nI w) (m2 (m2 σ 19 11 (σ 19 11 - 1)) 29 w (σ 19 11 - 1))) fun u => some (bI true, u) := by
  have hg : gin (nI w) 8 = true := gin_nI hw (by omega)
  have hc : (nI w).toNatClampNeg = w := nI_clamp (by omega)
  have e12 : m2 σ 19 11 (σ 19 11 - 1) 19 11 = σ 19 11 - 1 := by rw [m2_at, if_pos ⟨rfl, rfl⟩]
  unfold lftE f_M_lift_5B f_M_lift_138 f_M_lift_147
  rw [if_pos (show (8 : Int32) ≤ 8 by decide), if_neg (show ¬ bI true = 0 by decide), if_neg hx, gbm_e, if_pos hg, gbm_e, if_neg (show ¬ bI true = 0 by decide), e12, hc]
  simp only [if_pos (bI_and true)]
theorem e_M_lift (hR : RM σ W O P S D E X T F N M) (hD : DI D) (hI : WI W) (hO : OI W O) (hM : M ≤ 1000000) {w : Nat} (hw : w < 8) (h0 : ¬ W w 0 = 0) (x : Int32) : ∃ u, f_M_lift (nI w) x σ = some (bI (rch O w (!decide (x = 0))), u) ∧ RM u W (rord O w (!decide (x = 0))) P S (rdm D W O w (!decide (x = 0))) E X T F N (M + 1) ∧ modF σ u ∧ u 19 0 = σ 19 0 := by
  have hm : w ∈ O := (hO.2 w).2 ⟨hw, h0⟩
  obtain ⟨a, b, s, hi⟩ := (hI w hw).2 h0
  have h := M_lift_l hR.1 hw x 8 0 gN false rfl (by decide)
  rw [lift_ch hR.2.1 hO hm] at h
  show ∃ u, f_M_lift_5 gN σ (nI w) x (bI false) (nI 0) = _ ∧ _
  rw [h]
  unfold rord rdm
  obtain ⟨o1, o2, o3, o4, o5, o6⟩ := hR.2.1
  by_cases hx : x = 0
  · have hd : (!decide (x = 0)) = false := by simp [hx]
    rw [hd]
    cases hr : rch O w false with
    | false => rw [lftE_0]; exact ⟨σ, rfl, RM_more hR, modF_rf, rfl⟩
    | true =>
      rw [lftE_dn hw hx]
      have hv : (σ 19 12 + 1).toInt = (σ 19 12).toInt + 1 := by rw [z_add (by rw [zk_1]; omega) (by rw [zk_1]; omega), zk_1]
      obtain ⟨r1, c1, z1⟩ := RM_rank hR (Mord_back (u := m2 (m2 σ 19 12 (σ 19 12 + 1)) 29 w (σ 19 12 + 1)) (w := w) hR.2.1 hv (by funext i; simp [m2_at]) (by simp [m2_at]) (by simp [m2_at])) (fr_m2 (fr_m2 fr_rf (by simp)) (by simp)) (fo_m2o (fo_m2 fo_rf (by simp)) (by decide))
      obtain ⟨u, e2, r2, c2, z2⟩ := e_M_damageFrame r1 hD hw hi
      rw [e2, gbv_some]
      exact ⟨u, rfl, r2, modF_tr c1 c2, z2.trans z1⟩
  · have hd : (!decide (x = 0)) = true := by simp [hx]
    rw [hd]
    cases hr : rch O w true with
    | false => rw [lftE_0]; exact ⟨σ, rfl, RM_more hR, modF_rf, rfl⟩
    | true =>
      rw [lftE_up hw hx]
      have hv : (σ 19 11 - 1).toInt = (σ 19 11).toInt - 1 := by rw [z_sub (by rw [zk_1]; omega) (by rw [zk_1]; omega), zk_1]
      obtain ⟨r1, c1, z1⟩ := RM_rank hR (Mord_front (u := m2 (m2 σ 19 11 (σ 19 11 - 1)) 29 w (σ 19 11 - 1)) (w := w) hR.2.1 hv (by funext i; simp [m2_at]) (by simp [m2_at]) (by simp [m2_at])) (fr_m2 (fr_m2 fr_rf (by simp)) (by simp)) (fo_m2o (fo_m2 fo_rf (by simp)) (by decide))
      obtain ⟨u, e2, r2, c2, z2⟩ := e_M_damageFrame r1 hD hw hi
      rw [e2, gbv_some]
      exact ⟨u, rfl, r2, modF_tr c1 c2, z2.trans z1⟩
end ME
