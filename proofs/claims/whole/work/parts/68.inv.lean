/-! Pure part: what holds of windows; the class's relation. -/
section PI
/-- what is known of an open window: width a, height b, start s -/
def WI1 (W : Wnd) (w a b s : Nat) : Prop := W w 3 = nI a ∧ W w 4 = nI b ∧ W w 5 = nI s ∧ 1 ≤ a ∧ a ≤ 24 ∧ 1 ≤ b ∧ b ≤ 16 ∧ s + a * b ≤ 400 ∧ -50 ≤ (W w 1).toInt ∧ (W w 1).toInt ≤ 50 ∧ -50 ≤ (W w 2).toInt ∧ (W w 2).toInt ≤ 50 ∧ -50 ≤ (W w 6).toInt ∧ (W w 6).toInt ≤ 50 ∧ -50 ≤ (W w 7).toInt ∧ (W w 7).toInt ≤ 50
def WI (W : Wnd) : Prop := ∀ w, w < 8 → (W w 0 = 0 ∨ W w 0 = 1) ∧ (¬ W w 0 = 0 → ∃ a b s : Nat, WI1 W w a b s)
/-- no two stretches share a cell -/
def WD (W : Wnd) : Prop := ∀ w, w < 8 → ∀ w', w' < 8 → w ≠ w' → ∀ c, c < 400 → blk W c w = true → blk W c w' = false
def OI (W : Wnd) (O : List Nat) : Prop := O.Nodup ∧ ∀ w, w ∈ O ↔ (w < 8 ∧ ¬ W w 0 = 0)
theorem OI.lt {W : Wnd} {O : List Nat} (h : OI W O) : ∀ x ∈ O, x < 8 := fun x hx => ((h.2 x).1 hx).1
theorem nodup_le : ∀ (n : Nat) (l : List Nat), l.Nodup → (∀ x ∈ l, x < n) → l.length ≤ n := by
  intro n
  induction n with
  | zero =>
    intro l _ h
    cases l with
    | nil => simp
    | cons a t => exact absurd (h a (by simp)) (by omega)
  | succ n ih =>
    intro l hl h
    by_cases hm : n ∈ l
    · have h1 := ih (l.erase n) (hl.erase n) (fun x hx => by
        have h2 := h x (List.mem_of_mem_erase hx)
        have h3 : x ≠ n := by
          rintro rfl
          exact (List.Nodup.not_mem_erase hl) hx
        omega)
      rw [List.length_erase_of_mem hm] at h1
      omega
    · have h1 := ih l hl (fun x hx => by
        have h2 := h x hx
        have h3 : x ≠ n := by rintro rfl; exact hm hx
        omega)
      omega
theorem OI.len_lt {W : Wnd} {O : List Nat} (h : OI W O) {k : Nat} (hk : k < 8) (hc : W k 0 = 0) : O.length < 8 := by
  have hn : k ∉ O := fun hm => ((h.2 k).1 hm).2 hc
  have := nodup_le 8 (k :: O) (List.nodup_cons.2 ⟨hn, h.1⟩) (fun x hx => by
    rcases List.mem_cons.1 hx with rfl | hx
    · exact hk
    · exact h.lt x hx)
  simp only [List.length_cons] at this
  omega
theorem OI.len_lt_mem {W : Wnd} {O : List Nat} (h : OI W O) {w : Nat} (hw : w ∈ O) : (O.filter (fun x => decide (x ≠ w))).length < 8 := by
  have h1 := nodup_le 8 (w :: O.filter (fun x => decide (x ≠ w))) (List.nodup_cons.2 ⟨by simp, h.1.filter _⟩) (fun x hx => by
    rcases List.mem_cons.1 hx with rfl | hx
    · exact h.lt x hw
    · exact h.lt x (List.mem_filter.1 hx).1)
  simp only [List.length_cons] at h1
  omega
theorem mul_le_400 {a b s : Nat} (ha : a ≤ 24) (hb : b ≤ 16) : a * b ≤ 384 := Nat.mul_le_mul ha hb
theorem blk_iff {W : Wnd} {w a b s c : Nat} (h : WI1 W w a b s) (ho : ¬ W w 0 = 0) (hc : c < 400) : blk W c w = true ↔ s ≤ c ∧ c < s + a * b := by
  obtain ⟨h1, h2, h3, h4, h5, h6, h7, h8, -⟩ := h
  have hm : a * b ≤ 384 := mul_le_400 (s := 0) h5 h7
  unfold blk
  rw [h1, h2, h3, pk_mul, nI_add]
  simp only [Bool.and_eq_true, decide_eq_true_eq, ho, not_false_eq_true, true_and]
  rw [nI_ltI (by omega) (by omega), nI_ltI (by omega) (by omega)]
  omega
theorem blk_closed {W : Wnd} {w c : Nat} (h : W w 0 = 0) : blk W c w = false := by unfold blk; simp [h]
/-- a cell of a picture lies in the window's stretch -/
theorem cell_lt {a b u v s : Nat} (hu : u < a) (hv : v < b) : s ≤ s + v * a + u ∧ s + v * a + u < s + a * b := by
  have h1 : (v + 1) * a ≤ b * a := Nat.mul_le_mul_right a hv
  rw [Nat.add_mul, Nat.one_mul, Nat.mul_comm b a] at h1
  omega
theorem cell_inj {a u v u' v' : Nat} (hu : u < a) (hu' : u' < a) (h : v * a + u = v' * a + u') : u = u' ∧ v = v' := by
  have h1 : (v * a + u) / a = v := by rw [Nat.mul_comm, Nat.mul_add_div (by omega), Nat.div_eq_of_lt hu, Nat.add_zero]
  have h2 : (v' * a + u') / a = v' := by rw [Nat.mul_comm, Nat.mul_add_div (by omega), Nat.div_eq_of_lt hu', Nat.add_zero]
  have h3 : v = v' := by rw [← h1, ← h2, h]
  subst h3; omega
def Cst (σ : Mem) (W : Wnd) : Prop := ∀ c, c < 400 → σ 8 c = bI (!frW W c)
def Cpic (σ : Mem) (W : Wnd) (P : Nat → Nat → Nat → Int32) : Prop := ∀ w, w < 8 → ¬ W w 0 = 0 → ∀ a b s : Nat, WI1 W w a b s → ∀ u v, u < a → v < b → σ 6 (s + v * a + u) = P w u v
def RC (σ : Mem) (W : Wnd) (O : List Nat) (P : Nat → Nat → Nat → Int32) (S : Nat → Int32) (D E : List Evt) (X : Int32) (T : Evt) (F N : Int32) : Prop :=
  Cwin σ W ∧ Cord σ O ∧ Cst σ W ∧ Cpic σ W P ∧ (∀ i, i < 384 → σ 1 i = S i) ∧ CD σ D ∧ CE σ E X T ∧ σ 0 6 = F ∧ σ 0 7 = N
/-- the reference's cells are untouched -/
def clsF (σ u : Mem) : Prop := ∀ q, 19 ≤ q → q ≤ 40 → u q = σ q
theorem clsF_rf {σ : Mem} : clsF σ σ := fun _ _ _ => rfl
theorem clsF_tr {σ u w : Mem} (h : clsF σ u) (h2 : clsF u w) : clsF σ w := fun q a b => (h2 q a b).trans (h q a b)
theorem clsF_fr {σ u : Mem} {l : List Nat} (h : fr l σ u) (hl : ∀ q ∈ l, q < 19 ∨ 40 < q) : clsF σ u := fun q a b => h q (fun hq => by have := hl q hq; omega)
def wset (W : Wnd) (k f : Nat) (v : Int32) : Wnd := fun w g => if w = k ∧ g = f then v else W w g
theorem Cwin_set {σ : Mem} {W : Wnd} (h : Cwin σ W) (k f : Nat) (v : Int32) : Cwin (m2 σ (gPB + k) f v) (wset W k f v) := by
  intro w hw g hg
  rw [m2_at]; unfold wset
  by_cases h1 : w = k ∧ g = f
  · rw [if_pos ⟨by omega, h1.2⟩, if_pos h1]
  · rw [if_neg (by omega), if_neg h1]; exact h w hw g hg
theorem Cwin_ext {σ : Mem} {W W' : Wnd} (h : Cwin σ W) (he : ∀ w, w < 8 → ∀ f, f < 8 → W w f = W' w f) : Cwin σ W' := fun w hw f hf => (h w hw f hf).trans (he w hw f hf)
theorem fr_pane {l : List Nat} {σ u : Mem} {k f : Nat} {v : Int32} (h : fr l σ u) (hq : gPB + k ∈ l) : fr l σ (m2 u (gPB + k) f v) := fr_m2 h hq
end PI
