/-! Pure part: numbers. -/
section PU
theorem z_lt {a b : Int32} : (a < b) ↔ (a.toInt < b.toInt) := Int32.lt_iff_toInt_lt
theorem z_le {a b : Int32} : (a ≤ b) ↔ (a.toInt ≤ b.toInt) := Int32.le_iff_toInt_le
theorem z_eq {a b : Int32} : (a = b) ↔ (a.toInt = b.toInt) := Int32.toInt_inj.symm
theorem z_lo (x : Int32) : -2147483648 ≤ x.toInt := by have := Int32.le_toInt x; omega
theorem z_hi (x : Int32) : x.toInt ≤ 2147483647 := by have := Int32.toInt_lt x; omega
theorem z_add {a b : Int32} (h1 : -2147483648 ≤ a.toInt + b.toInt) (h2 : a.toInt + b.toInt ≤ 2147483647) : (a + b).toInt = a.toInt + b.toInt := by
  rw [Int32.toInt_add]; exact Int.bmod_eq_of_le (by omega) (by omega)
theorem z_sub {a b : Int32} (h1 : -2147483648 ≤ a.toInt - b.toInt) (h2 : a.toInt - b.toInt ≤ 2147483647) : (a - b).toInt = a.toInt - b.toInt := by
  rw [Int32.toInt_sub]; exact Int.bmod_eq_of_le (by omega) (by omega)
theorem z_mul {a b : Int32} (h1 : -2147483648 ≤ a.toInt * b.toInt) (h2 : a.toInt * b.toInt ≤ 2147483647) : (a * b).toInt = a.toInt * b.toInt := by
  rw [Int32.toInt_mul]; exact Int.bmod_eq_of_le (by omega) (by omega)
theorem z_neg {a : Int32} (h1 : -2147483647 ≤ a.toInt) : (-a).toInt = -a.toInt := by
  have := z_hi a
  rw [Int32.toInt_neg]; exact Int.bmod_eq_of_le (by omega) (by omega)
theorem z_cl (x : Int32) : x.toNatClampNeg = x.toInt.toNat := (Int32.toNat_toInt x).symm
theorem zk_0 : (0 : Int32).toInt = 0 := by decide
theorem zk_1 : (1 : Int32).toInt = 1 := by decide
theorem zk_2 : (2 : Int32).toInt = 2 := by decide
theorem zk_3 : (3 : Int32).toInt = 3 := by decide
theorem zk_4 : (4 : Int32).toInt = 4 := by decide
theorem zk_5 : (5 : Int32).toInt = 5 := by decide
theorem zk_6 : (6 : Int32).toInt = 6 := by decide
theorem zk_7 : (7 : Int32).toInt = 7 := by decide
theorem zk_8 : (8 : Int32).toInt = 8 := by decide
theorem zk_11 : (11 : Int32).toInt = 11 := by decide
theorem zk_12 : (12 : Int32).toInt = 12 := by decide
theorem zk_15 : (15 : Int32).toInt = 15 := by decide
theorem zk_16 : (16 : Int32).toInt = 16 := by decide
theorem zk_23 : (23 : Int32).toInt = 23 := by decide
theorem zk_24 : (24 : Int32).toInt = 24 := by decide
theorem zk_31 : (31 : Int32).toInt = 31 := by decide
theorem zk_32 : (32 : Int32).toInt = 32 := by decide
theorem zk_50 : (50 : Int32).toInt = 50 := by decide
theorem zk_255 : (255 : Int32).toInt = 255 := by decide
theorem zk_384 : (384 : Int32).toInt = 384 := by decide
theorem zk_400 : (400 : Int32).toInt = 400 := by decide
theorem zk_1023 : (1023 : Int32).toInt = 1023 := by decide
theorem zk_3072 : (3072 : Int32).toInt = 3072 := by decide
theorem zk_m1 : (-1 : Int32).toInt = -1 := by decide
theorem zk_m50 : (-50 : Int32).toInt = -50 := by decide
theorem z_gin {i : Int32} {N : Nat} : (gin i N = true) ↔ (0 ≤ i.toInt ∧ i.toInt < (N : Int)) := by
  unfold gin
  simp only [Bool.not_eq_true', Bool.or_eq_false_iff, decide_eq_false_iff_not, z_lt, zk_0, z_cl]
  omega
theorem gin_nI {k N : Nat} (h : k < N) (hN : N < 2147483648) : gin (nI k) N = true := by
  rw [z_gin, nI_toInt (by omega)]; omega
theorem z_nI (x : Int32) (h : 0 ≤ x.toInt) : x = nI x.toInt.toNat := by
  have := z_hi x
  rw [z_eq, nI_toInt (by omega)]; omega
/-- a truth value as the machine has it -/
def bI (b : Bool) : Int32 := if b then 1 else 0
theorem bI_and (b : Bool) : bI b &&& 1 = bI b := by cases b <;> decide
theorem bI_0 (b : Bool) : bI b = 0 ↔ b = false := by cases b <;> decide
theorem bI_t : bI true = 1 := rfl
theorem bI_f : bI false = 0 := rfl
theorem gb_some {ρ : Type} (r : Int32) (u : Mem) (k : Int32 → Mem → Option ρ) : gb (some (r, u)) k = k r u := rfl
theorem gbv_some {ρ : Type} (u : Mem) (k : Mem → Option ρ) : gbv (some u) k = k u := rfl
theorem gbx_l {α ρ : Type} (a : α) (u : Mem) (k : α → Mem → Option ρ) (kx : String → Mem → Option ρ) : gbx (some (.inl a, u)) k kx = k a u := rfl
theorem gbx_r {α ρ : Type} (E : String) (u : Mem) (k : α → Mem → Option ρ) (kx : String → Mem → Option ρ) : gbx (some (.inr E, u)) k kx = kx E u := rfl
theorem gbi_e {ρ : Type} (e : Int32) (k : Int32 → Option ρ) : gbi e k = k e := rfl
theorem gbm_e {ρ : Type} (u : Mem) (k : Mem → Option ρ) : gbm u k = k u := rfl
theorem gbn_e {ρ : Type} (q : Nat) (k : Nat → Option ρ) : gbn q k = k q := rfl
theorem gfix_s {γ : Type} (z : γ) (F : γ → γ) (n : Nat) : gfix z F (n + 1) = F (gfix z F n) := rfl
theorem m2_at (σ : Mem) (q f : Nat) (v : Int32) (q' f' : Nat) : m2 σ q f v q' f' = if q' = q ∧ f' = f then v else σ q' f' := by
  unfold m2 upd
  by_cases h : q' = q
  · subst h; by_cases h2 : f' = f <;> simp [h2]
  · simp [h]
/-- u differs from σ at the places of l at most -/
def fr (l : List Nat) (σ u : Mem) : Prop := ∀ q, q ∉ l → u q = σ q
theorem fr_rf {l : List Nat} {σ : Mem} : fr l σ σ := fun _ _ => rfl
theorem fr_m2 {l : List Nat} {σ u : Mem} {q f : Nat} {v : Int32} (h : fr l σ u) (hq : q ∈ l) : fr l σ (m2 u q f v) := fun j hj => by
  have hne : j ≠ q := by rintro rfl; exact hj hq
  rw [m2_ne u f v hne]; exact h j hj
theorem fr_tr {l : List Nat} {σ u w : Mem} (h : fr l σ u) (h2 : fr l u w) : fr l σ w := fun q hq => (h2 q hq).trans (h q hq)
theorem fr_up {l l' : List Nat} {σ u : Mem} (h : fr l σ u) (hl : ∀ q ∈ l, q ∈ l') : fr l' σ u := fun q hq => h q (fun h' => hq (hl q h'))
end PU
