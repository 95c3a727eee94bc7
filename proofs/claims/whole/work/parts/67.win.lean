/-! Pure part: windows of the class: checks, search, owner of a place. -/
section PW
abbrev Wnd : Type := Nat → Nat → Int32
def Cwin (σ : Mem) (W : Wnd) : Prop := ∀ w, w < 8 → ∀ f, f < 8 → σ (gPB + w) f = W w f
theorem Cwin.keep {σ u : Mem} {W : Wnd} (h : Cwin σ W) (hf : ∀ q, 41 ≤ q → u q = σ q) : Cwin u W := fun w hw f hf9 => by
  rw [hf (gPB + w) (by unfold gPB; omega)]; exact h w hw f hf9
def IAE : String := "java/lang/IllegalArgumentException"
def ISE : String := "java/lang/IllegalStateException"
def NSE : String := "java/util/NoSuchElementException"
def IOB : String := "java/lang/IndexOutOfBoundsException"
def nearB (a b : Int32) : Bool := !decide (a < -50) && !decide (50 < a) && !decide (b < -50) && decide (b ≤ 50)
def sizeB (a b : Int32) : Bool := !decide (a < 1) && !decide (24 < a) && !decide (b < 1) && decide (b ≤ 16)
def extB (a : Int32) : Bool := !decide (a < 0) && decide (a ≤ 1023)
def colB (a : Int32) : Bool := !decide (a < 0) && decide (a ≤ 255)
def scrB (a b : Int32) : Bool := !decide (a < 0) && !decide (24 ≤ a) && !decide (b < 0) && decide (b < 16)
theorem e_requireNear (a b : Int32) (σ : Mem) : f_S_requireNear a b σ = if nearB a b then some (.inl (), σ) else some (.inr IAE, σ) := by
  unfold f_S_requireNear f_S_requireNear_0 f_S_requireNear_24 nearB
  by_cases h1 : a < -50
  · simp [h1, IAE]
  by_cases h2 : 50 < a
  · simp [h1, h2, IAE]
  by_cases h3 : b < -50
  · simp [h1, h2, h3, IAE]
  by_cases h4 : b ≤ 50
  · simp [h1, h2, h3, h4]
  · simp [h1, h2, h3, h4, IAE]
theorem e_requireSize (a b : Int32) (σ : Mem) : f_S_requireSize a b σ = if sizeB a b then some (.inl (), σ) else some (.inr IAE, σ) := by
  unfold f_S_requireSize f_S_requireSize_0 f_S_requireSize_22 sizeB
  by_cases h1 : a < 1
  · simp [h1, IAE]
  by_cases h2 : 24 < a
  · simp [h1, h2, IAE]
  by_cases h3 : b < 1
  · simp [h1, h2, h3, IAE]
  by_cases h4 : b ≤ 16
  · simp [h1, h2, h3, h4]
  · simp [h1, h2, h3, h4, IAE]
theorem e_requireExtent (a : Int32) (σ : Mem) : f_S_requireExtent a σ = if extB a then some (.inl (), σ) else some (.inr IAE, σ) := by
  unfold f_S_requireExtent f_S_requireExtent_0 f_S_requireExtent_11 extB
  by_cases h1 : a < 0
  · simp [h1, IAE]
  by_cases h2 : a ≤ 1023
  · simp [h1, h2]
  · simp [h1, h2, IAE]
theorem e_requireColour (a : Int32) (σ : Mem) : f_S_requireColour a σ = if colB a then some (.inl (), σ) else some (.inr IAE, σ) := by
  unfold f_S_requireColour f_S_requireColour_0 f_S_requireColour_11 colB
  by_cases h1 : a < 0
  · simp [h1, IAE]
  by_cases h2 : a ≤ 255
  · simp [h1, h2]
  · simp [h1, h2, IAE]
theorem e_requireOnScreen (a b : Int32) (σ : Mem) : f_S_requireOnScreen a b σ = if scrB a b then some (.inl (), σ) else some (.inr IOB, σ) := by
  unfold f_S_requireOnScreen f_S_requireOnScreen_0 f_S_requireOnScreen_20 scrB
  by_cases h1 : a < 0
  · simp [h1, IOB]
  by_cases h2 : 24 ≤ a
  · simp [h1, h2, IOB]
  by_cases h3 : b < 0
  · simp [h1, h2, h3, IOB]
  by_cases h4 : b < 16
  · simp [h1, h2, h3, h4]
  · simp [h1, h2, h3, h4, IOB]
/-- the number names an open window -/
def opB (W : Wnd) (x : Int32) : Bool := !decide (x < 0) && !decide (8 ≤ x) && !decide (W x.toNatClampNeg 0 = 0)
theorem opB_iff (W : Wnd) (x : Int32) : opB W x = true ↔ ∃ w, w < 8 ∧ x = nI w ∧ ¬ W w 0 = 0 := by
  unfold opB
  simp only [Bool.and_eq_true, Bool.not_eq_true', decide_eq_false_iff_not]
  constructor
  · rintro ⟨⟨h1, h2⟩, h3⟩
    rw [z_lt, zk_0] at h1; rw [z_le, zk_8] at h2
    exact ⟨x.toInt.toNat, by omega, z_nI x (by omega), by rw [z_cl] at h3; exact h3⟩
  · rintro ⟨w, hw, rfl, h3⟩
    refine ⟨⟨by simp (disch := (first | omega | (simp (disch := omega) only [nI_toInt, zk_0, zk_1, zk_2, zk_3, zk_4, zk_5, zk_6, zk_7, zk_8, zk_11, zk_12, zk_15, zk_16, zk_23, zk_24, zk_31, zk_32, zk_50, zk_255, zk_384, zk_400, zk_1023, zk_3072, zk_m1, zk_m50]; omega))) only [z_le, z_lt, z_eq, z_gin, z_cl, nI_toInt, z_add, z_sub, zk_0, zk_1, zk_2, zk_3, zk_4, zk_5, zk_6, zk_7, zk_8, zk_11, zk_12, zk_15, zk_16, zk_23, zk_24, zk_31, zk_32, zk_50, zk_255, zk_384, zk_400, zk_1023, zk_3072, zk_m1, zk_m50]; omega, by simp (disch := (first | omega | (simp (disch := omega) only [nI_toInt, zk_0, zk_1, zk_2, zk_3, zk_4, zk_5, zk_6, zk_7, zk_8, zk_11, zk_12, zk_15, zk_16, zk_23, zk_24, zk_31, zk_32, zk_50, zk_255, zk_384, zk_400, zk_1023, zk_3072, zk_m1, zk_m50]; omega))) only [z_le, z_lt, z_eq, z_gin, z_cl, nI_toInt, z_add, z_sub, zk_0, zk_1, zk_2, zk_3, zk_4, zk_5, zk_6, zk_7, zk_8, zk_11, zk_12, zk_15, zk_16, zk_23, zk_24, zk_31, zk_32, zk_50, zk_255, zk_384, zk_400, zk_1023, zk_3072, zk_m1, zk_m50]; omega⟩, ?_⟩
    rw [nI_clamp (by omega)]; exact h3
theorem e_openPane_ok {σ : Mem} {W : Wnd} (h : Cwin σ W) {w : Nat} (hw : w < 8) (ho : ¬ W w 0 = 0) : f_S_openPane (nI w) σ = some (.inl (gPB + w), σ) := by
  unfold f_S_openPane f_S_openPane_0
  rw [if_neg (by simp (disch := (first | omega | (simp (disch := omega) only [nI_toInt, zk_0, zk_1, zk_2, zk_3, zk_4, zk_5, zk_6, zk_7, zk_8, zk_11, zk_12, zk_15, zk_16, zk_23, zk_24, zk_31, zk_32, zk_50, zk_255, zk_384, zk_400, zk_1023, zk_3072, zk_m1, zk_m50]; omega))) only [z_le, z_lt, z_eq, z_gin, z_cl, nI_toInt, z_add, z_sub, zk_0, zk_1, zk_2, zk_3, zk_4, zk_5, zk_6, zk_7, zk_8, zk_11, zk_12, zk_15, zk_16, zk_23, zk_24, zk_31, zk_32, zk_50, zk_255, zk_384, zk_400, zk_1023, zk_3072, zk_m1, zk_m50]; omega), if_neg (by simp (disch := (first | omega | (simp (disch := omega) only [nI_toInt, zk_0, zk_1, zk_2, zk_3, zk_4, zk_5, zk_6, zk_7, zk_8, zk_11, zk_12, zk_15, zk_16, zk_23, zk_24, zk_31, zk_32, zk_50, zk_255, zk_384, zk_400, zk_1023, zk_3072, zk_m1, zk_m50]; omega))) only [z_le, z_lt, z_eq, z_gin, z_cl, nI_toInt, z_add, z_sub, zk_0, zk_1, zk_2, zk_3, zk_4, zk_5, zk_6, zk_7, zk_8, zk_11, zk_12, zk_15, zk_16, zk_23, zk_24, zk_31, zk_32, zk_50, zk_255, zk_384, zk_400, zk_1023, zk_3072, zk_m1, zk_m50]; omega)]
  simp only [if_pos (gin_nI hw (show 8 < 2147483648 by omega)), nI_clamp (show w < 2 ^ 31 by omega), gbn_e]
  rw [h w hw 0 (by omega), if_neg ho]
theorem e_openPane_no {σ : Mem} {W : Wnd} (h : Cwin σ W) {x : Int32} (hx : opB W x = false) : f_S_openPane x σ = some (.inr NSE, σ) := by
  unfold f_S_openPane f_S_openPane_0 f_S_openPane_22
  by_cases h1 : x < 0
  · rw [if_pos h1]; rfl
  by_cases h2 : 8 ≤ x
  · rw [if_neg h1, if_pos h2]; rfl
  rw [if_neg h1, if_neg h2]
  have hx2 : W x.toNatClampNeg 0 = 0 := by
    unfold opB at hx; simpa [h1, h2] using hx
  rw [z_lt, zk_0] at h1; rw [z_le, zk_8] at h2
  have hg : gin x 8 = true := by rw [z_gin]; omega
  rw [if_pos hg]
  simp only [gbn_e]
  rw [h x.toNatClampNeg (by rw [z_cl]; omega) 0 (by omega), if_pos hx2]; rfl
theorem gpn_w {w : Nat} (hw : w < 8) : gpn (gPB + w) = true := gpn_at w hw
/-- the least closed window, 8 if there is none -/
def lcD (W : Wnd) : Nat → Nat → Nat
  | 0, k => k
  | d + 1, k => if W k 0 = 0 then k else lcD W d (k + 1)
theorem lcD_spec (W : Wnd) : ∀ (d k : Nat), k ≤ lcD W d k ∧ lcD W d k ≤ k + d ∧ (lcD W d k < k + d → W (lcD W d k) 0 = 0) := by
  intro d
  induction d with
  | zero => intro k; simp [lcD]
  | succ d ih =>
    intro k
    unfold lcD
    by_cases h : W k 0 = 0
    · rw [if_pos h]; exact ⟨Nat.le_refl _, by omega, fun _ => h⟩
    · rw [if_neg h]; obtain ⟨a, b, c⟩ := ih (k + 1); exact ⟨by omega, by omega, fun h2 => c (by omega)⟩
theorem S_least_l {σ : Mem} {W : Wnd} (h : Cwin σ W) : ∀ (d k n : Nat), k + d = 8 → d < n → f_S_leastClosed_2 n σ (nI k) = some (if lcD W d k = 8 then -1 else nI (lcD W d k), σ) := by
  intro d
  induction d with
  | zero =>
    intro k n h1 h2
    obtain ⟨n, rfl⟩ : ∃ j, n = j + 1 := ⟨n - 1, by omega⟩
    show f_S_leastClosed_2B (f_S_leastClosed_2 n) σ (nI k) = _
    unfold f_S_leastClosed_2B lcD
    rw [if_pos (by simp (disch := (first | omega | (simp (disch := omega) only [nI_toInt, zk_0, zk_1, zk_2, zk_3, zk_4, zk_5, zk_6, zk_7, zk_8, zk_11, zk_12, zk_15, zk_16, zk_23, zk_24, zk_31, zk_32, zk_50, zk_255, zk_384, zk_400, zk_1023, zk_3072, zk_m1, zk_m50]; omega))) only [z_le, z_lt, z_eq, z_gin, z_cl, nI_toInt, z_add, z_sub, zk_0, zk_1, zk_2, zk_3, zk_4, zk_5, zk_6, zk_7, zk_8, zk_11, zk_12, zk_15, zk_16, zk_23, zk_24, zk_31, zk_32, zk_50, zk_255, zk_384, zk_400, zk_1023, zk_3072, zk_m1, zk_m50]; omega), if_pos (by omega)]
  | succ d ih =>
    intro k n h1 h2
    obtain ⟨n, rfl⟩ : ∃ j, n = j + 1 := ⟨n - 1, by omega⟩
    show f_S_leastClosed_2B (f_S_leastClosed_2 n) σ (nI k) = _
    unfold f_S_leastClosed_2B lcD
    rw [if_neg (by simp (disch := (first | omega | (simp (disch := omega) only [nI_toInt, zk_0, zk_1, zk_2, zk_3, zk_4, zk_5, zk_6, zk_7, zk_8, zk_11, zk_12, zk_15, zk_16, zk_23, zk_24, zk_31, zk_32, zk_50, zk_255, zk_384, zk_400, zk_1023, zk_3072, zk_m1, zk_m50]; omega))) only [z_le, z_lt, z_eq, z_gin, z_cl, nI_toInt, z_add, z_sub, zk_0, zk_1, zk_2, zk_3, zk_4, zk_5, zk_6, zk_7, zk_8, zk_11, zk_12, zk_15, zk_16, zk_23, zk_24, zk_31, zk_32, zk_50, zk_255, zk_384, zk_400, zk_1023, zk_3072, zk_m1, zk_m50]; omega), if_pos (gin_nI (by omega) (by omega)), nI_clamp (by omega)]
    simp only [gbn_e, nI_1]
    rw [h k (by omega) 0 (by omega)]
    by_cases h5 : W k 0 = 0
    · rw [if_pos h5, if_pos h5, if_neg (by omega)]
    · rw [if_neg h5, if_neg h5, ih (k + 1) n (by omega) (by omega)]
theorem e_leastClosed {σ : Mem} {W : Wnd} (h : Cwin σ W) : f_S_leastClosed σ = some (if lcD W 8 0 = 8 then -1 else nI (lcD W 8 0), σ) :=
  S_least_l h 8 0 gN rfl (by decide)
/-- the cell (u, v) lies in window w's picture; the place (x, y) in its frame -/
def hasW (W : Wnd) (w : Nat) (u v : Int32) : Bool := decide (0 ≤ u) && decide (u < W w 3) && decide (0 ≤ v) && decide (v < W w 4)
def cov (W : Wnd) (x y : Int32) (w : Nat) : Bool := hasW W w (x - W w 1) (y - W w 2)
def owI (o : Option Nat) : Int32 := match o with
  | none => -1
  | some w => nI w
theorem hasB_W {σ : Mem} {W : Wnd} (h : Cwin σ W) {w : Nat} (hw : w < 8) (u v : Int32) : hasB σ (gPB + w) u v = hasW W w u v := by
  unfold hasB hasW; rw [h w hw 3 (by omega), h w hw 4 (by omega)]
theorem e_covers {σ : Mem} {W : Wnd} (h : Cwin σ W) {w : Nat} (hw : w < 8) (x y : Int32) : f_P_covers (gPB + w) x y σ = some (bI (cov W x y w), σ) := by
  rw [e_P_covers, hasB_W h hw, h w hw 1 (by omega), h w hw 2 (by omega)]; rfl
theorem S_owner_l {σ : Mem} {W : Wnd} {O : List Nat} (h : Cwin σ W) (hO : Cord σ O) (hb : ∀ x ∈ O, x < 8) (x y : Int32) : ∀ (d k n : Nat), k + d = O.length → d < n → f_S_ownerOf_2 n σ x y (nI k) = some (owI ((O.drop k).find? (cov W x y)), σ) := by
  have hO8 := hO.2.1
  intro d
  induction d with
  | zero =>
    intro k n h1 h2
    obtain ⟨n, rfl⟩ : ∃ j, n = j + 1 := ⟨n - 1, by omega⟩
    show f_S_ownerOf_2B (f_S_ownerOf_2 n) σ x y (nI k) = _
    unfold f_S_ownerOf_2B
    rw [hO.1, if_pos (by simp (disch := (first | omega | (simp (disch := omega) only [nI_toInt, zk_0, zk_1, zk_2, zk_3, zk_4, zk_5, zk_6, zk_7, zk_8, zk_11, zk_12, zk_15, zk_16, zk_23, zk_24, zk_31, zk_32, zk_50, zk_255, zk_384, zk_400, zk_1023, zk_3072, zk_m1, zk_m50]; omega))) only [z_le, z_lt, z_eq, z_gin, z_cl, nI_toInt, z_add, z_sub, zk_0, zk_1, zk_2, zk_3, zk_4, zk_5, zk_6, zk_7, zk_8, zk_11, zk_12, zk_15, zk_16, zk_23, zk_24, zk_31, zk_32, zk_50, zk_255, zk_384, zk_400, zk_1023, zk_3072, zk_m1, zk_m50]; omega), List.drop_eq_nil_of_le (by omega)]; rfl
  | succ d ih =>
    intro k n h1 h2
    obtain ⟨n, rfl⟩ : ∃ j, n = j + 1 := ⟨n - 1, by omega⟩
    show f_S_ownerOf_2B (f_S_ownerOf_2 n) σ x y (nI k) = _
    unfold f_S_ownerOf_2B
    have hw : O.getD k 0 < 8 := hb _ (getD_mem O 0 k (by omega))
    rw [hO.1, if_neg (by simp (disch := (first | omega | (simp (disch := omega) only [nI_toInt, zk_0, zk_1, zk_2, zk_3, zk_4, zk_5, zk_6, zk_7, zk_8, zk_11, zk_12, zk_15, zk_16, zk_23, zk_24, zk_31, zk_32, zk_50, zk_255, zk_384, zk_400, zk_1023, zk_3072, zk_m1, zk_m50]; omega))) only [z_le, z_lt, z_eq, z_gin, z_cl, nI_toInt, z_add, z_sub, zk_0, zk_1, zk_2, zk_3, zk_4, zk_5, zk_6, zk_7, zk_8, zk_11, zk_12, zk_15, zk_16, zk_23, zk_24, zk_31, zk_32, zk_50, zk_255, zk_384, zk_400, zk_1023, zk_3072, zk_m1, zk_m50]; omega), if_pos (gin_nI (by omega) (by omega)), nI_clamp (by omega)]
    simp only [gbi_e]
    rw [hO.2.2 k (by omega), if_pos (gin_nI hw (by omega)), nI_clamp (by omega)]
    simp only [gbn_e]
    rw [e_covers h hw, gb_some, nI_1, drop_getD O 0 k (by omega), List.find?_cons]
    by_cases hc : cov W x y (O.getD k 0) = true
    · rw [if_neg (by rw [bI_0, hc]; simp)]; simp only [hc]; rfl
    · have hc' : cov W x y (O.getD k 0) = false := by simpa using hc
      rw [if_pos (by rw [bI_0]; exact hc'), ih (k + 1) n (by omega) (by omega)]; simp only [hc']
theorem e_ownerOf {σ : Mem} {W : Wnd} {O : List Nat} (h : Cwin σ W) (hO : Cord σ O) (hb : ∀ x ∈ O, x < 8) (x y : Int32) : f_S_ownerOf x y σ = some (owI (O.find? (cov W x y)), σ) :=
  S_owner_l h hO hb x y O.length 0 gN (by omega) (by unfold gN; have := hO.2.1; omega)
end PW
