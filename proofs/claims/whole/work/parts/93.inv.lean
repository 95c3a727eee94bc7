/-! Pure part: what every next state keeps. -/
section MP
variable {σ : Mem} {W : Wnd} {O : List Nat} {P : Nat → Nat → Nat → Int32} {S : Nat → Int32} {D E : List Evt} {X : Int32} {T : Evt} {F N : Int32} {M : Int}
def EI (E : List Evt) : Prop := ∀ e ∈ E, ¬ e.1 = -1
def AI (W : Wnd) (O : List Nat) (D E : List Evt) (F : Int32) : Prop := WI W ∧ WD W ∧ OI W O ∧ DI D ∧ EI E ∧ FI F
theorem WD_same {W' : Wnd} (h : WD W) (e : ∀ w, w < 8 → W' w 0 = W w 0 ∧ W' w 3 = W w 3 ∧ W' w 4 = W w 4 ∧ W' w 5 = W w 5) : WD W' := by
  intro w hw w' hw' hne c hc hb
  obtain ⟨a0, a3, a4, a5⟩ := e w hw
  obtain ⟨b0, b3, b4, b5⟩ := e w' hw'
  rw [blk_ext (W := W') (W' := W) a0 a3 a4 a5] at hb
  rw [blk_ext (W := W') (W' := W) b0 b3 b4 b5]
  exact h w hw w' hw' hne c hc hb
theorem OI_same {W' : Wnd} (h : OI W O) (e : ∀ w, w < 8 → W' w 0 = W w 0) : OI W' O := by
  refine ⟨h.1, fun w => ?_⟩
  rw [h.2 w]
  constructor
  · rintro ⟨h1, h2⟩; exact ⟨h1, by rw [e w h1]; exact h2⟩
  · rintro ⟨h1, h2⟩; exact ⟨h1, by rw [e w h1] at h2; exact h2⟩
theorem w2_eq (w f g : Nat) (a b : Int32) (hf : f ≠ 0 ∧ f ≠ 3 ∧ f ≠ 4 ∧ f ≠ 5) (hg : g ≠ 0 ∧ g ≠ 3 ∧ g ≠ 4 ∧ g ≠ 5) : ∀ w', w' < 8 → w2 W w f a g b w' 0 = W w' 0 ∧ w2 W w f a g b w' 3 = W w' 3 ∧ w2 W w f a g b w' 4 = W w' 4 ∧ w2 W w f a g b w' 5 = W w' 5 := fun w' _ => by
  unfold w2 wset
  rw [if_neg (by omega), if_neg (by omega), if_neg (by omega), if_neg (by omega), if_neg (by omega), if_neg (by omega), if_neg (by omega), if_neg (by omega)]
  exact ⟨rfl, rfl, rfl, rfl⟩
theorem AI_move (h : AI W O D E F) {w : Nat} {x y : Int32} (hn : nearB x y = true) {D' : List Evt} (hD : DI D') : AI (w2 W w 1 x 2 y) O D' E F := by
  obtain ⟨h1, h2, h3, h4, h5, h6⟩ := h
  have e := w2_eq (W := W) w 1 2 x y (by omega) (by omega)
  exact ⟨w2_WI h1 hn, WD_same h2 e, OI_same h3 (fun w hw => (e w hw).1), hD, h5, h6⟩
theorem AI_pen (h : AI W O D E F) {w : Nat} {x y : Int32} (hn : nearB x y = true) {D' : List Evt} (hD : DI D') : AI (w2 W w 6 x 7 y) O D' E F := by
  obtain ⟨h1, h2, h3, h4, h5, h6⟩ := h
  have e := w2_eq (W := W) w 6 7 x y (by omega) (by omega)
  exact ⟨w2_WIp h1 hn, WD_same h2 e, OI_same h3 (fun w hw => (e w hw).1), hD, h5, h6⟩
theorem AI_dmg (h : AI W O D E F) {D' : List Evt} (hD : DI D') : AI W O D' E F := ⟨h.1, h.2.1, h.2.2.1, hD, h.2.2.2.2⟩
theorem DI_nil : DI [] := fun d hd => by cases hd
theorem DI_fr (h : DI D) (w : Nat) : DI (dfr D W w) := DI_add h _ _ _ _
theorem DI_rdm (h : DI D) (w : Nat) (up : Bool) : DI (rdm D W O w up) := by
  unfold rdm
  cases rch O w up with
  | false => exact h
  | true => exact DI_fr h w
theorem OI_rord (h : OI W O) {w : Nat} (hw : w ∈ O) (up : Bool) : OI W (rord O w up) := by
  unfold rord
  cases rch O w up with
  | false => exact h
  | true =>
    have hm : ∀ x, x ∈ O.filter (fun x => decide (x ≠ w)) ↔ x ∈ O ∧ x ≠ w := fun x => by rw [List.mem_filter]; simp
    cases up with
    | true =>
      refine ⟨List.nodup_cons.2 ⟨fun h1 => ((hm w).1 h1).2 rfl, h.1.filter _⟩, fun x => ?_⟩
      rw [← h.2 x]
      show x ∈ w :: O.filter (fun x => decide (x ≠ w)) ↔ x ∈ O
      rw [List.mem_cons, hm]
      by_cases hx : x = w
      · subst hx; simp [hw]
      · simp [hx]
    | false =>
      refine ⟨?_, fun x => ?_⟩
      · show (O.filter (fun x => decide (x ≠ w)) ++ [w]).Nodup
        rw [List.nodup_append]
        refine ⟨h.1.filter _, by simp, fun a ha b hb => ?_⟩
        rw [List.mem_singleton.1 hb]; exact ((hm a).1 ha).2
      · rw [← h.2 x]
        show x ∈ O.filter (fun x => decide (x ≠ w)) ++ [w] ↔ x ∈ O
        rw [List.mem_append, hm, List.mem_singleton]
        by_cases hx : x = w
        · subst hx; simp [hw]
        · simp [hx]
theorem EI_tE (h : EI E) {e : Evt} (he : ¬ e.1 = -1) : EI (tE E e) := by
  unfold tE
  by_cases hl : E.length < 12
  · rw [if_pos hl]; intro x hx
    rcases List.mem_append.1 hx with q | q
    · exact h x q
    · rw [List.mem_singleton.1 q]; exact he
  · rw [if_neg hl]; exact h
theorem EI_gfE (h : EI E) (F x : Int32) : EI (gfE E F x) := by
  have h1 : EI (gE1 E F) := by
    unfold gE1
    by_cases hF : F = -1
    · rw [if_pos hF]; exact h
    · rw [if_neg hF]; exact EI_tE h (by show ¬ (4 : Int32) = -1; decide)
  unfold gfE
  by_cases h2 : x = F
  · rw [if_pos h2]; exact h
  · rw [if_neg h2]
    by_cases h3 : x = -1
    · rw [if_pos h3]; exact h1
    · rw [if_neg h3]; exact EI_tE h1 (by show ¬ (3 : Int32) = -1; decide)
theorem FI_hd (h : OI W O) : FI (hdI O) := by
  cases O with
  | nil => exact Or.inl rfl
  | cons a t => exact Or.inr ⟨a, h.lt a (by simp), rfl⟩
theorem WI_close (h : WI W) {w : Nat} : WI (wset W w 0 0) := by
  intro w' hw'
  by_cases hww : w' = w
  · subst hww
    have h0 : wset W w' 0 0 w' 0 = 0 := by unfold wset; simp
    rw [h0]; exact ⟨Or.inl rfl, fun h => absurd rfl h⟩
  · have hq : ∀ g, wset W w 0 0 w' g = W w' g := fun g => by unfold wset; rw [if_neg (by omega)]
    rw [hq 0]
    refine ⟨(h w' hw').1, fun ho => ?_⟩
    obtain ⟨a, b, s, hi⟩ := (h w' hw').2 ho
    exact ⟨a, b, s, WI1_ext (fun f _ => (hq f).symm) hi⟩
theorem WD_close (h : WD W) {w : Nat} : WD (wset W w 0 0) := by
  have hne : ∀ c i, i ≠ w → blk (wset W w 0 0) c i = blk W c i := fun c i hi => blk_ext (by unfold wset; rw [if_neg (by omega)]) (by unfold wset; rw [if_neg (by omega)]) (by unfold wset; rw [if_neg (by omega)]) (by unfold wset; rw [if_neg (by omega)])
  have hwc : ∀ c, blk (wset W w 0 0) c w = false := fun c => blk_closed (by unfold wset; simp)
  intro w1 h1 w2 h2 hn c hc hb
  by_cases e1 : w1 = w
  · subst e1; rw [hwc] at hb; cases hb
  · by_cases e2 : w2 = w
    · subst e2; exact hwc c
    · rw [hne c w1 e1] at hb; rw [hne c w2 e2]; exact h w1 h1 w2 h2 hn c hc hb
theorem AI_close (h : AI W O D E F) (w : Nat) (z : Int32) : AI (wset W w 0 0) (O.filter (fun x => decide (x ≠ w))) (dfr D W w) (E.filter (fun x => decide (x.2.1 ≠ z))) (if F = nI w then hdI (O.filter (fun x => decide (x ≠ w))) else F) := by
  obtain ⟨h1, h2, h3, h4, h5, h6⟩ := h
  refine ⟨WI_close h1, WD_close h2, OI_close h3, DI_fr h4 w, fun e he => h5 e (List.mem_filter.1 he).1, ?_⟩
  by_cases hF : F = nI w
  · rw [if_pos hF]; exact FI_hd (OI_close h3)
  · rw [if_neg hF]; exact h6
theorem AI_open (h : AI W O D E F) {x y : Int32} {m n s k : Nat} (hxy : nearB x y = true) (hm : 1 ≤ m ∧ m ≤ 24) (hn : 1 ≤ n ∧ n ≤ 16) (hk8 : k < 8) (hc0 : W k 0 = 0) (hs : s + m * n ≤ 400) (hfr : ∀ c, s ≤ c → c < s + m * n → frW W c = true) (l t r b : Int32) : AI (wO W k x y (nI m) (nI n) (nI s)) (k :: O) (dadd D l t r b) E (nI k) := by
  obtain ⟨h1, h2, h3, h4, h5, h6⟩ := h
  have hk1 := wO_WI1 (W := W) (k := k) hxy hm hn hs
  have hok : ¬ wO W k x y (nI m) (nI n) (nI s) k 0 = 0 := by rw [wO_op]; decide
  have hbn : ∀ c w, w ≠ k → blk (wO W k x y (nI m) (nI n) (nI s)) c w = blk W c w := fun c w hw => blk_ext (wO_ne hw 0) (wO_ne hw 3) (wO_ne hw 4) (wO_ne hw 5)
  refine ⟨fun w hw => ?_, fun w hw w' hw' hne c hc hb => ?_, ⟨List.nodup_cons.2 ⟨fun hm => ((h3.2 k).1 hm).2 hc0, h3.1⟩, fun w => ?_⟩, DI_add h4 _ _ _ _, h5, Or.inr ⟨k, hk8, rfl⟩⟩
  · by_cases hwk : w = k
    · subst hwk; exact ⟨Or.inr wO_op, fun _ => ⟨m, n, s, hk1⟩⟩
    · rw [wO_ne hwk]
      refine ⟨(h1 w hw).1, fun ho => ?_⟩
      obtain ⟨a, b, s', hi⟩ := (h1 w hw).2 ho
      exact ⟨a, b, s', WI1_ext (fun f _ => (wO_ne hwk f).symm) hi⟩
  · by_cases e1 : w = k
    · subst e1
      have h9 := (blk_iff hk1 hok hc).1 hb
      rw [hbn c w' (fun q => hne q.symm)]
      exact (frW_iff W c).1 (hfr c h9.1 h9.2) w' hw'
    · rw [hbn c w e1] at hb
      by_cases e2 : w' = k
      · subst e2
        cases hq : blk (wO W w' x y (nI m) (nI n) (nI s)) c w' with
        | false => rfl
        | true =>
          have h9 := (blk_iff hk1 hok hc).1 hq
          have := (frW_iff W c).1 (hfr c h9.1 h9.2) w hw
          rw [hb] at this; cases this
      · rw [hbn c w' e2]; exact h2 w hw w' hw' hne c hc hb
  · rw [List.mem_cons]
    by_cases hwk : w = k
    · subst hwk; simp only [true_or, true_iff]; exact ⟨hk8, hok⟩
    · rw [wO_ne hwk, h3.2 w]; simp [hwk]
theorem AI_ord (h : AI W O D E F) {w : Nat} (hw : w < 8) (ho : ¬ W w 0 = 0) (up : Bool) {E' : List Evt} {F' : Int32} (hE : EI E') (hF : FI F') : AI W (rord O w up) (rdm D W O w up) E' F' :=
  ⟨h.1, h.2.1, OI_rord h.2.2.1 ((h.2.2.1.2 w).2 ⟨hw, ho⟩) up, DI_rdm h.2.2.2.1 w up, hE, hF⟩
theorem DI_mdc (h : DI D) (w : Nat) (z : Option Evt) : DI (mdc D W w z) := by
  cases z with
  | none => exact h
  | some b => exact DI_add h _ _ _ _
theorem DI_ldm (h : DI D) (w : Nat) (z : LSt) : DI (ldm D W w z) := by
  unfold ldm
  by_cases h0 : z.2.2 ≤ 0
  · rw [if_pos h0]; exact h
  · rw [if_neg h0]; exact DI_add h _ _ _ _
/-- both sides in one state -/
def Inv (σ : Mem) (M : Int) : Prop := ∃ W O P S D E X T F N, RC σ W O P S D E X T F N ∧ RM σ W O P S D E X T F N M ∧ AI W O D E F
theorem RM_keep (hR : RM σ W O P S D E X T F N M) {u : Mem} (h : ∀ q, 19 ≤ q → q < 40 → u q = σ q) : RM u W O P S D E X T F N M := by
  obtain ⟨rw, ro, rp, rS, rd, re, rf, rn, rs⟩ := hR
  have e19 := h 19 (by omega) (by omega)
  refine ⟨rw.keep (fun q h1 h2 => h q (by omega) (by omega)), ro.keep (h 29 (by omega) (by omega)) (by rw [e19]) (by rw [e19]), rp.keep (h 30 (by omega) (by omega)), fun i hi => ?_, rd.keep (by rw [e19]) (fun q h1 h2 => h q (by omega) (by omega)), re.keep (fun q h1 h2 => h q (by omega) (by omega)) (fun f _ => by rw [e19]), by rw [e19]; exact rf, by rw [e19]; exact rn, by rw [e19]; exact rs⟩
  rw [h 20 (by omega) (by omega)]; exact rS i hi
theorem RC_keep (hR : RC σ W O P S D E X T F N) {u : Mem} (h : ∀ q, q < 19 ∨ 40 < q → u q = σ q) : RC u W O P S D E X T F N := by
  obtain ⟨rw, ro, rs, rp, rS, rd, re, rf, rn⟩ := hR
  have e0 := h 0 (by omega)
  refine ⟨rw.keep (fun q h1 => h q (by omega)), ro.keep (h 3 (by omega)) (h 4 (by omega)), rs.keep (h 8 (by omega)), rp.keep (h 6 (by omega)), fun i hi => ?_, rd.keep (fun q h1 h2 => h q (by omega)), re.keep (fun q h1 h2 => h q (by omega)), by rw [e0]; exact rf, by rw [e0]; exact rn⟩
  rw [h 1 (by omega)]; exact rS i hi
/-- one call on both sides, with an answer; without -/
def AgV (fL fM : Mem → Option (Int32 × Mem)) (σ : Mem) (M : Int) : Prop := ∃ c u v w, fL σ = some (c, u) ∧ fM u = some (v, w) ∧ w 19 0 = c ∧ (c = 0 → w 40 0 = v) ∧ Inv w (M + 1)
def AgN (fL : Mem → Option (Int32 × Mem)) (fM : Mem → Option Mem) (σ : Mem) (M : Int) : Prop := ∃ c u w, fL σ = some (c, u) ∧ fM u = some w ∧ w 19 0 = c ∧ Inv w (M + 1)
variable {W' : Wnd} {O' : List Nat} {P' : Nat → Nat → Nat → Int32} {S' : Nat → Int32} {D' E' : List Evt} {X' : Int32} {T' : Evt} {F' N' : Int32}
theorem ag_ok {fL fM : Mem → Option (Int32 × Mem)} {r : Int32} {u : Mem} (hL : fL σ = some (0, m2 u 40 0 r)) (hc : clsF σ u) (hC : RC u W' O' P' S' D' E' X' T' F' N') (hR : RM σ W O P S D E X T F N M) (hI : AI W' O' D' E' F') (hM : ∀ μ, RM μ W O P S D E X T F N M → ∃ w, fM μ = some (r, w) ∧ RM w W' O' P' S' D' E' X' T' F' N' (M + 1) ∧ modF μ w ∧ w 19 0 = 0) : AgV fL fM σ M := by
  have h40 : fr [40] u (m2 u 40 0 r) := fr_m2 fr_rf (by simp)
  have hR2 : RM (m2 u 40 0 r) W O P S D E X T F N M := RM_keep hR (fun q h1 h2 => (h40 q (by simp; omega)).trans (hc q h1 (by omega)))
  obtain ⟨w, e1, r1, m1, z1⟩ := hM _ hR2
  refine ⟨0, _, r, w, hL, e1, z1, fun _ => ?_, W', O', P', S', D', E', X', T', F', N', RC_keep hC (fun q hq => ?_), r1, hI⟩
  · rw [m1 40 (by omega), m2_at, if_pos ⟨rfl, rfl⟩]
  · rw [m1 q (by omega), h40 q (by simp; omega)]
theorem ag_ex {fL fM : Mem → Option (Int32 × Mem)} {c : Int32} (hL : fL σ = some (c, σ)) (hc : ¬ c = 0) (hC : RC σ W O P S D E X T F N) (hI : AI W O D E F) (hM : ∃ v w, fM σ = some (v, w) ∧ RM w W O P S D E X T F N M ∧ modF σ w ∧ w 19 0 = c) : AgV fL fM σ M := by
  obtain ⟨v, w, e1, r1, m1, z1⟩ := hM
  exact ⟨c, σ, v, w, hL, e1, z1, fun h => absurd h hc, W, O, P, S, D, E, X, T, F, N, RC_keep hC (fun q hq => m1 q (by omega)), RM_more r1, hI⟩
theorem an_ok {fL : Mem → Option (Int32 × Mem)} {fM : Mem → Option Mem} {u : Mem} (hL : fL σ = some (0, u)) (hc : clsF σ u) (hC : RC u W' O' P' S' D' E' X' T' F' N') (hR : RM σ W O P S D E X T F N M) (hI : AI W' O' D' E' F') (hM : ∀ μ, RM μ W O P S D E X T F N M → ∃ w, fM μ = some w ∧ RM w W' O' P' S' D' E' X' T' F' N' M ∧ modF μ w ∧ w 19 0 = 0) : AgN fL fM σ M := by
  obtain ⟨w, e1, r1, m1, z1⟩ := hM _ (RM_keep hR (fun q h1 h2 => hc q h1 (by omega)))
  exact ⟨0, u, w, hL, e1, z1, W', O', P', S', D', E', X', T', F', N', RC_keep hC (fun q hq => m1 q (by omega)), RM_more r1, hI⟩
theorem an_ex {fL : Mem → Option (Int32 × Mem)} {fM : Mem → Option Mem} {c : Int32} (hL : fL σ = some (c, σ)) (hC : RC σ W O P S D E X T F N) (hI : AI W O D E F) (hM : ∃ w, fM σ = some w ∧ RM w W O P S D E X T F N M ∧ modF σ w ∧ w 19 0 = c) : AgN fL fM σ M := by
  obtain ⟨w, e1, r1, m1, z1⟩ := hM
  exact ⟨c, σ, w, hL, e1, z1, W, O, P, S, D, E, X, T, F, N, RC_keep hC (fun q hq => m1 q (by omega)), RM_more r1, hI⟩
end MP
