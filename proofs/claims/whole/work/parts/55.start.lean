/-! The law's entry. -/
section GS
/-- the memory behind the constructors -/
def gS0 : Mem := fun q => match q with
  | 0 => fun f => if f = 6 then -1 else 0
  | 14 => fun f => if f = 6 then -1 else 0
  | 19 => fun f => if f = 15 then -1 else 0
  | _ => fun _ => 0
theorem va_D_perm {A : Nat → Prop} {ws ws' : va_W} (h : va_D A ws) (g : Nat → Nat) (n : Nat) (hn : ws'.length = n) (hg : ∀ (k : Nat) (x : Nat × va_E), ws'[k]? = some x → ∃ e, ws[g k]? = some (x.1, e)) (hi : ∀ i, i < n → ∀ j, j < n → g i = g j → i = j) : va_D A ws' := by
  have lt : ∀ (k : Nat) (x : Nat × va_E), ws'[k]? = some x → k < n := by
    intro k x hk
    rcases Nat.lt_or_ge k ws'.length with h1 | h1
    · omega
    · rw [List.getElem?_eq_none h1] at hk; cases hk
  refine ⟨fun i j p q hp hq hpq => ?_, fun k x hk => ?_⟩
  · obtain ⟨e1, h1⟩ := hg i p hp
    obtain ⟨e2, h2⟩ := hg j q hq
    exact hi i (lt i p hp) j (lt j q hq) (h.1 (g i) (g j) _ _ h1 h2 hpq)
  · obtain ⟨e, h1⟩ := hg k x hk
    exact h.2 (g k) (x.1, e) h1
theorem pan_eq (c : ClassId) (f g : Nat → Option Nat) (h : ∀ j, j < 8 → f j = g j) : vp_cell c (8, .inr (.inr (.inr (.inr f)))) = vp_cell c (8, .inr (.inr (.inr (.inr g)))) := by
  have e1 : (fun j : Fin 8 => va_rf (f j.val)) = (fun j : Fin 8 => va_rf (g j.val)) := by funext j; rw [h j.val j.isLt]
  show arrV c 8 (fun j => va_rf (f j)) = arrV c 8 (fun j => va_rf (g j))
  unfold arrV
  rw [e1]
theorem gL_of {ls : Array Slot} {nL : Nat} {lo : List (Option Value)} {l : List (Nat × Value)} (h : lv_has ls nL l) (hla : gla 0 lo = l) (hca : (gla 0 lo).all (fun x => x.2.category == 1) = true) : gL ls nL lo :=
  ⟨by rw [hla]; exact h, fun x hx => by simpa using List.all_eq_true.1 hca x hx⟩
set_option maxHeartbeats 16000000 in
set_option maxRecDepth 100000 in
theorem whole_open {p : Program} {e : Env} {s : State} {m : MethodId} {below : List Frame} {meth : Method} {c : Code} (l : Launch) (hT : l.stackTraces = false) {b L : Nat} {xs : Nat → Int32} (hp0 : f_L_law_23 xs L gN gS0 0 ≠ none) (C0 : lw_At p s m meth c b L xs) : W p l e room_1 s m #[Value.ref b] below meth c s.heap [] 0 0 (lw_Z below #[Value.ref b] s) (entryFrame m ([Value.ref b] : List Value).toArray 7) := by
  obtain ⟨hx, hb, hr, hml, hown, htbl, hXs, hbl, hlocks, hgv⟩ := C0
  have hts : ∀ w ∈ TW, w.before #[Value.ref b] s = true := fun w hw => htbl w (List.mem_filter.1 hw).1
  obtain ⟨xS, iS, kS⟩ := u_known (n := 8) hts lays_S (hts _ w_687)
  obtain ⟨xD, iD, kD⟩ := u_known (n := 5) hts lays_D (hts _ w_539)
  obtain ⟨xE, iE, kE⟩ := u_known (n := 10) hts lays_E (hts _ w_543)
  obtain ⟨xO, iO, kO⟩ := u_known (n := 2) hts lays_O (hts _ w_531)
  obtain ⟨xP, iP, kP⟩ := u_known (n := 8) hts lays_P (hts _ w_527)
  obtain ⟨xT, iT, kT⟩ := u_known (n := 3) hts lays_T (hts _ w_535)
  obtain ⟨xM, iM, kM⟩ := u_known (n := 37) hts lays_M (hts _ w_688)
  obtain ⟨dC, dI, hK⟩ : ∃ (dC : Nat → ClassId) (dI : Nat → Nat → Nat), va_K (dC, dI) gCl [] s := by
    refine ⟨fun k => ([xS, xD, xE, xO, xP, xT, xM] : List ClassId).getD k 0, fun k => ([iS, iD, iE, iO, iP, iT, iM] : List (Nat → Nat)).getD k iS, fun k z hz => ?_, fun k z hz => by simp at hz⟩
    match k, hz with
    | 0, hz => cases hz; exact kS
    | 1, hz => cases hz; exact kD
    | 2, hz => cases hz; exact kE
    | 3, hz => cases hz; exact kO
    | 4, hz => cases hz; exact kP
    | 5, hz => cases hz; exact kT
    | 6, hz => cases hz; exact kM
    | n + 7, hz => simp at hz
  have hP : va_P (dC, dI) gCl [] s.heap := fun k z hz => by simp at hz
  have hD : va_D (fun z => s.heap.size ≤ z) [] := ⟨fun i j x y hx => by simp at hx, fun k z hz => by simp at hz⟩
  have hA : ∀ z : Nat, s.heap.size ≤ z → s.heap.size ≤ z := fun z h => h
  have hS : va_S (fun z => s.heap.size ≤ z) s.heap s.heap [] := va_S.rf
  have hl := lv_entry ([.ref b]) (n := 7) (Nat.le_of_ble_eq_true rfl)
  rw [lg_entry_eq]
  generalize (lg_sl ([.ref b]) ++ List.replicate (7 - (lg_sl ([.ref b])).length) Slot.unset).toArray = ls at hl ⊢
  have hl : lv_has ls 7 [(0, .ref b)] := hl
  refine va_new (D := (dC, dI)) (ci := 0) (fs := [.null, .null, .null, .null, .null, .null, .int 0, .int 0]) (C := "PaneScreen") (T := F_S) (N := 8) hx hb hts lays_S ty_S ty_S_ok hown (hts _ w_689) (hts _ w_687) (hts _ w_182) hK hP hD hS hA rfl (fun j hj => by
      match j, hj with
      | 0, _ => rfl | 1, _ => rfl | 2, _ => rfl | 3, _ => rfl | 4, _ => rfl | 5, _ => rfl | 6, _ => rfl | 7, _ => rfl | n + 8, h => exact absurd h (by omega)) (Nat.le_of_ble_eq_true rfl) (Nat.le_of_ble_eq_true rfl) d_L_law_0 (fun hS0 H hP hD hS => ?_)
  have hP : va_P (dC, dI) gCl [(hS0, .inr (0, [.null, .null, .null, .null, .null, .null, .int 0, .int 0]))] H := hP
  have hD : va_D (fun z => s.heap.size ≤ z) [(hS0, .inr (0, [.null, .null, .null, .null, .null, .null, .int 0, .int 0]))] := hD
  refine W.widen (k := 1) (n := 8) (by omega) (by omega) ?_
  refine lv_dup hx hb d_L_law_3 rfl ?_
  have hPc := hP.sub (ws' := [(hS0, .inr (0, [.null, .null, .null, .null, .null, .null, .int 0, .int 0]))]) [0] rfl
  have hDc := hD.sub (ws' := [(hS0, .inr (0, [.null, .null, .null, .null, .null, .null, .int 0, .int 0]))]) [0] (by decide) rfl
  have hKc := hK.sub (tys' := []) [] rfl
  have hFc := va_free (wc := [(hS0, .inr (0, [.null, .null, .null, .null, .null, .null, .int 0, .int 0]))]) hD hS hA [0] rfl
  refine va_callv (va_runI (As := []) (rest := [.ref hS0]) ⟨hx, hb, hml, hown, hts⟩ (c_S_init l dC dI hS0 H.size) (cwI 0 hts (fun w hw => (gGood TW_good (ws := []) (fun w h => by cases h) w_690) w hw) rfl rfl rfl (hts _ w_182) (hts _ w_691) (hts _ w_692) rfl (by decide +kernel) ⟨Nat.le_of_ble_eq_true rfl, Nat.le_of_ble_eq_true rfl⟩) ⟨fun a U g mk q => by obtain ⟨q0, q1, qP, qK, qD, z0, z1, z2, z3, z4, zA⟩ := q; exact ⟨q0, q1, qP, va_K.moved (u := U) (U := U.calling g mk a) (Vm.Alike.refl U.vm) qK, qD, va_Nw.same rfl (u := U) (U := U.calling g mk a) rfl z0, va_Nw.same rfl (u := U) (U := U.calling g mk a) rfl z1, va_Nw.same rfl (u := U) (U := U.calling g mk a) rfl z2, va_Nw.same rfl (u := U) (U := U.calling g mk a) rfl z3, va_Nw.same rfl (u := U) (U := U.calling g mk a) rfl z4, va_AO.moved (u := U) (U := U.calling g mk a) (Vm.Alike.refl U.vm) zA⟩, fun U hU hW => ⟨rfl, by rw [hU], by rw [hU]; exact hPc, va_K.moved hW.alike hKc, hDc.weaken (fun _ _ _ _ => trivial), va_Nw.warmM hW (va_Nw.of rfl (htbl _ (List.mem_of_getElem? (i := 58) (by decide +kernel)))), va_Nw.warmM hW (va_Nw.of rfl (htbl _ (List.mem_of_getElem? (i := 98) (by decide +kernel)))), va_Nw.warmM hW (va_Nw.of rfl (htbl _ (List.mem_of_getElem? (i := 113) (by decide +kernel)))), va_Nw.warmM hW (va_Nw.of rfl (htbl _ (List.mem_of_getElem? (i := 132) (by decide +kernel)))), va_Nw.warmM hW (va_Nw.of rfl (htbl _ (List.mem_of_getElem? (i := 155) (by decide +kernel)))), va_AO.moved hW.alike (va_AO.of (htbl _ (List.mem_of_getElem? (i := 56) (by decide +kernel))))⟩⟩ rfl rfl hl.1 rfl (lv_room (Nat.le_of_ble_eq_true rfl)) d_L_law_4 ⟨Nat.le_of_ble_eq_true rfl, Nat.le_of_ble_eq_true rfl⟩) hS (fun q _ h => hFc q h) hFc (fun u t H1 locs ht hvm hw hB hz1 hk1 hS => ?_)
  obtain ⟨sa1, sc1, sa2, sc2, sa3, sa5, sa7, sa9, sa11, sa13, sa15, sa17, sa19, sa1_20, sc1_20, sa21, sa1_22, sc1_22, sa2_22, sc2_22, sa3_22, sc3_22, sa23, sa1_24, sc1_24, sa2_24, sc2_24, sa3_24, sc3_24, sa4_24, sc4_24, sa25, sa1_26, sc1_26, sa2_26, sc2_26, sa3_26, sc3_26, sa4_26, sc4_26, hP1, hK1, hD1⟩ := hB
  rw [ht] at hP1
  have hK1 := va_K.moved hvm.symm hK1
  obtain ⟨hP, hD⟩ := va_join (wr := []) (w1 := [(hS0, .inr (0, [.ref sa1, .ref sa2, .ref sa19, .ref sa21, .ref sa23, .ref sa25, .int (-1), .int 0])), (sa1, .inl (sc1, 384, .inl (fun _ => 0))), (sa2, .inl (sc2, 8, .inr (.inr (.inr (.inr (va_up (va_up (va_up (va_up (va_up (va_up (va_up (va_up (fun _ => none) 0 (some sa3)) 1 (some sa5)) 2 (some sa7)) 3 (some sa9)) 4 (some sa11)) 5 (some sa13)) 6 (some sa15)) 7 (some sa17))))))), (sa3, .inr (4, [.int 0, .int 0, .int 0, .int 0, .int 0, .int 0, .int 0, .int 0])), (sa5, .inr (4, [.int 0, .int 0, .int 0, .int 0, .int 0, .int 0, .int 0, .int 0])), (sa7, .inr (4, [.int 0, .int 0, .int 0, .int 0, .int 0, .int 0, .int 0, .int 0])), (sa9, .inr (4, [.int 0, .int 0, .int 0, .int 0, .int 0, .int 0, .int 0, .int 0])), (sa11, .inr (4, [.int 0, .int 0, .int 0, .int 0, .int 0, .int 0, .int 0, .int 0])), (sa13, .inr (4, [.int 0, .int 0, .int 0, .int 0, .int 0, .int 0, .int 0, .int 0])), (sa15, .inr (4, [.int 0, .int 0, .int 0, .int 0, .int 0, .int 0, .int 0, .int 0])), (sa17, .inr (4, [.int 0, .int 0, .int 0, .int 0, .int 0, .int 0, .int 0, .int 0])), (sa19, .inr (3, [.ref sa1_20, .int 0])), (sa1_20, .inl (sc1_20, 8, .inl (fun _ => 0))), (sa21, .inr (5, [.ref sa1_22, .ref sa2_22, .ref sa3_22])), (sa1_22, .inl (sc1_22, 400, .inl (fun _ => 0))), (sa2_22, .inl (sc2_22, 400, .inl (fun _ => 0))), (sa3_22, .inl (sc3_22, 400, .inl (fun _ => 0))), (sa23, .inr (1, [.ref sa1_24, .ref sa2_24, .ref sa3_24, .ref sa4_24, .int 0])), (sa1_24, .inl (sc1_24, 6, .inl (fun _ => 0))), (sa2_24, .inl (sc2_24, 6, .inl (fun _ => 0))), (sa3_24, .inl (sc3_24, 6, .inl (fun _ => 0))), (sa4_24, .inl (sc4_24, 6, .inl (fun _ => 0))), (sa25, .inr (2, [.ref sa1_26, .ref sa2_26, .ref sa3_26, .ref sa4_26, .int 0, .int 0, .int (-1), .int 0, .int 0, .int 0])), (sa1_26, .inl (sc1_26, 12, .inl (fun _ => 0))), (sa2_26, .inl (sc2_26, 12, .inl (fun _ => 0))), (sa3_26, .inl (sc3_26, 12, .inl (fun _ => 0))), (sa4_26, .inl (sc4_26, 12, .inl (fun _ => 0)))]) hP hD [0] [] rfl rfl (by decide) (by decide) hk1 hFc hP1 hD1
  have hK := (hK.sub (tys' := []) [] rfl).app hK1
  generalize H1 = H at hP hS ⊢
  have hP : va_P (dC, dI) gCl [(hS0, .inr (0, [.ref sa1, .ref sa2, .ref sa19, .ref sa21, .ref sa23, .ref sa25, .int (-1), .int 0])), (sa1, .inl (sc1, 384, .inl (fun _ => 0))), (sa2, .inl (sc2, 8, .inr (.inr (.inr (.inr (va_up (va_up (va_up (va_up (va_up (va_up (va_up (va_up (fun _ => none) 0 (some sa3)) 1 (some sa5)) 2 (some sa7)) 3 (some sa9)) 4 (some sa11)) 5 (some sa13)) 6 (some sa15)) 7 (some sa17))))))), (sa3, .inr (4, [.int 0, .int 0, .int 0, .int 0, .int 0, .int 0, .int 0, .int 0])), (sa5, .inr (4, [.int 0, .int 0, .int 0, .int 0, .int 0, .int 0, .int 0, .int 0])), (sa7, .inr (4, [.int 0, .int 0, .int 0, .int 0, .int 0, .int 0, .int 0, .int 0])), (sa9, .inr (4, [.int 0, .int 0, .int 0, .int 0, .int 0, .int 0, .int 0, .int 0])), (sa11, .inr (4, [.int 0, .int 0, .int 0, .int 0, .int 0, .int 0, .int 0, .int 0])), (sa13, .inr (4, [.int 0, .int 0, .int 0, .int 0, .int 0, .int 0, .int 0, .int 0])), (sa15, .inr (4, [.int 0, .int 0, .int 0, .int 0, .int 0, .int 0, .int 0, .int 0])), (sa17, .inr (4, [.int 0, .int 0, .int 0, .int 0, .int 0, .int 0, .int 0, .int 0])), (sa19, .inr (3, [.ref sa1_20, .int 0])), (sa1_20, .inl (sc1_20, 8, .inl (fun _ => 0))), (sa21, .inr (5, [.ref sa1_22, .ref sa2_22, .ref sa3_22])), (sa1_22, .inl (sc1_22, 400, .inl (fun _ => 0))), (sa2_22, .inl (sc2_22, 400, .inl (fun _ => 0))), (sa3_22, .inl (sc3_22, 400, .inl (fun _ => 0))), (sa23, .inr (1, [.ref sa1_24, .ref sa2_24, .ref sa3_24, .ref sa4_24, .int 0])), (sa1_24, .inl (sc1_24, 6, .inl (fun _ => 0))), (sa2_24, .inl (sc2_24, 6, .inl (fun _ => 0))), (sa3_24, .inl (sc3_24, 6, .inl (fun _ => 0))), (sa4_24, .inl (sc4_24, 6, .inl (fun _ => 0))), (sa25, .inr (2, [.ref sa1_26, .ref sa2_26, .ref sa3_26, .ref sa4_26, .int 0, .int 0, .int (-1), .int 0, .int 0, .int 0])), (sa1_26, .inl (sc1_26, 12, .inl (fun _ => 0))), (sa2_26, .inl (sc2_26, 12, .inl (fun _ => 0))), (sa3_26, .inl (sc3_26, 12, .inl (fun _ => 0))), (sa4_26, .inl (sc4_26, 12, .inl (fun _ => 0)))] H := hP
  have hD : va_D (fun z => s.heap.size ≤ z) [(hS0, .inr (0, [.ref sa1, .ref sa2, .ref sa19, .ref sa21, .ref sa23, .ref sa25, .int (-1), .int 0])), (sa1, .inl (sc1, 384, .inl (fun _ => 0))), (sa2, .inl (sc2, 8, .inr (.inr (.inr (.inr (va_up (va_up (va_up (va_up (va_up (va_up (va_up (va_up (fun _ => none) 0 (some sa3)) 1 (some sa5)) 2 (some sa7)) 3 (some sa9)) 4 (some sa11)) 5 (some sa13)) 6 (some sa15)) 7 (some sa17))))))), (sa3, .inr (4, [.int 0, .int 0, .int 0, .int 0, .int 0, .int 0, .int 0, .int 0])), (sa5, .inr (4, [.int 0, .int 0, .int 0, .int 0, .int 0, .int 0, .int 0, .int 0])), (sa7, .inr (4, [.int 0, .int 0, .int 0, .int 0, .int 0, .int 0, .int 0, .int 0])), (sa9, .inr (4, [.int 0, .int 0, .int 0, .int 0, .int 0, .int 0, .int 0, .int 0])), (sa11, .inr (4, [.int 0, .int 0, .int 0, .int 0, .int 0, .int 0, .int 0, .int 0])), (sa13, .inr (4, [.int 0, .int 0, .int 0, .int 0, .int 0, .int 0, .int 0, .int 0])), (sa15, .inr (4, [.int 0, .int 0, .int 0, .int 0, .int 0, .int 0, .int 0, .int 0])), (sa17, .inr (4, [.int 0, .int 0, .int 0, .int 0, .int 0, .int 0, .int 0, .int 0])), (sa19, .inr (3, [.ref sa1_20, .int 0])), (sa1_20, .inl (sc1_20, 8, .inl (fun _ => 0))), (sa21, .inr (5, [.ref sa1_22, .ref sa2_22, .ref sa3_22])), (sa1_22, .inl (sc1_22, 400, .inl (fun _ => 0))), (sa2_22, .inl (sc2_22, 400, .inl (fun _ => 0))), (sa3_22, .inl (sc3_22, 400, .inl (fun _ => 0))), (sa23, .inr (1, [.ref sa1_24, .ref sa2_24, .ref sa3_24, .ref sa4_24, .int 0])), (sa1_24, .inl (sc1_24, 6, .inl (fun _ => 0))), (sa2_24, .inl (sc2_24, 6, .inl (fun _ => 0))), (sa3_24, .inl (sc3_24, 6, .inl (fun _ => 0))), (sa4_24, .inl (sc4_24, 6, .inl (fun _ => 0))), (sa25, .inr (2, [.ref sa1_26, .ref sa2_26, .ref sa3_26, .ref sa4_26, .int 0, .int 0, .int (-1), .int 0, .int 0, .int 0])), (sa1_26, .inl (sc1_26, 12, .inl (fun _ => 0))), (sa2_26, .inl (sc2_26, 12, .inl (fun _ => 0))), (sa3_26, .inl (sc3_26, 12, .inl (fun _ => 0))), (sa4_26, .inl (sc4_26, 12, .inl (fun _ => 0)))] := hD
  have hK : va_K (dC, dI) gCl [(sc1, .int), (sc2, .object "PaneScreen$Pane"), (sc1_20, .int), (sc1_22, .int), (sc2_22, .int), (sc3_22, .boolean), (sc1_24, .int), (sc2_24, .int), (sc3_24, .int), (sc4_24, .int), (sc1_26, .int), (sc2_26, .int), (sc3_26, .int), (sc4_26, .int)] s := hK
  refine W.widen (k := 27) (n := 1764) (by omega) (by omega) ?_
  refine lv_astore_n hx hb d_L_law_7 rfl hl (by decide) rfl (fun ls hl => ?_)
  have hl : lv_has ls 7 [(1, .ref hS0), (0, .ref b)] := hl
  have hl := lv_sub (l' := [(0, .ref b), (1, .ref hS0)]) hl [1, 0] rfl
  refine va_new (D := (dC, dI)) (ci := 6) (fs := [.int 0, .null, .null, .null, .null, .null, .null, .null, .null, .null, .null, .int 0, .int 0, .null, .null, .int 0, .int 0, .null, .null, .null, .null, .int 0, .int 0, .int 0, .int 0, .int 0, .int 0, .null, .null, .null, .null, .int 0, .int 0, .int 0, .int 0, .int 0, .int 0]) (C := "PaneScreenModel") (T := F_M) (N := 37) hx hb hts lays_M ty_M ty_M_ok hown (hts _ w_693) (hts _ w_688) (hts _ w_251) hK hP hD hS hA rfl (fun j hj => by
      match j, hj with
      | 0, _ => rfl | 1, _ => rfl | 2, _ => rfl | 3, _ => rfl | 4, _ => rfl | 5, _ => rfl | 6, _ => rfl | 7, _ => rfl | 8, _ => rfl | 9, _ => rfl | 10, _ => rfl | 11, _ => rfl | 12, _ => rfl | 13, _ => rfl | 14, _ => rfl | 15, _ => rfl | 16, _ => rfl | 17, _ => rfl | 18, _ => rfl | 19, _ => rfl | 20, _ => rfl | 21, _ => rfl | 22, _ => rfl | 23, _ => rfl | 24, _ => rfl | 25, _ => rfl | 26, _ => rfl | 27, _ => rfl | 28, _ => rfl | 29, _ => rfl | 30, _ => rfl | 31, _ => rfl | 32, _ => rfl | 33, _ => rfl | 34, _ => rfl | 35, _ => rfl | 36, _ => rfl | n + 37, h => exact absurd h (by omega)) (Nat.le_of_ble_eq_true rfl) (Nat.le_of_ble_eq_true rfl) d_L_law_8 (fun hM0 H hP hD hS => ?_)
  have hP : va_P (dC, dI) gCl [(hS0, .inr (0, [.ref sa1, .ref sa2, .ref sa19, .ref sa21, .ref sa23, .ref sa25, .int (-1), .int 0])), (sa1, .inl (sc1, 384, .inl (fun _ => 0))), (sa2, .inl (sc2, 8, .inr (.inr (.inr (.inr (va_up (va_up (va_up (va_up (va_up (va_up (va_up (va_up (fun _ => none) 0 (some sa3)) 1 (some sa5)) 2 (some sa7)) 3 (some sa9)) 4 (some sa11)) 5 (some sa13)) 6 (some sa15)) 7 (some sa17))))))), (sa3, .inr (4, [.int 0, .int 0, .int 0, .int 0, .int 0, .int 0, .int 0, .int 0])), (sa5, .inr (4, [.int 0, .int 0, .int 0, .int 0, .int 0, .int 0, .int 0, .int 0])), (sa7, .inr (4, [.int 0, .int 0, .int 0, .int 0, .int 0, .int 0, .int 0, .int 0])), (sa9, .inr (4, [.int 0, .int 0, .int 0, .int 0, .int 0, .int 0, .int 0, .int 0])), (sa11, .inr (4, [.int 0, .int 0, .int 0, .int 0, .int 0, .int 0, .int 0, .int 0])), (sa13, .inr (4, [.int 0, .int 0, .int 0, .int 0, .int 0, .int 0, .int 0, .int 0])), (sa15, .inr (4, [.int 0, .int 0, .int 0, .int 0, .int 0, .int 0, .int 0, .int 0])), (sa17, .inr (4, [.int 0, .int 0, .int 0, .int 0, .int 0, .int 0, .int 0, .int 0])), (sa19, .inr (3, [.ref sa1_20, .int 0])), (sa1_20, .inl (sc1_20, 8, .inl (fun _ => 0))), (sa21, .inr (5, [.ref sa1_22, .ref sa2_22, .ref sa3_22])), (sa1_22, .inl (sc1_22, 400, .inl (fun _ => 0))), (sa2_22, .inl (sc2_22, 400, .inl (fun _ => 0))), (sa3_22, .inl (sc3_22, 400, .inl (fun _ => 0))), (sa23, .inr (1, [.ref sa1_24, .ref sa2_24, .ref sa3_24, .ref sa4_24, .int 0])), (sa1_24, .inl (sc1_24, 6, .inl (fun _ => 0))), (sa2_24, .inl (sc2_24, 6, .inl (fun _ => 0))), (sa3_24, .inl (sc3_24, 6, .inl (fun _ => 0))), (sa4_24, .inl (sc4_24, 6, .inl (fun _ => 0))), (sa25, .inr (2, [.ref sa1_26, .ref sa2_26, .ref sa3_26, .ref sa4_26, .int 0, .int 0, .int (-1), .int 0, .int 0, .int 0])), (sa1_26, .inl (sc1_26, 12, .inl (fun _ => 0))), (sa2_26, .inl (sc2_26, 12, .inl (fun _ => 0))), (sa3_26, .inl (sc3_26, 12, .inl (fun _ => 0))), (sa4_26, .inl (sc4_26, 12, .inl (fun _ => 0))), (hM0, .inr (6, [.int 0, .null, .null, .null, .null, .null, .null, .null, .null, .null, .null, .int 0, .int 0, .null, .null, .int 0, .int 0, .null, .null, .null, .null, .int 0, .int 0, .int 0, .int 0, .int 0, .int 0, .null, .null, .null, .null, .int 0, .int 0, .int 0, .int 0, .int 0, .int 0]))] H := hP
  have hD : va_D (fun z => s.heap.size ≤ z) [(hS0, .inr (0, [.ref sa1, .ref sa2, .ref sa19, .ref sa21, .ref sa23, .ref sa25, .int (-1), .int 0])), (sa1, .inl (sc1, 384, .inl (fun _ => 0))), (sa2, .inl (sc2, 8, .inr (.inr (.inr (.inr (va_up (va_up (va_up (va_up (va_up (va_up (va_up (va_up (fun _ => none) 0 (some sa3)) 1 (some sa5)) 2 (some sa7)) 3 (some sa9)) 4 (some sa11)) 5 (some sa13)) 6 (some sa15)) 7 (some sa17))))))), (sa3, .inr (4, [.int 0, .int 0, .int 0, .int 0, .int 0, .int 0, .int 0, .int 0])), (sa5, .inr (4, [.int 0, .int 0, .int 0, .int 0, .int 0, .int 0, .int 0, .int 0])), (sa7, .inr (4, [.int 0, .int 0, .int 0, .int 0, .int 0, .int 0, .int 0, .int 0])), (sa9, .inr (4, [.int 0, .int 0, .int 0, .int 0, .int 0, .int 0, .int 0, .int 0])), (sa11, .inr (4, [.int 0, .int 0, .int 0, .int 0, .int 0, .int 0, .int 0, .int 0])), (sa13, .inr (4, [.int 0, .int 0, .int 0, .int 0, .int 0, .int 0, .int 0, .int 0])), (sa15, .inr (4, [.int 0, .int 0, .int 0, .int 0, .int 0, .int 0, .int 0, .int 0])), (sa17, .inr (4, [.int 0, .int 0, .int 0, .int 0, .int 0, .int 0, .int 0, .int 0])), (sa19, .inr (3, [.ref sa1_20, .int 0])), (sa1_20, .inl (sc1_20, 8, .inl (fun _ => 0))), (sa21, .inr (5, [.ref sa1_22, .ref sa2_22, .ref sa3_22])), (sa1_22, .inl (sc1_22, 400, .inl (fun _ => 0))), (sa2_22, .inl (sc2_22, 400, .inl (fun _ => 0))), (sa3_22, .inl (sc3_22, 400, .inl (fun _ => 0))), (sa23, .inr (1, [.ref sa1_24, .ref sa2_24, .ref sa3_24, .ref sa4_24, .int 0])), (sa1_24, .inl (sc1_24, 6, .inl (fun _ => 0))), (sa2_24, .inl (sc2_24, 6, .inl (fun _ => 0))), (sa3_24, .inl (sc3_24, 6, .inl (fun _ => 0))), (sa4_24, .inl (sc4_24, 6, .inl (fun _ => 0))), (sa25, .inr (2, [.ref sa1_26, .ref sa2_26, .ref sa3_26, .ref sa4_26, .int 0, .int 0, .int (-1), .int 0, .int 0, .int 0])), (sa1_26, .inl (sc1_26, 12, .inl (fun _ => 0))), (sa2_26, .inl (sc2_26, 12, .inl (fun _ => 0))), (sa3_26, .inl (sc3_26, 12, .inl (fun _ => 0))), (sa4_26, .inl (sc4_26, 12, .inl (fun _ => 0))), (hM0, .inr (6, [.int 0, .null, .null, .null, .null, .null, .null, .null, .null, .null, .null, .int 0, .int 0, .null, .null, .int 0, .int 0, .null, .null, .null, .null, .int 0, .int 0, .int 0, .int 0, .int 0, .int 0, .null, .null, .null, .null, .int 0, .int 0, .int 0, .int 0, .int 0, .int 0]))] := hD
  refine W.widen (k := 28) (n := 1801) (by omega) (by omega) ?_
  refine lv_dup hx hb d_L_law_11 rfl ?_
  have hPc := hP.sub (ws' := [(hM0, .inr (6, [.int 0, .null, .null, .null, .null, .null, .null, .null, .null, .null, .null, .int 0, .int 0, .null, .null, .int 0, .int 0, .null, .null, .null, .null, .int 0, .int 0, .int 0, .int 0, .int 0, .int 0, .null, .null, .null, .null, .int 0, .int 0, .int 0, .int 0, .int 0, .int 0]))]) [27] rfl
  have hDc := hD.sub (ws' := [(hM0, .inr (6, [.int 0, .null, .null, .null, .null, .null, .null, .null, .null, .null, .null, .int 0, .int 0, .null, .null, .int 0, .int 0, .null, .null, .null, .null, .int 0, .int 0, .int 0, .int 0, .int 0, .int 0, .null, .null, .null, .null, .int 0, .int 0, .int 0, .int 0, .int 0, .int 0]))]) [27] (by decide) rfl
  have hKc := hK.sub (tys' := []) [] rfl
  have hFc := va_free (wc := [(hM0, .inr (6, [.int 0, .null, .null, .null, .null, .null, .null, .null, .null, .null, .null, .int 0, .int 0, .null, .null, .int 0, .int 0, .null, .null, .null, .null, .int 0, .int 0, .int 0, .int 0, .int 0, .int 0, .null, .null, .null, .null, .int 0, .int 0, .int 0, .int 0, .int 0, .int 0]))]) hD hS hA [27] rfl
  refine va_callv (va_runI (As := []) (rest := [.ref hM0]) ⟨hx, hb, hml, hown, hts⟩ (c_M_init l dC dI hM0 H.size) (cwI 0 hts (fun w hw => (gGood TW_good (ws := []) (fun w h => by cases h) w_694) w hw) rfl rfl rfl (hts _ w_251) (hts _ w_695) (hts _ w_696) rfl (by decide +kernel) ⟨Nat.le_of_ble_eq_true rfl, Nat.le_of_ble_eq_true rfl⟩) ⟨fun a U g mk q => by obtain ⟨q0, q1, qP, qK, qD⟩ := q; exact ⟨q0, q1, qP, va_K.moved (u := U) (U := U.calling g mk a) (Vm.Alike.refl U.vm) qK, qD⟩, fun U hU hW => ⟨rfl, by rw [hU], by rw [hU]; exact hPc, va_K.moved hW.alike hKc, hDc.weaken (fun _ _ _ _ => trivial)⟩⟩ rfl rfl hl.1 rfl (lv_room (Nat.le_of_ble_eq_true rfl)) d_L_law_12 ⟨Nat.le_of_ble_eq_true rfl, Nat.le_of_ble_eq_true rfl⟩) hS (fun q _ h => hFc q h) hFc (fun u t H1 locs ht hvm hw hB hz1 hk1 hS => ?_)
  obtain ⟨ma1, mc1, ma2, mc2, ma3, mc3, ma4, mc4, ma5, mc5, ma6, mc6, ma7, mc7, ma8, mc8, ma9, mc9, ma10, mc10, ma11, mc11, ma12, mc12, ma13, mc13, ma14, mc14, ma15, mc15, ma16, mc16, ma17, mc17, ma18, mc18, ma19, mc19, ma20, mc20, hP1, hK1, hD1⟩ := hB
  rw [ht] at hP1
  have hK1 := va_K.moved hvm.symm hK1
  obtain ⟨hP, hD⟩ := va_join (wr := [(hS0, .inr (0, [.ref sa1, .ref sa2, .ref sa19, .ref sa21, .ref sa23, .ref sa25, .int (-1), .int 0])), (sa1, .inl (sc1, 384, .inl (fun _ => 0))), (sa2, .inl (sc2, 8, .inr (.inr (.inr (.inr (va_up (va_up (va_up (va_up (va_up (va_up (va_up (va_up (fun _ => none) 0 (some sa3)) 1 (some sa5)) 2 (some sa7)) 3 (some sa9)) 4 (some sa11)) 5 (some sa13)) 6 (some sa15)) 7 (some sa17))))))), (sa3, .inr (4, [.int 0, .int 0, .int 0, .int 0, .int 0, .int 0, .int 0, .int 0])), (sa5, .inr (4, [.int 0, .int 0, .int 0, .int 0, .int 0, .int 0, .int 0, .int 0])), (sa7, .inr (4, [.int 0, .int 0, .int 0, .int 0, .int 0, .int 0, .int 0, .int 0])), (sa9, .inr (4, [.int 0, .int 0, .int 0, .int 0, .int 0, .int 0, .int 0, .int 0])), (sa11, .inr (4, [.int 0, .int 0, .int 0, .int 0, .int 0, .int 0, .int 0, .int 0])), (sa13, .inr (4, [.int 0, .int 0, .int 0, .int 0, .int 0, .int 0, .int 0, .int 0])), (sa15, .inr (4, [.int 0, .int 0, .int 0, .int 0, .int 0, .int 0, .int 0, .int 0])), (sa17, .inr (4, [.int 0, .int 0, .int 0, .int 0, .int 0, .int 0, .int 0, .int 0])), (sa19, .inr (3, [.ref sa1_20, .int 0])), (sa1_20, .inl (sc1_20, 8, .inl (fun _ => 0))), (sa21, .inr (5, [.ref sa1_22, .ref sa2_22, .ref sa3_22])), (sa1_22, .inl (sc1_22, 400, .inl (fun _ => 0))), (sa2_22, .inl (sc2_22, 400, .inl (fun _ => 0))), (sa3_22, .inl (sc3_22, 400, .inl (fun _ => 0))), (sa23, .inr (1, [.ref sa1_24, .ref sa2_24, .ref sa3_24, .ref sa4_24, .int 0])), (sa1_24, .inl (sc1_24, 6, .inl (fun _ => 0))), (sa2_24, .inl (sc2_24, 6, .inl (fun _ => 0))), (sa3_24, .inl (sc3_24, 6, .inl (fun _ => 0))), (sa4_24, .inl (sc4_24, 6, .inl (fun _ => 0))), (sa25, .inr (2, [.ref sa1_26, .ref sa2_26, .ref sa3_26, .ref sa4_26, .int 0, .int 0, .int (-1), .int 0, .int 0, .int 0])), (sa1_26, .inl (sc1_26, 12, .inl (fun _ => 0))), (sa2_26, .inl (sc2_26, 12, .inl (fun _ => 0))), (sa3_26, .inl (sc3_26, 12, .inl (fun _ => 0))), (sa4_26, .inl (sc4_26, 12, .inl (fun _ => 0)))]) (w1 := [(hM0, .inr (6, [.int 0, .ref ma1, .ref ma2, .ref ma3, .ref ma4, .ref ma5, .ref ma6, .ref ma7, .ref ma8, .ref ma9, .ref ma10, .int 0, .int 0, .ref ma11, .ref ma12, .int (-1), .int 0, .ref ma13, .ref ma14, .ref ma15, .ref ma16, .int 0, .int 0, .int 0, .int 0, .int 0, .int 0, .ref ma17, .ref ma18, .ref ma19, .ref ma20, .int 0, .int 0, .int 0, .int 0, .int 0, .int 0])), (ma1, .inl (mc1, 384, .inl (fun _ => 0))), (ma2, .inl (mc2, 8, .inl (fun _ => 0))), (ma3, .inl (mc3, 8, .inl (fun _ => 0))), (ma4, .inl (mc4, 8, .inl (fun _ => 0))), (ma5, .inl (mc5, 8, .inl (fun _ => 0))), (ma6, .inl (mc6, 8, .inl (fun _ => 0))), (ma7, .inl (mc7, 8, .inl (fun _ => 0))), (ma8, .inl (mc8, 8, .inl (fun _ => 0))), (ma9, .inl (mc9, 8, .inl (fun _ => 0))), (ma10, .inl (mc10, 8, .inl (fun _ => 0))), (ma11, .inl (mc11, 3072, .inl (fun _ => 0))), (ma12, .inl (mc12, 384, .inl (fun _ => 0))), (ma13, .inl (mc13, 7, .inl (fun _ => 0))), (ma14, .inl (mc14, 7, .inl (fun _ => 0))), (ma15, .inl (mc15, 7, .inl (fun _ => 0))), (ma16, .inl (mc16, 7, .inl (fun _ => 0))), (ma17, .inl (mc17, 12, .inl (fun _ => 0))), (ma18, .inl (mc18, 12, .inl (fun _ => 0))), (ma19, .inl (mc19, 12, .inl (fun _ => 0))), (ma20, .inl (mc20, 12, .inl (fun _ => 0)))]) hP hD [27] [0, 1, 2, 3, 4, 5, 6, 7, 8, 9, 10, 11, 12, 13, 14, 15, 16, 17, 18, 19, 20, 21, 22, 23, 24, 25, 26] rfl rfl (by decide) (by decide) hk1 hFc hP1 hD1
  have hK := (hK.sub (tys' := [(sc1, .int), (sc2, .object "PaneScreen$Pane"), (sc1_20, .int), (sc1_22, .int), (sc2_22, .int), (sc3_22, .boolean), (sc1_24, .int), (sc2_24, .int), (sc3_24, .int), (sc4_24, .int), (sc1_26, .int), (sc2_26, .int), (sc3_26, .int), (sc4_26, .int)]) [0, 1, 2, 3, 4, 5, 6, 7, 8, 9, 10, 11, 12, 13] rfl).app hK1
  generalize H1 = H at hP hS ⊢
  have hP : va_P (dC, dI) gCl [(hS0, .inr (0, [.ref sa1, .ref sa2, .ref sa19, .ref sa21, .ref sa23, .ref sa25, .int (-1), .int 0])), (sa1, .inl (sc1, 384, .inl (fun _ => 0))), (sa2, .inl (sc2, 8, .inr (.inr (.inr (.inr (va_up (va_up (va_up (va_up (va_up (va_up (va_up (va_up (fun _ => none) 0 (some sa3)) 1 (some sa5)) 2 (some sa7)) 3 (some sa9)) 4 (some sa11)) 5 (some sa13)) 6 (some sa15)) 7 (some sa17))))))), (sa3, .inr (4, [.int 0, .int 0, .int 0, .int 0, .int 0, .int 0, .int 0, .int 0])), (sa5, .inr (4, [.int 0, .int 0, .int 0, .int 0, .int 0, .int 0, .int 0, .int 0])), (sa7, .inr (4, [.int 0, .int 0, .int 0, .int 0, .int 0, .int 0, .int 0, .int 0])), (sa9, .inr (4, [.int 0, .int 0, .int 0, .int 0, .int 0, .int 0, .int 0, .int 0])), (sa11, .inr (4, [.int 0, .int 0, .int 0, .int 0, .int 0, .int 0, .int 0, .int 0])), (sa13, .inr (4, [.int 0, .int 0, .int 0, .int 0, .int 0, .int 0, .int 0, .int 0])), (sa15, .inr (4, [.int 0, .int 0, .int 0, .int 0, .int 0, .int 0, .int 0, .int 0])), (sa17, .inr (4, [.int 0, .int 0, .int 0, .int 0, .int 0, .int 0, .int 0, .int 0])), (sa19, .inr (3, [.ref sa1_20, .int 0])), (sa1_20, .inl (sc1_20, 8, .inl (fun _ => 0))), (sa21, .inr (5, [.ref sa1_22, .ref sa2_22, .ref sa3_22])), (sa1_22, .inl (sc1_22, 400, .inl (fun _ => 0))), (sa2_22, .inl (sc2_22, 400, .inl (fun _ => 0))), (sa3_22, .inl (sc3_22, 400, .inl (fun _ => 0))), (sa23, .inr (1, [.ref sa1_24, .ref sa2_24, .ref sa3_24, .ref sa4_24, .int 0])), (sa1_24, .inl (sc1_24, 6, .inl (fun _ => 0))), (sa2_24, .inl (sc2_24, 6, .inl (fun _ => 0))), (sa3_24, .inl (sc3_24, 6, .inl (fun _ => 0))), (sa4_24, .inl (sc4_24, 6, .inl (fun _ => 0))), (sa25, .inr (2, [.ref sa1_26, .ref sa2_26, .ref sa3_26, .ref sa4_26, .int 0, .int 0, .int (-1), .int 0, .int 0, .int 0])), (sa1_26, .inl (sc1_26, 12, .inl (fun _ => 0))), (sa2_26, .inl (sc2_26, 12, .inl (fun _ => 0))), (sa3_26, .inl (sc3_26, 12, .inl (fun _ => 0))), (sa4_26, .inl (sc4_26, 12, .inl (fun _ => 0))), (hM0, .inr (6, [.int 0, .ref ma1, .ref ma2, .ref ma3, .ref ma4, .ref ma5, .ref ma6, .ref ma7, .ref ma8, .ref ma9, .ref ma10, .int 0, .int 0, .ref ma11, .ref ma12, .int (-1), .int 0, .ref ma13, .ref ma14, .ref ma15, .ref ma16, .int 0, .int 0, .int 0, .int 0, .int 0, .int 0, .ref ma17, .ref ma18, .ref ma19, .ref ma20, .int 0, .int 0, .int 0, .int 0, .int 0, .int 0])), (ma1, .inl (mc1, 384, .inl (fun _ => 0))), (ma2, .inl (mc2, 8, .inl (fun _ => 0))), (ma3, .inl (mc3, 8, .inl (fun _ => 0))), (ma4, .inl (mc4, 8, .inl (fun _ => 0))), (ma5, .inl (mc5, 8, .inl (fun _ => 0))), (ma6, .inl (mc6, 8, .inl (fun _ => 0))), (ma7, .inl (mc7, 8, .inl (fun _ => 0))), (ma8, .inl (mc8, 8, .inl (fun _ => 0))), (ma9, .inl (mc9, 8, .inl (fun _ => 0))), (ma10, .inl (mc10, 8, .inl (fun _ => 0))), (ma11, .inl (mc11, 3072, .inl (fun _ => 0))), (ma12, .inl (mc12, 384, .inl (fun _ => 0))), (ma13, .inl (mc13, 7, .inl (fun _ => 0))), (ma14, .inl (mc14, 7, .inl (fun _ => 0))), (ma15, .inl (mc15, 7, .inl (fun _ => 0))), (ma16, .inl (mc16, 7, .inl (fun _ => 0))), (ma17, .inl (mc17, 12, .inl (fun _ => 0))), (ma18, .inl (mc18, 12, .inl (fun _ => 0))), (ma19, .inl (mc19, 12, .inl (fun _ => 0))), (ma20, .inl (mc20, 12, .inl (fun _ => 0)))] H := hP
  have hD : va_D (fun z => s.heap.size ≤ z) [(hS0, .inr (0, [.ref sa1, .ref sa2, .ref sa19, .ref sa21, .ref sa23, .ref sa25, .int (-1), .int 0])), (sa1, .inl (sc1, 384, .inl (fun _ => 0))), (sa2, .inl (sc2, 8, .inr (.inr (.inr (.inr (va_up (va_up (va_up (va_up (va_up (va_up (va_up (va_up (fun _ => none) 0 (some sa3)) 1 (some sa5)) 2 (some sa7)) 3 (some sa9)) 4 (some sa11)) 5 (some sa13)) 6 (some sa15)) 7 (some sa17))))))), (sa3, .inr (4, [.int 0, .int 0, .int 0, .int 0, .int 0, .int 0, .int 0, .int 0])), (sa5, .inr (4, [.int 0, .int 0, .int 0, .int 0, .int 0, .int 0, .int 0, .int 0])), (sa7, .inr (4, [.int 0, .int 0, .int 0, .int 0, .int 0, .int 0, .int 0, .int 0])), (sa9, .inr (4, [.int 0, .int 0, .int 0, .int 0, .int 0, .int 0, .int 0, .int 0])), (sa11, .inr (4, [.int 0, .int 0, .int 0, .int 0, .int 0, .int 0, .int 0, .int 0])), (sa13, .inr (4, [.int 0, .int 0, .int 0, .int 0, .int 0, .int 0, .int 0, .int 0])), (sa15, .inr (4, [.int 0, .int 0, .int 0, .int 0, .int 0, .int 0, .int 0, .int 0])), (sa17, .inr (4, [.int 0, .int 0, .int 0, .int 0, .int 0, .int 0, .int 0, .int 0])), (sa19, .inr (3, [.ref sa1_20, .int 0])), (sa1_20, .inl (sc1_20, 8, .inl (fun _ => 0))), (sa21, .inr (5, [.ref sa1_22, .ref sa2_22, .ref sa3_22])), (sa1_22, .inl (sc1_22, 400, .inl (fun _ => 0))), (sa2_22, .inl (sc2_22, 400, .inl (fun _ => 0))), (sa3_22, .inl (sc3_22, 400, .inl (fun _ => 0))), (sa23, .inr (1, [.ref sa1_24, .ref sa2_24, .ref sa3_24, .ref sa4_24, .int 0])), (sa1_24, .inl (sc1_24, 6, .inl (fun _ => 0))), (sa2_24, .inl (sc2_24, 6, .inl (fun _ => 0))), (sa3_24, .inl (sc3_24, 6, .inl (fun _ => 0))), (sa4_24, .inl (sc4_24, 6, .inl (fun _ => 0))), (sa25, .inr (2, [.ref sa1_26, .ref sa2_26, .ref sa3_26, .ref sa4_26, .int 0, .int 0, .int (-1), .int 0, .int 0, .int 0])), (sa1_26, .inl (sc1_26, 12, .inl (fun _ => 0))), (sa2_26, .inl (sc2_26, 12, .inl (fun _ => 0))), (sa3_26, .inl (sc3_26, 12, .inl (fun _ => 0))), (sa4_26, .inl (sc4_26, 12, .inl (fun _ => 0))), (hM0, .inr (6, [.int 0, .ref ma1, .ref ma2, .ref ma3, .ref ma4, .ref ma5, .ref ma6, .ref ma7, .ref ma8, .ref ma9, .ref ma10, .int 0, .int 0, .ref ma11, .ref ma12, .int (-1), .int 0, .ref ma13, .ref ma14, .ref ma15, .ref ma16, .int 0, .int 0, .int 0, .int 0, .int 0, .int 0, .ref ma17, .ref ma18, .ref ma19, .ref ma20, .int 0, .int 0, .int 0, .int 0, .int 0, .int 0])), (ma1, .inl (mc1, 384, .inl (fun _ => 0))), (ma2, .inl (mc2, 8, .inl (fun _ => 0))), (ma3, .inl (mc3, 8, .inl (fun _ => 0))), (ma4, .inl (mc4, 8, .inl (fun _ => 0))), (ma5, .inl (mc5, 8, .inl (fun _ => 0))), (ma6, .inl (mc6, 8, .inl (fun _ => 0))), (ma7, .inl (mc7, 8, .inl (fun _ => 0))), (ma8, .inl (mc8, 8, .inl (fun _ => 0))), (ma9, .inl (mc9, 8, .inl (fun _ => 0))), (ma10, .inl (mc10, 8, .inl (fun _ => 0))), (ma11, .inl (mc11, 3072, .inl (fun _ => 0))), (ma12, .inl (mc12, 384, .inl (fun _ => 0))), (ma13, .inl (mc13, 7, .inl (fun _ => 0))), (ma14, .inl (mc14, 7, .inl (fun _ => 0))), (ma15, .inl (mc15, 7, .inl (fun _ => 0))), (ma16, .inl (mc16, 7, .inl (fun _ => 0))), (ma17, .inl (mc17, 12, .inl (fun _ => 0))), (ma18, .inl (mc18, 12, .inl (fun _ => 0))), (ma19, .inl (mc19, 12, .inl (fun _ => 0))), (ma20, .inl (mc20, 12, .inl (fun _ => 0)))] := hD
  have hK : va_K (dC, dI) gCl [(sc1, .int), (sc2, .object "PaneScreen$Pane"), (sc1_20, .int), (sc1_22, .int), (sc2_22, .int), (sc3_22, .boolean), (sc1_24, .int), (sc2_24, .int), (sc3_24, .int), (sc4_24, .int), (sc1_26, .int), (sc2_26, .int), (sc3_26, .int), (sc4_26, .int), (mc1, .int), (mc2, .boolean), (mc3, .int), (mc4, .int), (mc5, .int), (mc6, .int), (mc7, .int), (mc8, .int), (mc9, .int), (mc10, .int), (mc11, .int), (mc12, .int), (mc13, .int), (mc14, .int), (mc15, .int), (mc16, .int), (mc17, .int), (mc18, .int), (mc19, .int), (mc20, .int)] s := hK
  refine W.widen (k := 48) (n := 5789) (by omega) (by omega) ?_
  refine lv_astore_n hx hb d_L_law_15 rfl hl (by decide) rfl (fun ls hl => ?_)
  have hl : lv_has ls 7 [(2, .ref hM0), (0, .ref b), (1, .ref hS0)] := hl
  have hl := lv_sub (l' := [(0, .ref b), (1, .ref hS0), (2, .ref hM0)]) hl [1, 2, 0] rfl
  refine lv_iconst (v := 1) hx hb d_L_law_16 k_iconst_1 ?_
  refine va_newa (atype := .long) (N' := 1) (a0 := (1, .inr (.inl (fun _ => 0)))) (ty := .long) (n := 1) hx hb (hts (.arrayClass .long) w_697) rfl hK hP hD hS hA (fun _ => rfl) (by decide) (by decide) (by decide) (Nat.le_of_ble_eq_true rfl) (Nat.le_of_ble_eq_true rfl) d_L_law_17 (fun aO cO H hK hP hD hS => ?_)
  have hP : va_P (dC, dI) gCl [(hS0, .inr (0, [.ref sa1, .ref sa2, .ref sa19, .ref sa21, .ref sa23, .ref sa25, .int (-1), .int 0])), (sa1, .inl (sc1, 384, .inl (fun _ => 0))), (sa2, .inl (sc2, 8, .inr (.inr (.inr (.inr (va_up (va_up (va_up (va_up (va_up (va_up (va_up (va_up (fun _ => none) 0 (some sa3)) 1 (some sa5)) 2 (some sa7)) 3 (some sa9)) 4 (some sa11)) 5 (some sa13)) 6 (some sa15)) 7 (some sa17))))))), (sa3, .inr (4, [.int 0, .int 0, .int 0, .int 0, .int 0, .int 0, .int 0, .int 0])), (sa5, .inr (4, [.int 0, .int 0, .int 0, .int 0, .int 0, .int 0, .int 0, .int 0])), (sa7, .inr (4, [.int 0, .int 0, .int 0, .int 0, .int 0, .int 0, .int 0, .int 0])), (sa9, .inr (4, [.int 0, .int 0, .int 0, .int 0, .int 0, .int 0, .int 0, .int 0])), (sa11, .inr (4, [.int 0, .int 0, .int 0, .int 0, .int 0, .int 0, .int 0, .int 0])), (sa13, .inr (4, [.int 0, .int 0, .int 0, .int 0, .int 0, .int 0, .int 0, .int 0])), (sa15, .inr (4, [.int 0, .int 0, .int 0, .int 0, .int 0, .int 0, .int 0, .int 0])), (sa17, .inr (4, [.int 0, .int 0, .int 0, .int 0, .int 0, .int 0, .int 0, .int 0])), (sa19, .inr (3, [.ref sa1_20, .int 0])), (sa1_20, .inl (sc1_20, 8, .inl (fun _ => 0))), (sa21, .inr (5, [.ref sa1_22, .ref sa2_22, .ref sa3_22])), (sa1_22, .inl (sc1_22, 400, .inl (fun _ => 0))), (sa2_22, .inl (sc2_22, 400, .inl (fun _ => 0))), (sa3_22, .inl (sc3_22, 400, .inl (fun _ => 0))), (sa23, .inr (1, [.ref sa1_24, .ref sa2_24, .ref sa3_24, .ref sa4_24, .int 0])), (sa1_24, .inl (sc1_24, 6, .inl (fun _ => 0))), (sa2_24, .inl (sc2_24, 6, .inl (fun _ => 0))), (sa3_24, .inl (sc3_24, 6, .inl (fun _ => 0))), (sa4_24, .inl (sc4_24, 6, .inl (fun _ => 0))), (sa25, .inr (2, [.ref sa1_26, .ref sa2_26, .ref sa3_26, .ref sa4_26, .int 0, .int 0, .int (-1), .int 0, .int 0, .int 0])), (sa1_26, .inl (sc1_26, 12, .inl (fun _ => 0))), (sa2_26, .inl (sc2_26, 12, .inl (fun _ => 0))), (sa3_26, .inl (sc3_26, 12, .inl (fun _ => 0))), (sa4_26, .inl (sc4_26, 12, .inl (fun _ => 0))), (hM0, .inr (6, [.int 0, .ref ma1, .ref ma2, .ref ma3, .ref ma4, .ref ma5, .ref ma6, .ref ma7, .ref ma8, .ref ma9, .ref ma10, .int 0, .int 0, .ref ma11, .ref ma12, .int (-1), .int 0, .ref ma13, .ref ma14, .ref ma15, .ref ma16, .int 0, .int 0, .int 0, .int 0, .int 0, .int 0, .ref ma17, .ref ma18, .ref ma19, .ref ma20, .int 0, .int 0, .int 0, .int 0, .int 0, .int 0])), (ma1, .inl (mc1, 384, .inl (fun _ => 0))), (ma2, .inl (mc2, 8, .inl (fun _ => 0))), (ma3, .inl (mc3, 8, .inl (fun _ => 0))), (ma4, .inl (mc4, 8, .inl (fun _ => 0))), (ma5, .inl (mc5, 8, .inl (fun _ => 0))), (ma6, .inl (mc6, 8, .inl (fun _ => 0))), (ma7, .inl (mc7, 8, .inl (fun _ => 0))), (ma8, .inl (mc8, 8, .inl (fun _ => 0))), (ma9, .inl (mc9, 8, .inl (fun _ => 0))), (ma10, .inl (mc10, 8, .inl (fun _ => 0))), (ma11, .inl (mc11, 3072, .inl (fun _ => 0))), (ma12, .inl (mc12, 384, .inl (fun _ => 0))), (ma13, .inl (mc13, 7, .inl (fun _ => 0))), (ma14, .inl (mc14, 7, .inl (fun _ => 0))), (ma15, .inl (mc15, 7, .inl (fun _ => 0))), (ma16, .inl (mc16, 7, .inl (fun _ => 0))), (ma17, .inl (mc17, 12, .inl (fun _ => 0))), (ma18, .inl (mc18, 12, .inl (fun _ => 0))), (ma19, .inl (mc19, 12, .inl (fun _ => 0))), (ma20, .inl (mc20, 12, .inl (fun _ => 0))), (aO, .inl (cO, 1, .inr (.inl (fun _ => 0))))] H := hP
  have hD : va_D (fun z => s.heap.size ≤ z) [(hS0, .inr (0, [.ref sa1, .ref sa2, .ref sa19, .ref sa21, .ref sa23, .ref sa25, .int (-1), .int 0])), (sa1, .inl (sc1, 384, .inl (fun _ => 0))), (sa2, .inl (sc2, 8, .inr (.inr (.inr (.inr (va_up (va_up (va_up (va_up (va_up (va_up (va_up (va_up (fun _ => none) 0 (some sa3)) 1 (some sa5)) 2 (some sa7)) 3 (some sa9)) 4 (some sa11)) 5 (some sa13)) 6 (some sa15)) 7 (some sa17))))))), (sa3, .inr (4, [.int 0, .int 0, .int 0, .int 0, .int 0, .int 0, .int 0, .int 0])), (sa5, .inr (4, [.int 0, .int 0, .int 0, .int 0, .int 0, .int 0, .int 0, .int 0])), (sa7, .inr (4, [.int 0, .int 0, .int 0, .int 0, .int 0, .int 0, .int 0, .int 0])), (sa9, .inr (4, [.int 0, .int 0, .int 0, .int 0, .int 0, .int 0, .int 0, .int 0])), (sa11, .inr (4, [.int 0, .int 0, .int 0, .int 0, .int 0, .int 0, .int 0, .int 0])), (sa13, .inr (4, [.int 0, .int 0, .int 0, .int 0, .int 0, .int 0, .int 0, .int 0])), (sa15, .inr (4, [.int 0, .int 0, .int 0, .int 0, .int 0, .int 0, .int 0, .int 0])), (sa17, .inr (4, [.int 0, .int 0, .int 0, .int 0, .int 0, .int 0, .int 0, .int 0])), (sa19, .inr (3, [.ref sa1_20, .int 0])), (sa1_20, .inl (sc1_20, 8, .inl (fun _ => 0))), (sa21, .inr (5, [.ref sa1_22, .ref sa2_22, .ref sa3_22])), (sa1_22, .inl (sc1_22, 400, .inl (fun _ => 0))), (sa2_22, .inl (sc2_22, 400, .inl (fun _ => 0))), (sa3_22, .inl (sc3_22, 400, .inl (fun _ => 0))), (sa23, .inr (1, [.ref sa1_24, .ref sa2_24, .ref sa3_24, .ref sa4_24, .int 0])), (sa1_24, .inl (sc1_24, 6, .inl (fun _ => 0))), (sa2_24, .inl (sc2_24, 6, .inl (fun _ => 0))), (sa3_24, .inl (sc3_24, 6, .inl (fun _ => 0))), (sa4_24, .inl (sc4_24, 6, .inl (fun _ => 0))), (sa25, .inr (2, [.ref sa1_26, .ref sa2_26, .ref sa3_26, .ref sa4_26, .int 0, .int 0, .int (-1), .int 0, .int 0, .int 0])), (sa1_26, .inl (sc1_26, 12, .inl (fun _ => 0))), (sa2_26, .inl (sc2_26, 12, .inl (fun _ => 0))), (sa3_26, .inl (sc3_26, 12, .inl (fun _ => 0))), (sa4_26, .inl (sc4_26, 12, .inl (fun _ => 0))), (hM0, .inr (6, [.int 0, .ref ma1, .ref ma2, .ref ma3, .ref ma4, .ref ma5, .ref ma6, .ref ma7, .ref ma8, .ref ma9, .ref ma10, .int 0, .int 0, .ref ma11, .ref ma12, .int (-1), .int 0, .ref ma13, .ref ma14, .ref ma15, .ref ma16, .int 0, .int 0, .int 0, .int 0, .int 0, .int 0, .ref ma17, .ref ma18, .ref ma19, .ref ma20, .int 0, .int 0, .int 0, .int 0, .int 0, .int 0])), (ma1, .inl (mc1, 384, .inl (fun _ => 0))), (ma2, .inl (mc2, 8, .inl (fun _ => 0))), (ma3, .inl (mc3, 8, .inl (fun _ => 0))), (ma4, .inl (mc4, 8, .inl (fun _ => 0))), (ma5, .inl (mc5, 8, .inl (fun _ => 0))), (ma6, .inl (mc6, 8, .inl (fun _ => 0))), (ma7, .inl (mc7, 8, .inl (fun _ => 0))), (ma8, .inl (mc8, 8, .inl (fun _ => 0))), (ma9, .inl (mc9, 8, .inl (fun _ => 0))), (ma10, .inl (mc10, 8, .inl (fun _ => 0))), (ma11, .inl (mc11, 3072, .inl (fun _ => 0))), (ma12, .inl (mc12, 384, .inl (fun _ => 0))), (ma13, .inl (mc13, 7, .inl (fun _ => 0))), (ma14, .inl (mc14, 7, .inl (fun _ => 0))), (ma15, .inl (mc15, 7, .inl (fun _ => 0))), (ma16, .inl (mc16, 7, .inl (fun _ => 0))), (ma17, .inl (mc17, 12, .inl (fun _ => 0))), (ma18, .inl (mc18, 12, .inl (fun _ => 0))), (ma19, .inl (mc19, 12, .inl (fun _ => 0))), (ma20, .inl (mc20, 12, .inl (fun _ => 0))), (aO, .inl (cO, 1, .inr (.inl (fun _ => 0))))] := hD
  have hK : va_K (dC, dI) gCl [(sc1, .int), (sc2, .object "PaneScreen$Pane"), (sc1_20, .int), (sc1_22, .int), (sc2_22, .int), (sc3_22, .boolean), (sc1_24, .int), (sc2_24, .int), (sc3_24, .int), (sc4_24, .int), (sc1_26, .int), (sc2_26, .int), (sc3_26, .int), (sc4_26, .int), (mc1, .int), (mc2, .boolean), (mc3, .int), (mc4, .int), (mc5, .int), (mc6, .int), (mc7, .int), (mc8, .int), (mc9, .int), (mc10, .int), (mc11, .int), (mc12, .int), (mc13, .int), (mc14, .int), (mc15, .int), (mc16, .int), (mc17, .int), (mc18, .int), (mc19, .int), (mc20, .int), (cO, .long)] s := hK
  refine W.widen (k := 49) (n := 5790) (by omega) (by omega) ?_
  refine lv_astore_n hx hb d_L_law_19 rfl hl (by decide) rfl (fun ls hl => ?_)
  have hl : lv_has ls 7 [(3, .ref aO), (0, .ref b), (1, .ref hS0), (2, .ref hM0)] := hl
  have hl := lv_sub (l' := [(0, .ref b), (1, .ref hS0), (2, .ref hM0), (3, .ref aO)]) hl [1, 2, 3, 0] rfl
  refine lv_iconst (v := 0) hx hb d_L_law_20 k_iconst_0 ?_
  refine lv_istore hx hb d_L_law_21 hl (by decide) rfl (fun ls hl => ?_)
  have hl : lv_has ls 7 [(4, .int 0), (0, .ref b), (1, .ref hS0), (2, .ref hM0), (3, .ref aO)] := hl
  have hl := lv_sub (l' := [(0, .ref b), (1, .ref hS0), (2, .ref hM0), (3, .ref aO), (4, .int 0)]) hl [1, 2, 3, 4, 0] rfl
  have eΓ : ∃ Γ : GA, Γ = ((dC, dI), (fun q => ([hS0, sa1, sa2, sa19, sa1_20, sa21, sa1_22, sa2_22, sa3_22, sa23, sa1_24, sa2_24, sa3_24, sa4_24, sa25, sa1_26, sa2_26, sa3_26, sa4_26, hM0, ma1, ma2, ma3, ma4, ma5, ma6, ma7, ma8, ma9, ma10, ma11, ma12, ma13, ma14, ma15, ma16, ma17, ma18, ma19, ma20, aO, sa3, sa5, sa7, sa9, sa11, sa13, sa15, sa17] : List Nat).getD q 0), s.heap.size, (fun q => ([0, sc1, sc2, 0, sc1_20, 0, sc1_22, sc2_22, sc3_22, 0, sc1_24, sc2_24, sc3_24, sc4_24, 0, sc1_26, sc2_26, sc3_26, sc4_26, 0, mc1, mc2, mc3, mc4, mc5, mc6, mc7, mc8, mc9, mc10, mc11, mc12, mc13, mc14, mc15, mc16, mc17, mc18, mc19, mc20, cO, 0, 0, 0, 0, 0, 0, 0, 0] : List ClassId).getD q 0)) := ⟨_, rfl⟩
  obtain ⟨Γ, hΓ⟩ := eΓ
  have hPg : va_P Γ.1 gCl (gwd Γ gS0) H := by
    subst hΓ
    intro k x hk
    match k, hk with
    | 0, hk => cases hk; exact hP 0 _ rfl
    | 1, hk => cases hk; exact hP 1 _ rfl
    | 2, hk =>
      cases hk
      have h9 := hP 2 _ rfl
      refine h9.trans (congrArg some (pan_eq _ _ _ (fun j hj => ?_)))
      match j, hj with
      | 0, _ => rfl | 1, _ => rfl | 2, _ => rfl | 3, _ => rfl | 4, _ => rfl | 5, _ => rfl | 6, _ => rfl | 7, _ => rfl | n + 8, h => exact absurd h (by omega)
    | 3, hk => cases hk; exact hP 11 _ rfl
    | 4, hk => cases hk; exact hP 12 _ rfl
    | 5, hk => cases hk; exact hP 13 _ rfl
    | 6, hk => cases hk; exact hP 14 _ rfl
    | 7, hk => cases hk; exact hP 15 _ rfl
    | 8, hk => cases hk; exact hP 16 _ rfl
    | 9, hk => cases hk; exact hP 17 _ rfl
    | 10, hk => cases hk; exact hP 18 _ rfl
    | 11, hk => cases hk; exact hP 19 _ rfl
    | 12, hk => cases hk; exact hP 20 _ rfl
    | 13, hk => cases hk; exact hP 21 _ rfl
    | 14, hk => cases hk; exact hP 22 _ rfl
    | 15, hk => cases hk; exact hP 23 _ rfl
    | 16, hk => cases hk; exact hP 24 _ rfl
    | 17, hk => cases hk; exact hP 25 _ rfl
    | 18, hk => cases hk; exact hP 26 _ rfl
    | 19, hk => cases hk; exact hP 27 _ rfl
    | 20, hk => cases hk; exact hP 28 _ rfl
    | 21, hk => cases hk; exact hP 29 _ rfl
    | 22, hk => cases hk; exact hP 30 _ rfl
    | 23, hk => cases hk; exact hP 31 _ rfl
    | 24, hk => cases hk; exact hP 32 _ rfl
    | 25, hk => cases hk; exact hP 33 _ rfl
    | 26, hk => cases hk; exact hP 34 _ rfl
    | 27, hk => cases hk; exact hP 35 _ rfl
    | 28, hk => cases hk; exact hP 36 _ rfl
    | 29, hk => cases hk; exact hP 37 _ rfl
    | 30, hk => cases hk; exact hP 38 _ rfl
    | 31, hk => cases hk; exact hP 39 _ rfl
    | 32, hk => cases hk; exact hP 40 _ rfl
    | 33, hk => cases hk; exact hP 41 _ rfl
    | 34, hk => cases hk; exact hP 42 _ rfl
    | 35, hk => cases hk; exact hP 43 _ rfl
    | 36, hk => cases hk; exact hP 44 _ rfl
    | 37, hk => cases hk; exact hP 45 _ rfl
    | 38, hk => cases hk; exact hP 46 _ rfl
    | 39, hk => cases hk; exact hP 47 _ rfl
    | 40, hk => cases hk; exact hP 48 _ rfl
    | 41, hk => cases hk; exact hP 3 _ rfl
    | 42, hk => cases hk; exact hP 4 _ rfl
    | 43, hk => cases hk; exact hP 5 _ rfl
    | 44, hk => cases hk; exact hP 6 _ rfl
    | 45, hk => cases hk; exact hP 7 _ rfl
    | 46, hk => cases hk; exact hP 8 _ rfl
    | 47, hk => cases hk; exact hP 9 _ rfl
    | 48, hk => cases hk; exact hP 10 _ rfl
    | n + 49, hk => exact absurd hk (by rw [List.getElem?_eq_none (by rw [gwd_len]; show 49 ≤ n + 49; omega)]; simp)
  have hDg : va_D (gA Γ) (gwd Γ gS0) := by
    subst hΓ
    refine va_D_perm hD (fun k => ([0, 1, 2, 11, 12, 13, 14, 15, 16, 17, 18, 19, 20, 21, 22, 23, 24, 25, 26, 27, 28, 29, 30, 31, 32, 33, 34, 35, 36, 37, 38, 39, 40, 41, 42, 43, 44, 45, 46, 47, 48, 3, 4, 5, 6, 7, 8, 9, 10] : List Nat).getD k 0) 49 rfl (fun k x hk => ?_) (by decide)
    match k, hk with
    | 0, hk => cases hk; exact ⟨_, rfl⟩
    | 1, hk => cases hk; exact ⟨_, rfl⟩
    | 2, hk => cases hk; exact ⟨_, rfl⟩
    | 3, hk => cases hk; exact ⟨_, rfl⟩
    | 4, hk => cases hk; exact ⟨_, rfl⟩
    | 5, hk => cases hk; exact ⟨_, rfl⟩
    | 6, hk => cases hk; exact ⟨_, rfl⟩
    | 7, hk => cases hk; exact ⟨_, rfl⟩
    | 8, hk => cases hk; exact ⟨_, rfl⟩
    | 9, hk => cases hk; exact ⟨_, rfl⟩
    | 10, hk => cases hk; exact ⟨_, rfl⟩
    | 11, hk => cases hk; exact ⟨_, rfl⟩
    | 12, hk => cases hk; exact ⟨_, rfl⟩
    | 13, hk => cases hk; exact ⟨_, rfl⟩
    | 14, hk => cases hk; exact ⟨_, rfl⟩
    | 15, hk => cases hk; exact ⟨_, rfl⟩
    | 16, hk => cases hk; exact ⟨_, rfl⟩
    | 17, hk => cases hk; exact ⟨_, rfl⟩
    | 18, hk => cases hk; exact ⟨_, rfl⟩
    | 19, hk => cases hk; exact ⟨_, rfl⟩
    | 20, hk => cases hk; exact ⟨_, rfl⟩
    | 21, hk => cases hk; exact ⟨_, rfl⟩
    | 22, hk => cases hk; exact ⟨_, rfl⟩
    | 23, hk => cases hk; exact ⟨_, rfl⟩
    | 24, hk => cases hk; exact ⟨_, rfl⟩
    | 25, hk => cases hk; exact ⟨_, rfl⟩
    | 26, hk => cases hk; exact ⟨_, rfl⟩
    | 27, hk => cases hk; exact ⟨_, rfl⟩
    | 28, hk => cases hk; exact ⟨_, rfl⟩
    | 29, hk => cases hk; exact ⟨_, rfl⟩
    | 30, hk => cases hk; exact ⟨_, rfl⟩
    | 31, hk => cases hk; exact ⟨_, rfl⟩
    | 32, hk => cases hk; exact ⟨_, rfl⟩
    | 33, hk => cases hk; exact ⟨_, rfl⟩
    | 34, hk => cases hk; exact ⟨_, rfl⟩
    | 35, hk => cases hk; exact ⟨_, rfl⟩
    | 36, hk => cases hk; exact ⟨_, rfl⟩
    | 37, hk => cases hk; exact ⟨_, rfl⟩
    | 38, hk => cases hk; exact ⟨_, rfl⟩
    | 39, hk => cases hk; exact ⟨_, rfl⟩
    | 40, hk => cases hk; exact ⟨_, rfl⟩
    | 41, hk => cases hk; exact ⟨_, rfl⟩
    | 42, hk => cases hk; exact ⟨_, rfl⟩
    | 43, hk => cases hk; exact ⟨_, rfl⟩
    | 44, hk => cases hk; exact ⟨_, rfl⟩
    | 45, hk => cases hk; exact ⟨_, rfl⟩
    | 46, hk => cases hk; exact ⟨_, rfl⟩
    | 47, hk => cases hk; exact ⟨_, rfl⟩
    | 48, hk => cases hk; exact ⟨_, rfl⟩
    | n + 49, hk => exact absurd hk (by rw [List.getElem?_eq_none (by rw [gwd_len]; show 49 ≤ n + 49; omega)]; simp)
  have hKg : va_K Γ.1 gCl (gT Γ) s := by
    subst hΓ
    refine ⟨hK.1, fun k x hk => ?_⟩
    match k, hk with
    | 0, hk => cases hk; exact hK.2 0 _ rfl
    | 1, hk => cases hk; exact hK.2 0 _ rfl
    | 2, hk => cases hk; exact hK.2 1 _ rfl
    | 3, hk => cases hk; exact hK.2 0 _ rfl
    | 4, hk => cases hk; exact hK.2 2 _ rfl
    | 5, hk => cases hk; exact hK.2 0 _ rfl
    | 6, hk => cases hk; exact hK.2 3 _ rfl
    | 7, hk => cases hk; exact hK.2 4 _ rfl
    | 8, hk => cases hk; exact hK.2 5 _ rfl
    | 9, hk => cases hk; exact hK.2 0 _ rfl
    | 10, hk => cases hk; exact hK.2 6 _ rfl
    | 11, hk => cases hk; exact hK.2 7 _ rfl
    | 12, hk => cases hk; exact hK.2 8 _ rfl
    | 13, hk => cases hk; exact hK.2 9 _ rfl
    | 14, hk => cases hk; exact hK.2 0 _ rfl
    | 15, hk => cases hk; exact hK.2 10 _ rfl
    | 16, hk => cases hk; exact hK.2 11 _ rfl
    | 17, hk => cases hk; exact hK.2 12 _ rfl
    | 18, hk => cases hk; exact hK.2 13 _ rfl
    | 19, hk => cases hk; exact hK.2 0 _ rfl
    | 20, hk => cases hk; exact hK.2 14 _ rfl
    | 21, hk => cases hk; exact hK.2 15 _ rfl
    | 22, hk => cases hk; exact hK.2 16 _ rfl
    | 23, hk => cases hk; exact hK.2 17 _ rfl
    | 24, hk => cases hk; exact hK.2 18 _ rfl
    | 25, hk => cases hk; exact hK.2 19 _ rfl
    | 26, hk => cases hk; exact hK.2 20 _ rfl
    | 27, hk => cases hk; exact hK.2 21 _ rfl
    | 28, hk => cases hk; exact hK.2 22 _ rfl
    | 29, hk => cases hk; exact hK.2 23 _ rfl
    | 30, hk => cases hk; exact hK.2 24 _ rfl
    | 31, hk => cases hk; exact hK.2 25 _ rfl
    | 32, hk => cases hk; exact hK.2 26 _ rfl
    | 33, hk => cases hk; exact hK.2 27 _ rfl
    | 34, hk => cases hk; exact hK.2 28 _ rfl
    | 35, hk => cases hk; exact hK.2 29 _ rfl
    | 36, hk => cases hk; exact hK.2 30 _ rfl
    | 37, hk => cases hk; exact hK.2 31 _ rfl
    | 38, hk => cases hk; exact hK.2 32 _ rfl
    | 39, hk => cases hk; exact hK.2 33 _ rfl
    | 40, hk => cases hk; exact hK.2 34 _ rfl
    | 41, hk => cases hk; exact hK.2 0 _ rfl
    | 42, hk => cases hk; exact hK.2 0 _ rfl
    | 43, hk => cases hk; exact hK.2 0 _ rfl
    | 44, hk => cases hk; exact hK.2 0 _ rfl
    | 45, hk => cases hk; exact hK.2 0 _ rfl
    | 46, hk => cases hk; exact hK.2 0 _ rfl
    | 47, hk => cases hk; exact hK.2 0 _ rfl
    | 48, hk => cases hk; exact hK.2 0 _ rfl
    | n + 49, hk => exact absurd hk (by rw [List.getElem?_eq_none (by show (List.map _ (List.range 49)).length ≤ n + 49; simp)]; simp)
  have hfl := flat_of_before _ hgv
  have hz1 : vx_Zq Bundle.tN "UNASSIGNED_STACK" Bundle.steD (gA Γ) s s.heap := vx_Zqof (htbl _ (List.mem_of_getElem? (i := 300) (by decide +kernel))) (htbl _ (List.mem_of_getElem? (i := 38) (by decide +kernel))) (hfl _ (by decide +kernel)) (fun a h => by subst hΓ; exact Nat.not_le.2 h)
  have hz2 : vx_Zq Bundle.tN "SUPPRESSED_SENTINEL" Bundle.listD (gA Γ) s s.heap := vx_Zqof (htbl _ (List.mem_of_getElem? (i := 302) (by decide +kernel))) (htbl _ (List.mem_of_getElem? (i := 38) (by decide +kernel))) (hfl _ (by decide +kernel)) (fun a h => by subst hΓ; exact Nat.not_le.2 h)
  have hbd : gBad s := by
    refine ⟨fun x hx => ?_, fun E hE => ?_, fun z hz => ?_⟩
    · simp only [gDec, List.mem_cons, List.not_mem_nil, or_false] at hx
      rcases hx with rfl | rfl | rfl
      · exact va_Nw.of rfl (htbl _ (List.mem_of_getElem? (i := 276) (by decide +kernel)))
      · exact va_Nw.of rfl (htbl _ (List.mem_of_getElem? (i := 278) (by decide +kernel)))
      · exact va_Nw.of rfl (htbl _ (List.mem_of_getElem? (i := 280) (by decide +kernel)))
    · simp only [gExc, List.mem_cons, List.not_mem_nil, or_false] at hE
      rcases hE with rfl | rfl | rfl | rfl
      · exact va_Nw.of rfl (htbl _ (List.mem_of_getElem? (i := 275) (by decide +kernel)))
      · exact va_Nw.of rfl (htbl _ (List.mem_of_getElem? (i := 350) (by decide +kernel)))
      · exact va_Nw.of rfl (htbl _ (List.mem_of_getElem? (i := 423) (by decide +kernel)))
      · exact va_Nw.of rfl (htbl _ (List.mem_of_getElem? (i := 564) (by decide +kernel)))
    · simp only [gNoC, List.mem_cons, List.not_mem_nil, or_false] at hz
      rcases hz with rfl | rfl | rfl | rfl
      · exact va_Nc.of (hfl _ (by decide +kernel))
      · exact va_Nc.of (hfl _ (by decide +kernel))
      · exact va_Nc.of (hfl _ (by decide +kernel))
      · exact va_Nc.of (hfl _ (by decide +kernel))
  have hX : Gx (p, l, e, room_1, s, m, #[Value.ref b], below, meth, c) Γ 7 code "PaneScreenLaw" room_1 ret := ⟨hx, hb, hts, hown, hKg, by subst hΓ; exact Nat.le_refl _, hml, hlocks, rfl, hr, hz1, hz2, hbd⟩
  have hB : gScr (p, l, e, room_1, s, m, #[Value.ref b], below, meth, c) Γ b L xs := ⟨hXs, hbl, by subst hΓ; exact Nat.not_le.2 hbl, rfl, by subst hΓ; rfl⟩
  have hG := m_L_law_23 hX hB hT gN 49 5790 (by decide) (by decide) gS0 0
  refine hG hp0 H _ ls hPg hDg (by subst hΓ; exact hS) ?_
  subst hΓ
  exact gL_of hl rfl rfl
end GS
