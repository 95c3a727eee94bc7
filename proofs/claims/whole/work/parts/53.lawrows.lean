/-! The law: its script, its end. -/
section GL
variable {ρ : Type} {κ : GC} {Γ : GA} {nL cells slots : Nat} {QF : Option ρ → State → Prop} {σ : Mem} {lo lw : List (Option Value)} {pc n : Nat} {rest : List Value} {o : Option ρ} {cc : ByteArray} {own : String} {rm : Room} {rt : Option FieldType}
def gScr (κ : GC) (Γ : GA) (b L : Nat) (xs : Nat → Int32) : Prop := va_X b L xs κ.2.2.2.2.1 κ.2.2.2.2.1.heap ∧ b < κ.2.2.2.2.1.heap.size ∧ ¬ gA Γ b ∧ κ.2.2.2.2.2.2.1 = #[Value.ref b] ∧ Γ.2.2.1 = κ.2.2.2.2.1.heap.size
def gQL (κ : GC) (b : Nat) : Option Unit → State → Prop := fun _ => lw_Z κ.2.2.2.2.2.2.2.1 #[Value.ref b] κ.2.2.2.2.1
theorem g_slen (hX : Gx κ Γ nL cc own rm rt) {b L : Nat} {xs : Nat → Int32} (hB : gScr κ Γ b L xs) (hd : decode cc pc = .ok (.arraylength, 1)) (hn : pc + 1 = n) (k : GG κ Γ nL QF cells slots σ lo n (.int (Int32.ofNat L) :: rest) o) : GG κ Γ nL QF cells slots σ lo pc (.ref b :: rest) o := by
  subst hn; exact fun h0 H locs ls hP hD hS hl => va_slen hX.1 hX.2.1 hB.1 hB.2.1 hB.2.2.1 hS hd (k h0 H locs ls hP hD hS hl)
theorem g_sld (hX : Gx κ Γ nL cc own rm rt) {b L : Nat} {xs : Nat → Int32} (hB : gScr κ Γ b L xs) {i : Int32} {dc : Decidable (gin i L = true)} (hd : decode cc pc = .ok (.iaload, 1)) (hn : pc + 1 = n) (k : GG κ Γ nL QF cells slots σ lo n (.int (xs i.toNatClampNeg) :: rest) o) : GG κ Γ nL QF cells slots σ lo pc (.int i :: .ref b :: rest) (@ite _ (gin i L = true) dc o none) := by
  subst hn; intro h0 H locs ls hP hD hS hl
  by_cases h : gin i L = true
  · rw [if_pos h] at h0 ⊢
    exact va_sld hX.1 hX.2.1 hB.1 hB.2.1 hB.2.2.1 hS (gin_in h) hd (k h0 H locs ls hP hD hS hl)
  · exact absurd (if_neg h) h0
theorem g_lret {κ : GC} {Γ : GA} {b L : Nat} {xs : Nat → Int32} (hX : Gx κ Γ 7 code "PaneScreenLaw" room_1 ret) (hB : gScr κ Γ b L xs) (hd : decode code pc = .ok (.ireturn, 1)) (hc : cells ≤ 601024) (hs : slots ≤ 7293034) : GG κ Γ 7 (gQL κ b) cells slots σ lo pc [.int 1] (some ()) := by
  intro h0 H locs ls hP hD hS hl
  refine va_forget (fun q hq => by have := hS.2.2 q hq; rw [← hB.2.2.2.2]; exact this) ?_
  refine W.widen hc hs ?_
  have hR : κ.2.2.2.1 = room_1 := hX.2.2.2.2.2.2.2.2.1
  have hA : κ.2.2.2.2.2.2.1 = #[Value.ref b] := hB.2.2.2.1
  have h9 := lw_ret (p := κ.1) (l := κ.2.1) (e := κ.2.2.1) (s := κ.2.2.2.2.1) (m := κ.2.2.2.2.2.1) (below := κ.2.2.2.2.2.2.2.1) (meth := κ.2.2.2.2.2.2.2.2.1) (c := κ.2.2.2.2.2.2.2.2.2) (b := b) hX.1 hX.2.1 hX.2.2.2.2.2.2.2.2.2.1 hX.2.2.2.2.2.2.2.1 (H := H) (ls := ls) hd
  rw [hR, hA]
  exact h9
end GL
theorem gw_L_87 : gWV "PaneScreenLaw" 87 y_M_open b_M_open 8 (some .int) 4 := ⟨gGood TW_good (fun w hw => by
  simp only [List.mem_cons, List.not_mem_nil, or_false] at hw
  rcases hw with rfl | rfl | rfl | rfl
  · exact w_547
  · exact w_548
  · exact w_549
  · exact w_251) w_550, by decide, by decide, by decide +kernel⟩
theorem gw_L_88 : gWV "PaneScreenLaw" 88 y_M_thrown b_M_thrown 1 (some .int) 0 := ⟨gGood TW_good (fun w hw => by
  simp only [List.mem_cons, List.not_mem_nil, or_false] at hw
  rcases hw with rfl | rfl | rfl | rfl
  · exact w_551
  · exact w_552
  · exact w_553
  · exact w_251) w_554, by decide, by decide, by decide +kernel⟩
theorem gw_L_94 : gWV "PaneScreenLaw" 94 y_M_close b_M_close 4 none 1 := ⟨gGood TW_good (fun w hw => by
  simp only [List.mem_cons, List.not_mem_nil, or_false] at hw
  rcases hw with rfl | rfl | rfl | rfl
  · exact w_555
  · exact w_556
  · exact w_557
  · exact w_251) w_558, by decide, by decide, by decide +kernel⟩
theorem gw_L_98 : gWV "PaneScreenLaw" 98 y_M_move b_M_move 4 none 3 := ⟨gGood TW_good (fun w hw => by
  simp only [List.mem_cons, List.not_mem_nil, or_false] at hw
  rcases hw with rfl | rfl | rfl | rfl
  · exact w_559
  · exact w_560
  · exact w_561
  · exact w_251) w_562, by decide, by decide, by decide +kernel⟩
theorem gw_L_102 : gWV "PaneScreenLaw" 102 y_M_raise b_M_raise 3 (some .boolean) 2 := ⟨gGood TW_good (fun w hw => by
  simp only [List.mem_cons, List.not_mem_nil, or_false] at hw
  rcases hw with rfl | rfl | rfl | rfl
  · exact w_563
  · exact w_564
  · exact w_565
  · exact w_251) w_566, by decide, by decide, by decide +kernel⟩
theorem gw_L_105 : gWV "PaneScreenLaw" 105 y_M_plot b_M_plot 6 (some .boolean) 4 := ⟨gGood TW_good (fun w hw => by
  simp only [List.mem_cons, List.not_mem_nil, or_false] at hw
  rcases hw with rfl | rfl | rfl | rfl
  · exact w_567
  · exact w_568
  · exact w_569
  · exact w_251) w_570, by decide, by decide, by decide +kernel⟩
theorem gw_L_109 : gWV "PaneScreenLaw" 109 y_M_fill b_M_fill 9 (some .int) 5 := ⟨gGood TW_good (fun w hw => by
  simp only [List.mem_cons, List.not_mem_nil, or_false] at hw
  rcases hw with rfl | rfl | rfl | rfl
  · exact w_571
  · exact w_572
  · exact w_573
  · exact w_251) w_574, by decide, by decide, by decide +kernel⟩
theorem gw_L_112 : gWV "PaneScreenLaw" 112 y_M_pen b_M_pen 4 none 3 := ⟨gGood TW_good (fun w hw => by
  simp only [List.mem_cons, List.not_mem_nil, or_false] at hw
  rcases hw with rfl | rfl | rfl | rfl
  · exact w_575
  · exact w_576
  · exact w_577
  · exact w_251) w_578, by decide, by decide, by decide +kernel⟩
theorem gw_L_115 : gWV "PaneScreenLaw" 115 y_M_line b_M_line 13 (some .int) 4 := ⟨gGood TW_good (fun w hw => by
  simp only [List.mem_cons, List.not_mem_nil, or_false] at hw
  rcases hw with rfl | rfl | rfl | rfl
  · exact w_579
  · exact w_580
  · exact w_581
  · exact w_251) w_582, by decide, by decide, by decide +kernel⟩
theorem gw_L_118 : gWV "PaneScreenLaw" 118 y_M_scroll b_M_scroll 7 none 3 := ⟨gGood TW_good (fun w hw => by
  simp only [List.mem_cons, List.not_mem_nil, or_false] at hw
  rcases hw with rfl | rfl | rfl | rfl
  · exact w_583
  · exact w_584
  · exact w_585
  · exact w_251) w_586, by decide, by decide, by decide +kernel⟩
theorem gw_L_119 : gWV "PaneScreenLaw" 119 y_S_flush b_S_flush 4 (some .int) 0 := ⟨gGood TW_good (fun w hw => by
  simp only [List.mem_cons, List.not_mem_nil, or_false] at hw
  rcases hw with rfl | rfl | rfl | rfl
  · exact w_587
  · exact w_588
  · exact w_589
  · exact w_182) w_590, by decide, by decide, by decide +kernel⟩
theorem gw_L_122 : gWV "PaneScreenLaw" 122 y_M_flush b_M_flush 5 (some .int) 0 := ⟨gGood TW_good (fun w hw => by
  simp only [List.mem_cons, List.not_mem_nil, or_false] at hw
  rcases hw with rfl | rfl | rfl | rfl
  · exact w_591
  · exact w_592
  · exact w_593
  · exact w_251) w_594, by decide, by decide, by decide +kernel⟩
theorem gw_L_126 : gWV "PaneScreenLaw" 126 y_M_screen b_M_screen 3 (some .int) 2 := ⟨gGood TW_good (fun w hw => by
  simp only [List.mem_cons, List.not_mem_nil, or_false] at hw
  rcases hw with rfl | rfl | rfl | rfl
  · exact w_595
  · exact w_596
  · exact w_597
  · exact w_251) w_598, by decide, by decide, by decide +kernel⟩
theorem gw_L_130 : gWV "PaneScreenLaw" 130 y_M_picture b_M_picture 4 (some .int) 3 := ⟨gGood TW_good (fun w hw => by
  simp only [List.mem_cons, List.not_mem_nil, or_false] at hw
  rcases hw with rfl | rfl | rfl | rfl
  · exact w_599
  · exact w_600
  · exact w_601
  · exact w_251) w_602, by decide, by decide, by decide +kernel⟩
theorem gw_L_133 : gWV "PaneScreenLaw" 133 y_M_at b_M_at 3 (some .int) 2 := ⟨gGood TW_good (fun w hw => by
  simp only [List.mem_cons, List.not_mem_nil, or_false] at hw
  rcases hw with rfl | rfl | rfl | rfl
  · exact w_603
  · exact w_604
  · exact w_605
  · exact w_251) w_606, by decide, by decide, by decide +kernel⟩
theorem gw_L_137 : gWV "PaneScreenLaw" 137 y_M_visible b_M_visible 4 (some .int) 1 := ⟨gGood TW_good (fun w hw => by
  simp only [List.mem_cons, List.not_mem_nil, or_false] at hw
  rcases hw with rfl | rfl | rfl | rfl
  · exact w_607
  · exact w_608
  · exact w_609
  · exact w_251) w_610, by decide, by decide, by decide +kernel⟩
theorem gw_L_140 : gWV "PaneScreenLaw" 140 y_M_click b_M_click 4 (some .int) 2 := ⟨gGood TW_good (fun w hw => by
  simp only [List.mem_cons, List.not_mem_nil, or_false] at hw
  rcases hw with rfl | rfl | rfl | rfl
  · exact w_611
  · exact w_612
  · exact w_613
  · exact w_251) w_614, by decide, by decide, by decide +kernel⟩
theorem gw_L_141 : gWV "PaneScreenLaw" 141 y_S_key b_S_key 2 (some .boolean) 1 := ⟨gGood TW_good (fun w hw => by
  simp only [List.mem_cons, List.not_mem_nil, or_false] at hw
  rcases hw with rfl | rfl | rfl | rfl
  · exact w_615
  · exact w_616
  · exact w_617
  · exact w_182) w_618, by decide, by decide, by decide +kernel⟩
theorem gw_L_145 : gWV "PaneScreenLaw" 145 y_M_key b_M_key 2 (some .boolean) 1 := ⟨gGood TW_good (fun w hw => by
  simp only [List.mem_cons, List.not_mem_nil, or_false] at hw
  rcases hw with rfl | rfl | rfl | rfl
  · exact w_619
  · exact w_620
  · exact w_621
  · exact w_251) w_622, by decide, by decide, by decide +kernel⟩
theorem gw_L_149 : gWV "PaneScreenLaw" 149 y_M_next b_M_next 3 (some .int) 0 := ⟨gGood TW_good (fun w hw => by
  simp only [List.mem_cons, List.not_mem_nil, or_false] at hw
  rcases hw with rfl | rfl | rfl | rfl
  · exact w_623
  · exact w_624
  · exact w_625
  · exact w_251) w_626, by decide, by decide, by decide +kernel⟩
theorem gw_L_152 : gWV "PaneScreenLaw" 152 y_M_event b_M_event 2 (some .int) 1 := ⟨gGood TW_good (fun w hw => by
  simp only [List.mem_cons, List.not_mem_nil, or_false] at hw
  rcases hw with rfl | rfl | rfl | rfl
  · exact w_627
  · exact w_628
  · exact w_629
  · exact w_251) w_630, by decide, by decide, by decide +kernel⟩
theorem gw_L_155 : gWV "PaneScreenLaw" 155 y_M_figure b_M_figure 2 (some .int) 1 := ⟨gGood TW_good (fun w hw => by
  simp only [List.mem_cons, List.not_mem_nil, or_false] at hw
  rcases hw with rfl | rfl | rfl | rfl
  · exact w_631
  · exact w_632
  · exact w_633
  · exact w_251) w_634, by decide, by decide, by decide +kernel⟩
theorem gwh_82 : gWH "PaneScreenLaw" 82 y_L_open b_L_open 7 [(0, 14, 17, 13), (0, 14, 21, 15)] 6 := ⟨gGoodH TW_good (fun w hw => by
  simp only [List.mem_cons, List.not_mem_nil, or_false] at hw
  rcases hw with rfl | rfl | rfl
  · exact w_635
  · exact w_636
  · exact w_637) w_638, by decide, by decide, by decide +kernel⟩
theorem gwh_91 : gWH "PaneScreenLaw" 91 y_L_close b_L_close 3 [(0, 5, 8, 21)] 2 := ⟨gGoodH TW_good (fun w hw => by
  simp only [List.mem_cons, List.not_mem_nil, or_false] at hw
  rcases hw with rfl | rfl | rfl
  · exact w_639
  · exact w_640
  · exact w_637) w_641, by decide, by decide, by decide +kernel⟩
theorem gwh_95 : gWH "PaneScreenLaw" 95 y_L_move b_L_move 5 [(0, 7, 10, 21), (0, 7, 14, 13)] 4 := ⟨gGoodH TW_good (fun w hw => by
  simp only [List.mem_cons, List.not_mem_nil, or_false] at hw
  rcases hw with rfl | rfl | rfl
  · exact w_642
  · exact w_643
  · exact w_637) w_644, by decide, by decide, by decide +kernel⟩
theorem gwh_99 : gWH "PaneScreenLaw" 99 y_L_raise b_L_raise 5 [(0, 17, 20, 21)] 4 := ⟨gGoodH TW_good (fun w hw => by
  simp only [List.mem_cons, List.not_mem_nil, or_false] at hw
  rcases hw with rfl | rfl | rfl
  · exact w_645
  · exact w_646
  · exact w_637) w_647, by decide, by decide, by decide +kernel⟩
theorem gwh_103 : gWH "PaneScreenLaw" 103 y_L_plot b_L_plot 7 [(0, 21, 24, 21), (0, 21, 28, 13)] 6 := ⟨gGoodH TW_good (fun w hw => by
  simp only [List.mem_cons, List.not_mem_nil, or_false] at hw
  rcases hw with rfl | rfl | rfl
  · exact w_648
  · exact w_649
  · exact w_637) w_650, by decide, by decide, by decide +kernel⟩
theorem gwh_106 : gWH "PaneScreenLaw" 106 y_L_fill b_L_fill 8 [(0, 16, 19, 21), (0, 16, 23, 13)] 7 := ⟨gGoodH TW_good (fun w hw => by
  simp only [List.mem_cons, List.not_mem_nil, or_false] at hw
  rcases hw with rfl | rfl | rfl
  · exact w_651
  · exact w_652
  · exact w_637) w_653, by decide, by decide, by decide +kernel⟩
theorem gwh_110 : gWH "PaneScreenLaw" 110 y_L_pen b_L_pen 5 [(0, 7, 10, 21), (0, 7, 14, 13)] 4 := ⟨gGoodH TW_good (fun w hw => by
  simp only [List.mem_cons, List.not_mem_nil, or_false] at hw
  rcases hw with rfl | rfl | rfl
  · exact w_654
  · exact w_655
  · exact w_637) w_656, by decide, by decide, by decide +kernel⟩
theorem gwh_113 : gWH "PaneScreenLaw" 113 y_L_line b_L_line 7 [(0, 14, 17, 21), (0, 14, 21, 13)] 6 := ⟨gGoodH TW_good (fun w hw => by
  simp only [List.mem_cons, List.not_mem_nil, or_false] at hw
  rcases hw with rfl | rfl | rfl
  · exact w_657
  · exact w_658
  · exact w_637) w_659, by decide, by decide, by decide +kernel⟩
theorem gwh_116 : gWH "PaneScreenLaw" 116 y_L_scroll b_L_scroll 5 [(0, 7, 10, 21), (0, 7, 14, 13)] 4 := ⟨gGoodH TW_good (fun w hw => by
  simp only [List.mem_cons, List.not_mem_nil, or_false] at hw
  rcases hw with rfl | rfl | rfl
  · exact w_660
  · exact w_661
  · exact w_637) w_662, by decide, by decide, by decide +kernel⟩
theorem gwh_123 : gWH "PaneScreenLaw" 123 y_L_screen b_L_screen 5 [(0, 10, 13, 52)] 4 := ⟨gGoodH TW_good (fun w hw => by
  simp only [List.mem_cons, List.not_mem_nil, or_false] at hw
  rcases hw with rfl | rfl | rfl
  · exact w_663
  · exact w_664
  · exact w_637) w_665, by decide, by decide, by decide +kernel⟩
theorem gwh_127 : gWH "PaneScreenLaw" 127 y_L_picture b_L_picture 6 [(0, 12, 15, 21), (0, 12, 19, 52)] 5 := ⟨gGoodH TW_good (fun w hw => by
  simp only [List.mem_cons, List.not_mem_nil, or_false] at hw
  rcases hw with rfl | rfl | rfl
  · exact w_666
  · exact w_667
  · exact w_637) w_668, by decide, by decide, by decide +kernel⟩
theorem gwh_131 : gWH "PaneScreenLaw" 131 y_L_at b_L_at 5 [(0, 10, 13, 52)] 4 := ⟨gGoodH TW_good (fun w hw => by
  simp only [List.mem_cons, List.not_mem_nil, or_false] at hw
  rcases hw with rfl | rfl | rfl
  · exact w_669
  · exact w_670
  · exact w_637) w_671, by decide, by decide, by decide +kernel⟩
theorem gwh_134 : gWH "PaneScreenLaw" 134 y_L_visible b_L_visible 4 [(0, 9, 12, 21)] 3 := ⟨gGoodH TW_good (fun w hw => by
  simp only [List.mem_cons, List.not_mem_nil, or_false] at hw
  rcases hw with rfl | rfl | rfl
  · exact w_672
  · exact w_673
  · exact w_637) w_674, by decide, by decide, by decide +kernel⟩
theorem gwh_138 : gWH "PaneScreenLaw" 138 y_L_click b_L_click 5 [(0, 10, 13, 52)] 4 := ⟨gGoodH TW_good (fun w hw => by
  simp only [List.mem_cons, List.not_mem_nil, or_false] at hw
  rcases hw with rfl | rfl | rfl
  · exact w_675
  · exact w_676
  · exact w_637) w_677, by decide, by decide, by decide +kernel⟩
theorem gwh_146 : gWH "PaneScreenLaw" 146 y_L_next b_L_next 3 [(0, 8, 11, 21)] 2 := ⟨gGoodH TW_good (fun w hw => by
  simp only [List.mem_cons, List.not_mem_nil, or_false] at hw
  rcases hw with rfl | rfl | rfl
  · exact w_678
  · exact w_679
  · exact w_637) w_680, by decide, by decide, by decide +kernel⟩
theorem gwh_150 : gWH "PaneScreenLaw" 150 y_L_event b_L_event 4 [(0, 9, 12, 15), (0, 9, 15, 13)] 3 := ⟨gGoodH TW_good (fun w hw => by
  simp only [List.mem_cons, List.not_mem_nil, or_false] at hw
  rcases hw with rfl | rfl | rfl
  · exact w_681
  · exact w_682
  · exact w_637) w_683, by decide, by decide, by decide +kernel⟩
theorem gwh_153 : gWH "PaneScreenLaw" 153 y_L_figure b_L_figure 4 [(0, 9, 12, 13)] 3 := ⟨gGoodH TW_good (fun w hw => by
  simp only [List.mem_cons, List.not_mem_nil, or_false] at hw
  rcases hw with rfl | rfl | rfl
  · exact w_684
  · exact w_685
  · exact w_637) w_686, by decide, by decide, by decide +kernel⟩
