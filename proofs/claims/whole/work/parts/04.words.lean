set_option maxRecDepth 100000 in
theorem w_0 : (.laysFinal "PaneScreen" "PaneScreen" "shown" "[I" : Cond) ∈ TW := TW_at (n := 204) (by decide +kernel) (by decide +kernel)
set_option maxRecDepth 100000 in
theorem w_1 : (.laysFinal "PaneScreen" "PaneScreen" "panes" "[LPaneScreen$Pane;" : Cond) ∈ TW := TW_at (n := 206) (by decide +kernel) (by decide +kernel)
set_option maxRecDepth 100000 in
theorem w_2 : (.laysFinal "PaneScreen" "PaneScreen" "order" "LPaneScreen$Order;" : Cond) ∈ TW := TW_at (n := 208) (by decide +kernel) (by decide +kernel)
set_option maxRecDepth 100000 in
theorem w_3 : (.laysFinal "PaneScreen" "PaneScreen" "store" "LPaneScreen$Store;" : Cond) ∈ TW := TW_at (n := 210) (by decide +kernel) (by decide +kernel)
set_option maxRecDepth 100000 in
theorem w_4 : (.laysFinal "PaneScreen" "PaneScreen" "damage" "LPaneScreen$Damage;" : Cond) ∈ TW := TW_at (n := 212) (by decide +kernel) (by decide +kernel)
set_option maxRecDepth 100000 in
theorem w_5 : (.laysFinal "PaneScreen" "PaneScreen" "events" "LPaneScreen$EventLine;" : Cond) ∈ TW := TW_at (n := 214) (by decide +kernel) (by decide +kernel)
set_option maxRecDepth 100000 in
theorem w_6 : (.lays "PaneScreen" "PaneScreen" "focus" "I" : Cond) ∈ TW := TW_at (n := 216) (by decide +kernel) (by decide +kernel)
set_option maxRecDepth 100000 in
theorem w_7 : (.lays "PaneScreen" "PaneScreen" "painted" "I" : Cond) ∈ TW := TW_at (n := 218) (by decide +kernel) (by decide +kernel)
set_option maxRecDepth 100000 in
theorem w_8 : (.laysFinal "PaneScreen$Damage" "PaneScreen$Damage" "lefts" "[I" : Cond) ∈ TW := TW_at (n := 142) (by decide +kernel) (by decide +kernel)
set_option maxRecDepth 100000 in
theorem w_9 : (.laysFinal "PaneScreen$Damage" "PaneScreen$Damage" "tops" "[I" : Cond) ∈ TW := TW_at (n := 144) (by decide +kernel) (by decide +kernel)
set_option maxRecDepth 100000 in
theorem w_10 : (.laysFinal "PaneScreen$Damage" "PaneScreen$Damage" "rights" "[I" : Cond) ∈ TW := TW_at (n := 146) (by decide +kernel) (by decide +kernel)
set_option maxRecDepth 100000 in
theorem w_11 : (.laysFinal "PaneScreen$Damage" "PaneScreen$Damage" "bottoms" "[I" : Cond) ∈ TW := TW_at (n := 148) (by decide +kernel) (by decide +kernel)
set_option maxRecDepth 100000 in
theorem w_12 : (.lays "PaneScreen$Damage" "PaneScreen$Damage" "count" "I" : Cond) ∈ TW := TW_at (n := 150) (by decide +kernel) (by decide +kernel)
set_option maxRecDepth 100000 in
theorem w_13 : (.laysFinal "PaneScreen$EventLine" "PaneScreen$EventLine" "kinds" "[I" : Cond) ∈ TW := TW_at (n := 175) (by decide +kernel) (by decide +kernel)
set_option maxRecDepth 100000 in
theorem w_14 : (.laysFinal "PaneScreen$EventLine" "PaneScreen$EventLine" "windows" "[I" : Cond) ∈ TW := TW_at (n := 177) (by decide +kernel) (by decide +kernel)
set_option maxRecDepth 100000 in
theorem w_15 : (.laysFinal "PaneScreen$EventLine" "PaneScreen$EventLine" "ones" "[I" : Cond) ∈ TW := TW_at (n := 179) (by decide +kernel) (by decide +kernel)
set_option maxRecDepth 100000 in
theorem w_16 : (.laysFinal "PaneScreen$EventLine" "PaneScreen$EventLine" "twos" "[I" : Cond) ∈ TW := TW_at (n := 181) (by decide +kernel) (by decide +kernel)
set_option maxRecDepth 100000 in
theorem w_17 : (.lays "PaneScreen$EventLine" "PaneScreen$EventLine" "count" "I" : Cond) ∈ TW := TW_at (n := 183) (by decide +kernel) (by decide +kernel)
set_option maxRecDepth 100000 in
theorem w_18 : (.lays "PaneScreen$EventLine" "PaneScreen$EventLine" "dropped" "I" : Cond) ∈ TW := TW_at (n := 185) (by decide +kernel) (by decide +kernel)
set_option maxRecDepth 100000 in
theorem w_19 : (.lays "PaneScreen$EventLine" "PaneScreen$EventLine" "takenKind" "I" : Cond) ∈ TW := TW_at (n := 187) (by decide +kernel) (by decide +kernel)
set_option maxRecDepth 100000 in
theorem w_20 : (.lays "PaneScreen$EventLine" "PaneScreen$EventLine" "takenWindow" "I" : Cond) ∈ TW := TW_at (n := 189) (by decide +kernel) (by decide +kernel)
set_option maxRecDepth 100000 in
theorem w_21 : (.lays "PaneScreen$EventLine" "PaneScreen$EventLine" "takenOne" "I" : Cond) ∈ TW := TW_at (n := 191) (by decide +kernel) (by decide +kernel)
set_option maxRecDepth 100000 in
theorem w_22 : (.lays "PaneScreen$EventLine" "PaneScreen$EventLine" "takenTwo" "I" : Cond) ∈ TW := TW_at (n := 193) (by decide +kernel) (by decide +kernel)
set_option maxRecDepth 100000 in
theorem w_23 : (.laysFinal "PaneScreen$Order" "PaneScreen$Order" "windows" "[I" : Cond) ∈ TW := TW_at (n := 106) (by decide +kernel) (by decide +kernel)
set_option maxRecDepth 100000 in
theorem w_24 : (.lays "PaneScreen$Order" "PaneScreen$Order" "count" "I" : Cond) ∈ TW := TW_at (n := 108) (by decide +kernel) (by decide +kernel)
set_option maxRecDepth 100000 in
theorem w_25 : (.lays "PaneScreen$Pane" "PaneScreen$Pane" "used" "Z" : Cond) ∈ TW := TW_at (n := 78) (by decide +kernel) (by decide +kernel)
set_option maxRecDepth 100000 in
theorem w_26 : (.lays "PaneScreen$Pane" "PaneScreen$Pane" "x" "I" : Cond) ∈ TW := TW_at (n := 80) (by decide +kernel) (by decide +kernel)
set_option maxRecDepth 100000 in
theorem w_27 : (.lays "PaneScreen$Pane" "PaneScreen$Pane" "y" "I" : Cond) ∈ TW := TW_at (n := 82) (by decide +kernel) (by decide +kernel)
set_option maxRecDepth 100000 in
theorem w_28 : (.lays "PaneScreen$Pane" "PaneScreen$Pane" "width" "I" : Cond) ∈ TW := TW_at (n := 84) (by decide +kernel) (by decide +kernel)
set_option maxRecDepth 100000 in
theorem w_29 : (.lays "PaneScreen$Pane" "PaneScreen$Pane" "height" "I" : Cond) ∈ TW := TW_at (n := 86) (by decide +kernel) (by decide +kernel)
set_option maxRecDepth 100000 in
theorem w_30 : (.lays "PaneScreen$Pane" "PaneScreen$Pane" "start" "I" : Cond) ∈ TW := TW_at (n := 88) (by decide +kernel) (by decide +kernel)
set_option maxRecDepth 100000 in
theorem w_31 : (.lays "PaneScreen$Pane" "PaneScreen$Pane" "penU" "I" : Cond) ∈ TW := TW_at (n := 90) (by decide +kernel) (by decide +kernel)
set_option maxRecDepth 100000 in
theorem w_32 : (.lays "PaneScreen$Pane" "PaneScreen$Pane" "penV" "I" : Cond) ∈ TW := TW_at (n := 92) (by decide +kernel) (by decide +kernel)
set_option maxRecDepth 100000 in
theorem w_33 : (.laysFinal "PaneScreen$Store" "PaneScreen$Store" "colours" "[I" : Cond) ∈ TW := TW_at (n := 122) (by decide +kernel) (by decide +kernel)
set_option maxRecDepth 100000 in
theorem w_34 : (.laysFinal "PaneScreen$Store" "PaneScreen$Store" "old" "[I" : Cond) ∈ TW := TW_at (n := 124) (by decide +kernel) (by decide +kernel)
set_option maxRecDepth 100000 in
theorem w_35 : (.laysFinal "PaneScreen$Store" "PaneScreen$Store" "taken" "[Z" : Cond) ∈ TW := TW_at (n := 126) (by decide +kernel) (by decide +kernel)
set_option maxRecDepth 100000 in
theorem w_36 : (.lays "PaneScreenModel" "PaneScreenModel" "code" "I" : Cond) ∈ TW := TW_at (n := 686) (by decide +kernel) (by decide +kernel)
set_option maxRecDepth 100000 in
theorem w_37 : (.laysFinal "PaneScreenModel" "PaneScreenModel" "colours" "[I" : Cond) ∈ TW := TW_at (n := 688) (by decide +kernel) (by decide +kernel)
set_option maxRecDepth 100000 in
theorem w_38 : (.laysFinal "PaneScreenModel" "PaneScreenModel" "open" "[Z" : Cond) ∈ TW := TW_at (n := 690) (by decide +kernel) (by decide +kernel)
set_option maxRecDepth 100000 in
theorem w_39 : (.laysFinal "PaneScreenModel" "PaneScreenModel" "px" "[I" : Cond) ∈ TW := TW_at (n := 692) (by decide +kernel) (by decide +kernel)
set_option maxRecDepth 100000 in
theorem w_40 : (.laysFinal "PaneScreenModel" "PaneScreenModel" "py" "[I" : Cond) ∈ TW := TW_at (n := 694) (by decide +kernel) (by decide +kernel)
set_option maxRecDepth 100000 in
theorem w_41 : (.laysFinal "PaneScreenModel" "PaneScreenModel" "width" "[I" : Cond) ∈ TW := TW_at (n := 696) (by decide +kernel) (by decide +kernel)
set_option maxRecDepth 100000 in
theorem w_42 : (.laysFinal "PaneScreenModel" "PaneScreenModel" "height" "[I" : Cond) ∈ TW := TW_at (n := 698) (by decide +kernel) (by decide +kernel)
set_option maxRecDepth 100000 in
theorem w_43 : (.laysFinal "PaneScreenModel" "PaneScreenModel" "penU" "[I" : Cond) ∈ TW := TW_at (n := 700) (by decide +kernel) (by decide +kernel)
set_option maxRecDepth 100000 in
theorem w_44 : (.laysFinal "PaneScreenModel" "PaneScreenModel" "penV" "[I" : Cond) ∈ TW := TW_at (n := 702) (by decide +kernel) (by decide +kernel)
set_option maxRecDepth 100000 in
theorem w_45 : (.laysFinal "PaneScreenModel" "PaneScreenModel" "start" "[I" : Cond) ∈ TW := TW_at (n := 704) (by decide +kernel) (by decide +kernel)
set_option maxRecDepth 100000 in
theorem w_46 : (.laysFinal "PaneScreenModel" "PaneScreenModel" "rank" "[I" : Cond) ∈ TW := TW_at (n := 706) (by decide +kernel) (by decide +kernel)
set_option maxRecDepth 100000 in
theorem w_47 : (.lays "PaneScreenModel" "PaneScreenModel" "front" "I" : Cond) ∈ TW := TW_at (n := 708) (by decide +kernel) (by decide +kernel)
set_option maxRecDepth 100000 in
theorem w_48 : (.lays "PaneScreenModel" "PaneScreenModel" "back" "I" : Cond) ∈ TW := TW_at (n := 710) (by decide +kernel) (by decide +kernel)
set_option maxRecDepth 100000 in
theorem w_49 : (.laysFinal "PaneScreenModel" "PaneScreenModel" "pictures" "[I" : Cond) ∈ TW := TW_at (n := 712) (by decide +kernel) (by decide +kernel)
set_option maxRecDepth 100000 in
theorem w_50 : (.laysFinal "PaneScreenModel" "PaneScreenModel" "copy" "[I" : Cond) ∈ TW := TW_at (n := 714) (by decide +kernel) (by decide +kernel)
set_option maxRecDepth 100000 in
theorem w_51 : (.lays "PaneScreenModel" "PaneScreenModel" "focus" "I" : Cond) ∈ TW := TW_at (n := 716) (by decide +kernel) (by decide +kernel)
set_option maxRecDepth 100000 in
theorem w_52 : (.lays "PaneScreenModel" "PaneScreenModel" "damaged" "I" : Cond) ∈ TW := TW_at (n := 718) (by decide +kernel) (by decide +kernel)
set_option maxRecDepth 100000 in
theorem w_53 : (.laysFinal "PaneScreenModel" "PaneScreenModel" "x0" "[I" : Cond) ∈ TW := TW_at (n := 720) (by decide +kernel) (by decide +kernel)
set_option maxRecDepth 100000 in
theorem w_54 : (.laysFinal "PaneScreenModel" "PaneScreenModel" "y0" "[I" : Cond) ∈ TW := TW_at (n := 722) (by decide +kernel) (by decide +kernel)
set_option maxRecDepth 100000 in
theorem w_55 : (.laysFinal "PaneScreenModel" "PaneScreenModel" "x1" "[I" : Cond) ∈ TW := TW_at (n := 724) (by decide +kernel) (by decide +kernel)
set_option maxRecDepth 100000 in
theorem w_56 : (.laysFinal "PaneScreenModel" "PaneScreenModel" "y1" "[I" : Cond) ∈ TW := TW_at (n := 726) (by decide +kernel) (by decide +kernel)
set_option maxRecDepth 100000 in
theorem w_57 : (.lays "PaneScreenModel" "PaneScreenModel" "some" "Z" : Cond) ∈ TW := TW_at (n := 728) (by decide +kernel) (by decide +kernel)
set_option maxRecDepth 100000 in
theorem w_58 : (.lays "PaneScreenModel" "PaneScreenModel" "lowU" "I" : Cond) ∈ TW := TW_at (n := 730) (by decide +kernel) (by decide +kernel)
set_option maxRecDepth 100000 in
theorem w_59 : (.lays "PaneScreenModel" "PaneScreenModel" "lowV" "I" : Cond) ∈ TW := TW_at (n := 732) (by decide +kernel) (by decide +kernel)
set_option maxRecDepth 100000 in
theorem w_60 : (.lays "PaneScreenModel" "PaneScreenModel" "highU" "I" : Cond) ∈ TW := TW_at (n := 734) (by decide +kernel) (by decide +kernel)
set_option maxRecDepth 100000 in
theorem w_61 : (.lays "PaneScreenModel" "PaneScreenModel" "highV" "I" : Cond) ∈ TW := TW_at (n := 736) (by decide +kernel) (by decide +kernel)
set_option maxRecDepth 100000 in
theorem w_62 : (.lays "PaneScreenModel" "PaneScreenModel" "events" "I" : Cond) ∈ TW := TW_at (n := 738) (by decide +kernel) (by decide +kernel)
set_option maxRecDepth 100000 in
theorem w_63 : (.laysFinal "PaneScreenModel" "PaneScreenModel" "kinds" "[I" : Cond) ∈ TW := TW_at (n := 740) (by decide +kernel) (by decide +kernel)
set_option maxRecDepth 100000 in
theorem w_64 : (.laysFinal "PaneScreenModel" "PaneScreenModel" "whose" "[I" : Cond) ∈ TW := TW_at (n := 742) (by decide +kernel) (by decide +kernel)
set_option maxRecDepth 100000 in
theorem w_65 : (.laysFinal "PaneScreenModel" "PaneScreenModel" "first" "[I" : Cond) ∈ TW := TW_at (n := 744) (by decide +kernel) (by decide +kernel)
set_option maxRecDepth 100000 in
theorem w_66 : (.laysFinal "PaneScreenModel" "PaneScreenModel" "second" "[I" : Cond) ∈ TW := TW_at (n := 746) (by decide +kernel) (by decide +kernel)
set_option maxRecDepth 100000 in
theorem w_67 : (.lays "PaneScreenModel" "PaneScreenModel" "taken" "Z" : Cond) ∈ TW := TW_at (n := 748) (by decide +kernel) (by decide +kernel)
set_option maxRecDepth 100000 in
theorem w_68 : (.lays "PaneScreenModel" "PaneScreenModel" "takenWindow" "I" : Cond) ∈ TW := TW_at (n := 750) (by decide +kernel) (by decide +kernel)
set_option maxRecDepth 100000 in
theorem w_69 : (.lays "PaneScreenModel" "PaneScreenModel" "takenFirst" "I" : Cond) ∈ TW := TW_at (n := 752) (by decide +kernel) (by decide +kernel)
set_option maxRecDepth 100000 in
theorem w_70 : (.lays "PaneScreenModel" "PaneScreenModel" "takenSecond" "I" : Cond) ∈ TW := TW_at (n := 754) (by decide +kernel) (by decide +kernel)
set_option maxRecDepth 100000 in
theorem w_71 : (.lays "PaneScreenModel" "PaneScreenModel" "dropped" "I" : Cond) ∈ TW := TW_at (n := 756) (by decide +kernel) (by decide +kernel)
set_option maxRecDepth 100000 in
theorem w_72 : (.lays "PaneScreenModel" "PaneScreenModel" "painted" "I" : Cond) ∈ TW := TW_at (n := 758) (by decide +kernel) (by decide +kernel)
set_option maxRecDepth 100000 in
theorem w_73 : (.fieldLink "PaneScreen$Damage" 9 "PaneScreen$Damage" "lefts" "[I" : Cond) ∈ TW := TW_at (n := 136) (by decide +kernel) (by decide +kernel)
set_option maxRecDepth 100000 in
theorem w_74 : (.fieldLink "PaneScreen$Damage" 15 "PaneScreen$Damage" "tops" "[I" : Cond) ∈ TW := TW_at (n := 137) (by decide +kernel) (by decide +kernel)
set_option maxRecDepth 100000 in
theorem w_75 : (.fieldLink "PaneScreen$Damage" 18 "PaneScreen$Damage" "rights" "[I" : Cond) ∈ TW := TW_at (n := 138) (by decide +kernel) (by decide +kernel)
set_option maxRecDepth 100000 in
theorem w_76 : (.fieldLink "PaneScreen$Damage" 21 "PaneScreen$Damage" "bottoms" "[I" : Cond) ∈ TW := TW_at (n := 139) (by decide +kernel) (by decide +kernel)
set_option maxRecDepth 100000 in
theorem w_77 : (.fieldLink "PaneScreen$Damage" 33 "PaneScreen$Damage" "count" "I" : Cond) ∈ TW := TW_at (n := 140) (by decide +kernel) (by decide +kernel)
set_option maxRecDepth 100000 in
theorem w_78 : (.fieldLink "PaneScreen$EventLine" 9 "PaneScreen$EventLine" "kinds" "[I" : Cond) ∈ TW := TW_at (n := 159) (by decide +kernel) (by decide +kernel)
set_option maxRecDepth 100000 in
theorem w_79 : (.fieldLink "PaneScreen$EventLine" 15 "PaneScreen$EventLine" "windows" "[I" : Cond) ∈ TW := TW_at (n := 160) (by decide +kernel) (by decide +kernel)
set_option maxRecDepth 100000 in
theorem w_80 : (.fieldLink "PaneScreen$EventLine" 18 "PaneScreen$EventLine" "ones" "[I" : Cond) ∈ TW := TW_at (n := 161) (by decide +kernel) (by decide +kernel)
set_option maxRecDepth 100000 in
theorem w_81 : (.fieldLink "PaneScreen$EventLine" 21 "PaneScreen$EventLine" "twos" "[I" : Cond) ∈ TW := TW_at (n := 162) (by decide +kernel) (by decide +kernel)
set_option maxRecDepth 100000 in
theorem w_82 : (.fieldLink "PaneScreen$EventLine" 28 "PaneScreen$EventLine" "count" "I" : Cond) ∈ TW := TW_at (n := 163) (by decide +kernel) (by decide +kernel)
set_option maxRecDepth 100000 in
theorem w_83 : (.fieldLink "PaneScreen$EventLine" 31 "PaneScreen$EventLine" "dropped" "I" : Cond) ∈ TW := TW_at (n := 165) (by decide +kernel) (by decide +kernel)
set_option maxRecDepth 100000 in
theorem w_84 : (.fieldLink "PaneScreenModel" 7 "PaneScreenModel" "colours" "[I" : Cond) ∈ TW := TW_at (n := 650) (by decide +kernel) (by decide +kernel)
set_option maxRecDepth 100000 in
theorem w_85 : (.fieldLink "PaneScreenModel" 13 "PaneScreenModel" "open" "[Z" : Cond) ∈ TW := TW_at (n := 651) (by decide +kernel) (by decide +kernel)
set_option maxRecDepth 100000 in
theorem w_86 : (.fieldLink "PaneScreenModel" 17 "PaneScreenModel" "px" "[I" : Cond) ∈ TW := TW_at (n := 652) (by decide +kernel) (by decide +kernel)
set_option maxRecDepth 100000 in
theorem w_87 : (.fieldLink "PaneScreenModel" 20 "PaneScreenModel" "py" "[I" : Cond) ∈ TW := TW_at (n := 653) (by decide +kernel) (by decide +kernel)
set_option maxRecDepth 100000 in
theorem w_88 : (.fieldLink "PaneScreenModel" 23 "PaneScreenModel" "width" "[I" : Cond) ∈ TW := TW_at (n := 654) (by decide +kernel) (by decide +kernel)
set_option maxRecDepth 100000 in
theorem w_89 : (.fieldLink "PaneScreenModel" 26 "PaneScreenModel" "height" "[I" : Cond) ∈ TW := TW_at (n := 655) (by decide +kernel) (by decide +kernel)
set_option maxRecDepth 100000 in
theorem w_90 : (.fieldLink "PaneScreenModel" 29 "PaneScreenModel" "penU" "[I" : Cond) ∈ TW := TW_at (n := 656) (by decide +kernel) (by decide +kernel)
set_option maxRecDepth 100000 in
theorem w_91 : (.fieldLink "PaneScreenModel" 32 "PaneScreenModel" "penV" "[I" : Cond) ∈ TW := TW_at (n := 657) (by decide +kernel) (by decide +kernel)
set_option maxRecDepth 100000 in
theorem w_92 : (.fieldLink "PaneScreenModel" 35 "PaneScreenModel" "start" "[I" : Cond) ∈ TW := TW_at (n := 658) (by decide +kernel) (by decide +kernel)
set_option maxRecDepth 100000 in
theorem w_93 : (.fieldLink "PaneScreenModel" 38 "PaneScreenModel" "rank" "[I" : Cond) ∈ TW := TW_at (n := 659) (by decide +kernel) (by decide +kernel)
set_option maxRecDepth 100000 in
theorem w_94 : (.fieldLink "PaneScreenModel" 41 "PaneScreenModel" "pictures" "[I" : Cond) ∈ TW := TW_at (n := 662) (by decide +kernel) (by decide +kernel)
set_option maxRecDepth 100000 in
theorem w_95 : (.fieldLink "PaneScreenModel" 44 "PaneScreenModel" "copy" "[I" : Cond) ∈ TW := TW_at (n := 663) (by decide +kernel) (by decide +kernel)
set_option maxRecDepth 100000 in
theorem w_96 : (.fieldLink "PaneScreenModel" 47 "PaneScreenModel" "focus" "I" : Cond) ∈ TW := TW_at (n := 664) (by decide +kernel) (by decide +kernel)
set_option maxRecDepth 100000 in
theorem w_97 : (.fieldLink "PaneScreenModel" 51 "PaneScreenModel" "x0" "[I" : Cond) ∈ TW := TW_at (n := 666) (by decide +kernel) (by decide +kernel)
set_option maxRecDepth 100000 in
theorem w_98 : (.fieldLink "PaneScreenModel" 54 "PaneScreenModel" "y0" "[I" : Cond) ∈ TW := TW_at (n := 667) (by decide +kernel) (by decide +kernel)
set_option maxRecDepth 100000 in
theorem w_99 : (.fieldLink "PaneScreenModel" 57 "PaneScreenModel" "x1" "[I" : Cond) ∈ TW := TW_at (n := 668) (by decide +kernel) (by decide +kernel)
set_option maxRecDepth 100000 in
theorem w_100 : (.fieldLink "PaneScreenModel" 60 "PaneScreenModel" "y1" "[I" : Cond) ∈ TW := TW_at (n := 669) (by decide +kernel) (by decide +kernel)
set_option maxRecDepth 100000 in
theorem w_101 : (.fieldLink "PaneScreenModel" 63 "PaneScreenModel" "kinds" "[I" : Cond) ∈ TW := TW_at (n := 676) (by decide +kernel) (by decide +kernel)
set_option maxRecDepth 100000 in
theorem w_102 : (.fieldLink "PaneScreenModel" 66 "PaneScreenModel" "whose" "[I" : Cond) ∈ TW := TW_at (n := 677) (by decide +kernel) (by decide +kernel)
set_option maxRecDepth 100000 in
theorem w_103 : (.fieldLink "PaneScreenModel" 69 "PaneScreenModel" "first" "[I" : Cond) ∈ TW := TW_at (n := 678) (by decide +kernel) (by decide +kernel)
set_option maxRecDepth 100000 in
theorem w_104 : (.fieldLink "PaneScreenModel" 72 "PaneScreenModel" "second" "[I" : Cond) ∈ TW := TW_at (n := 679) (by decide +kernel) (by decide +kernel)
set_option maxRecDepth 100000 in
theorem w_105 : (.fieldLink "PaneScreenModel" 75 "PaneScreenModel" "code" "I" : Cond) ∈ TW := TW_at (n := 649) (by decide +kernel) (by decide +kernel)
set_option maxRecDepth 100000 in
theorem w_106 : (.fieldLink "PaneScreenModel" 78 "PaneScreenModel" "damaged" "I" : Cond) ∈ TW := TW_at (n := 665) (by decide +kernel) (by decide +kernel)
set_option maxRecDepth 100000 in
theorem w_107 : (.fieldLink "PaneScreenModel" 89 "PaneScreenModel" "some" "Z" : Cond) ∈ TW := TW_at (n := 670) (by decide +kernel) (by decide +kernel)
set_option maxRecDepth 100000 in
theorem w_108 : (.fieldLink "PaneScreenModel" 93 "PaneScreenModel" "lowU" "I" : Cond) ∈ TW := TW_at (n := 671) (by decide +kernel) (by decide +kernel)
set_option maxRecDepth 100000 in
theorem w_109 : (.fieldLink "PaneScreenModel" 96 "PaneScreenModel" "lowV" "I" : Cond) ∈ TW := TW_at (n := 672) (by decide +kernel) (by decide +kernel)
set_option maxRecDepth 100000 in
theorem w_110 : (.fieldLink "PaneScreenModel" 99 "PaneScreenModel" "highU" "I" : Cond) ∈ TW := TW_at (n := 673) (by decide +kernel) (by decide +kernel)
set_option maxRecDepth 100000 in
theorem w_111 : (.fieldLink "PaneScreenModel" 102 "PaneScreenModel" "highV" "I" : Cond) ∈ TW := TW_at (n := 674) (by decide +kernel) (by decide +kernel)
set_option maxRecDepth 100000 in
theorem w_112 : (.fieldLink "PaneScreenModel" 120 "PaneScreenModel" "front" "I" : Cond) ∈ TW := TW_at (n := 660) (by decide +kernel) (by decide +kernel)
set_option maxRecDepth 100000 in
theorem w_113 : (.fieldLink "PaneScreenModel" 130 "PaneScreenModel" "events" "I" : Cond) ∈ TW := TW_at (n := 675) (by decide +kernel) (by decide +kernel)
set_option maxRecDepth 100000 in
theorem w_114 : (.fieldLink "PaneScreenModel" 140 "PaneScreenModel" "back" "I" : Cond) ∈ TW := TW_at (n := 661) (by decide +kernel) (by decide +kernel)
set_option maxRecDepth 100000 in
theorem w_115 : (.fieldLink "PaneScreenModel" 168 "PaneScreenModel" "painted" "I" : Cond) ∈ TW := TW_at (n := 685) (by decide +kernel) (by decide +kernel)
set_option maxRecDepth 100000 in
theorem w_116 : (.fieldLink "PaneScreenModel" 174 "PaneScreenModel" "dropped" "I" : Cond) ∈ TW := TW_at (n := 684) (by decide +kernel) (by decide +kernel)
set_option maxRecDepth 100000 in
theorem w_117 : (.fieldLink "PaneScreenModel" 180 "PaneScreenModel" "taken" "Z" : Cond) ∈ TW := TW_at (n := 680) (by decide +kernel) (by decide +kernel)
set_option maxRecDepth 100000 in
theorem w_118 : (.fieldLink "PaneScreenModel" 183 "PaneScreenModel" "takenWindow" "I" : Cond) ∈ TW := TW_at (n := 681) (by decide +kernel) (by decide +kernel)
set_option maxRecDepth 100000 in
theorem w_119 : (.fieldLink "PaneScreenModel" 186 "PaneScreenModel" "takenFirst" "I" : Cond) ∈ TW := TW_at (n := 682) (by decide +kernel) (by decide +kernel)
set_option maxRecDepth 100000 in
theorem w_120 : (.fieldLink "PaneScreenModel" 189 "PaneScreenModel" "takenSecond" "I" : Cond) ∈ TW := TW_at (n := 683) (by decide +kernel) (by decide +kernel)
set_option maxRecDepth 100000 in
theorem w_121 : (.fieldLink "PaneScreen$Order" 9 "PaneScreen$Order" "windows" "[I" : Cond) ∈ TW := TW_at (n := 102) (by decide +kernel) (by decide +kernel)
set_option maxRecDepth 100000 in
theorem w_122 : (.fieldLink "PaneScreen$Order" 15 "PaneScreen$Order" "count" "I" : Cond) ∈ TW := TW_at (n := 104) (by decide +kernel) (by decide +kernel)
set_option maxRecDepth 100000 in
theorem w_123 : (.fieldLink "PaneScreen$Pane" 13 "PaneScreen$Pane" "start" "I" : Cond) ∈ TW := TW_at (n := 72) (by decide +kernel) (by decide +kernel)
set_option maxRecDepth 100000 in
theorem w_124 : (.fieldLink "PaneScreen$Pane" 17 "PaneScreen$Pane" "width" "I" : Cond) ∈ TW := TW_at (n := 68) (by decide +kernel) (by decide +kernel)
set_option maxRecDepth 100000 in
theorem w_125 : (.fieldLink "PaneScreen$Pane" 20 "PaneScreen$Pane" "height" "I" : Cond) ∈ TW := TW_at (n := 70) (by decide +kernel) (by decide +kernel)
set_option maxRecDepth 100000 in
theorem w_126 : (.fieldLink "PaneScreen$Pane" 27 "PaneScreen$Pane" "x" "I" : Cond) ∈ TW := TW_at (n := 64) (by decide +kernel) (by decide +kernel)
set_option maxRecDepth 100000 in
theorem w_127 : (.fieldLink "PaneScreen$Pane" 30 "PaneScreen$Pane" "y" "I" : Cond) ∈ TW := TW_at (n := 66) (by decide +kernel) (by decide +kernel)
set_option maxRecDepth 100000 in
theorem w_128 : (.fieldLink "PaneScreen" 9 "PaneScreen" "shown" "[I" : Cond) ∈ TW := TW_at (n := 196) (by decide +kernel) (by decide +kernel)
set_option maxRecDepth 100000 in
theorem w_129 : (.fieldLink "PaneScreen" 15 "PaneScreen" "panes" "[LPaneScreen$Pane;" : Cond) ∈ TW := TW_at (n := 197) (by decide +kernel) (by decide +kernel)
set_option maxRecDepth 100000 in
theorem w_130 : (.fieldLink "PaneScreen" 23 "PaneScreen" "order" "LPaneScreen$Order;" : Cond) ∈ TW := TW_at (n := 198) (by decide +kernel) (by decide +kernel)
set_option maxRecDepth 100000 in
theorem w_131 : (.fieldLink "PaneScreen" 30 "PaneScreen" "store" "LPaneScreen$Store;" : Cond) ∈ TW := TW_at (n := 199) (by decide +kernel) (by decide +kernel)
set_option maxRecDepth 100000 in
theorem w_132 : (.fieldLink "PaneScreen" 37 "PaneScreen" "damage" "LPaneScreen$Damage;" : Cond) ∈ TW := TW_at (n := 200) (by decide +kernel) (by decide +kernel)
set_option maxRecDepth 100000 in
theorem w_133 : (.fieldLink "PaneScreen" 44 "PaneScreen" "events" "LPaneScreen$EventLine;" : Cond) ∈ TW := TW_at (n := 201) (by decide +kernel) (by decide +kernel)
set_option maxRecDepth 100000 in
theorem w_134 : (.fieldLink "PaneScreen" 48 "PaneScreen" "focus" "I" : Cond) ∈ TW := TW_at (n := 202) (by decide +kernel) (by decide +kernel)
set_option maxRecDepth 100000 in
theorem w_135 : (.fieldLink "PaneScreen" 52 "PaneScreen" "painted" "I" : Cond) ∈ TW := TW_at (n := 203) (by decide +kernel) (by decide +kernel)
set_option maxRecDepth 100000 in
theorem w_136 : (.fieldLink "PaneScreen" 95 "PaneScreen$Pane" "start" "I" : Cond) ∈ TW := TW_at (n := 73) (by decide +kernel) (by decide +kernel)
set_option maxRecDepth 100000 in
theorem w_137 : (.fieldLink "PaneScreen" 98 "PaneScreen$Pane" "width" "I" : Cond) ∈ TW := TW_at (n := 69) (by decide +kernel) (by decide +kernel)
set_option maxRecDepth 100000 in
theorem w_138 : (.fieldLink "PaneScreen" 101 "PaneScreen$Pane" "height" "I" : Cond) ∈ TW := TW_at (n := 71) (by decide +kernel) (by decide +kernel)
set_option maxRecDepth 100000 in
theorem w_139 : (.fieldLink "PaneScreen" 130 "PaneScreen$Store" "colours" "[I" : Cond) ∈ TW := TW_at (n := 118) (by decide +kernel) (by decide +kernel)
set_option maxRecDepth 100000 in
theorem w_140 : (.fieldLink "PaneScreen" 162 "PaneScreen$Store" "old" "[I" : Cond) ∈ TW := TW_at (n := 120) (by decide +kernel) (by decide +kernel)
set_option maxRecDepth 100000 in
theorem w_141 : (.fieldLink "PaneScreen" 186 "PaneScreen$Pane" "x" "I" : Cond) ∈ TW := TW_at (n := 65) (by decide +kernel) (by decide +kernel)
set_option maxRecDepth 100000 in
theorem w_142 : (.fieldLink "PaneScreen" 189 "PaneScreen$Pane" "y" "I" : Cond) ∈ TW := TW_at (n := 67) (by decide +kernel) (by decide +kernel)
set_option maxRecDepth 100000 in
theorem w_143 : (.fieldLink "PaneScreen" 196 "PaneScreen$EventLine" "count" "I" : Cond) ∈ TW := TW_at (n := 164) (by decide +kernel) (by decide +kernel)
set_option maxRecDepth 100000 in
theorem w_144 : (.fieldLink "PaneScreen" 205 "PaneScreen$EventLine" "takenKind" "I" : Cond) ∈ TW := TW_at (n := 168) (by decide +kernel) (by decide +kernel)
set_option maxRecDepth 100000 in
theorem w_145 : (.fieldLink "PaneScreen" 208 "PaneScreen$EventLine" "takenWindow" "I" : Cond) ∈ TW := TW_at (n := 170) (by decide +kernel) (by decide +kernel)
set_option maxRecDepth 100000 in
theorem w_146 : (.fieldLink "PaneScreen" 211 "PaneScreen$EventLine" "takenOne" "I" : Cond) ∈ TW := TW_at (n := 172) (by decide +kernel) (by decide +kernel)
set_option maxRecDepth 100000 in
theorem w_147 : (.fieldLink "PaneScreen" 214 "PaneScreen$EventLine" "takenTwo" "I" : Cond) ∈ TW := TW_at (n := 174) (by decide +kernel) (by decide +kernel)
set_option maxRecDepth 100000 in
theorem w_148 : (.fieldLink "PaneScreen" 220 "PaneScreen$Order" "count" "I" : Cond) ∈ TW := TW_at (n := 105) (by decide +kernel) (by decide +kernel)
set_option maxRecDepth 100000 in
theorem w_149 : (.fieldLink "PaneScreen" 227 "PaneScreen$Damage" "count" "I" : Cond) ∈ TW := TW_at (n := 141) (by decide +kernel) (by decide +kernel)
set_option maxRecDepth 100000 in
theorem w_150 : (.fieldLink "PaneScreen" 228 "PaneScreen$EventLine" "dropped" "I" : Cond) ∈ TW := TW_at (n := 166) (by decide +kernel) (by decide +kernel)
set_option maxRecDepth 100000 in
theorem w_151 : (.fieldLink "PaneScreen" 231 "PaneScreen$Pane" "used" "Z" : Cond) ∈ TW := TW_at (n := 63) (by decide +kernel) (by decide +kernel)
set_option maxRecDepth 100000 in
theorem w_152 : (.fieldLink "PaneScreen" 235 "PaneScreen$Order" "windows" "[I" : Cond) ∈ TW := TW_at (n := 103) (by decide +kernel) (by decide +kernel)
set_option maxRecDepth 100000 in
theorem w_153 : (.fieldLink "PaneScreen" 250 "PaneScreen$Pane" "penU" "I" : Cond) ∈ TW := TW_at (n := 75) (by decide +kernel) (by decide +kernel)
set_option maxRecDepth 100000 in
theorem w_154 : (.fieldLink "PaneScreen" 253 "PaneScreen$Pane" "penV" "I" : Cond) ∈ TW := TW_at (n := 77) (by decide +kernel) (by decide +kernel)
set_option maxRecDepth 100000 in
theorem w_155 : (.fieldLink "PaneScreen$Store" 9 "PaneScreen$Store" "colours" "[I" : Cond) ∈ TW := TW_at (n := 117) (by decide +kernel) (by decide +kernel)
set_option maxRecDepth 100000 in
theorem w_156 : (.fieldLink "PaneScreen$Store" 15 "PaneScreen$Store" "old" "[I" : Cond) ∈ TW := TW_at (n := 119) (by decide +kernel) (by decide +kernel)
set_option maxRecDepth 100000 in
theorem w_157 : (.fieldLink "PaneScreen$Store" 18 "PaneScreen$Store" "taken" "[Z" : Cond) ∈ TW := TW_at (n := 121) (by decide +kernel) (by decide +kernel)
set_option maxRecDepth 100000 in
theorem w_158 : (.fieldLink "PaneScreen$EventLine" 24 "PaneScreen$EventLine" "takenKind" "I" : Cond) ∈ TW := TW_at (n := 167) (by decide +kernel) (by decide +kernel)
set_option maxRecDepth 100000 in
theorem w_159 : (.fieldLink "PaneScreen$EventLine" 34 "PaneScreen$EventLine" "takenWindow" "I" : Cond) ∈ TW := TW_at (n := 169) (by decide +kernel) (by decide +kernel)
set_option maxRecDepth 100000 in
theorem w_160 : (.fieldLink "PaneScreen$EventLine" 37 "PaneScreen$EventLine" "takenOne" "I" : Cond) ∈ TW := TW_at (n := 171) (by decide +kernel) (by decide +kernel)
set_option maxRecDepth 100000 in
theorem w_161 : (.fieldLink "PaneScreen$EventLine" 40 "PaneScreen$EventLine" "takenTwo" "I" : Cond) ∈ TW := TW_at (n := 173) (by decide +kernel) (by decide +kernel)
set_option maxRecDepth 100000 in
theorem w_162 : (.fieldLink "PaneScreen$Pane" 7 "PaneScreen$Pane" "used" "Z" : Cond) ∈ TW := TW_at (n := 62) (by decide +kernel) (by decide +kernel)
set_option maxRecDepth 100000 in
theorem w_163 : (.fieldLink "PaneScreen$Pane" 33 "PaneScreen$Pane" "penU" "I" : Cond) ∈ TW := TW_at (n := 74) (by decide +kernel) (by decide +kernel)
set_option maxRecDepth 100000 in
theorem w_164 : (.fieldLink "PaneScreen$Pane" 36 "PaneScreen$Pane" "penV" "I" : Cond) ∈ TW := TW_at (n := 76) (by decide +kernel) (by decide +kernel)
set_option maxRecDepth 100000 in
theorem w_165 : (.methodLink "PaneScreen$Damage" 37 ⟨"PaneScreen$Damage", "put", "(IIIII)V"⟩ : Cond) ∈ TW := TW_at (n := 401) (by decide +kernel) (by decide +kernel)
set_option maxRecDepth 100000 in
theorem w_166 : (.instanceMethod ⟨"PaneScreen$Damage", "put", "(IIIII)V"⟩ : Cond) ∈ TW := TW_at (n := 403) (by decide +kernel) (by decide +kernel)
set_option maxRecDepth 100000 in
theorem w_167 : (.selects "PaneScreen$Damage" ⟨"PaneScreen$Damage", "put", "(IIIII)V"⟩ ⟨"PaneScreen$Damage", "put", "(IIIII)V"⟩ : Cond) ∈ TW := TW_at (n := 6) (by decide +kernel) (by decide +kernel)
set_option maxRecDepth 100000 in
theorem w_168 : (.initialized "PaneScreen$Damage" : Cond) ∈ TW := TW_at (n := 35) (by decide +kernel) (by decide +kernel)
set_option maxRecDepth 100000 in
theorem w_169 : (.code ⟨"PaneScreen$Damage", "put", "(IIIII)V"⟩ prog_2_method_5_code 6 (Option.none : Option Jvm.ClassFile.FieldType) : Cond) ∈ TW := TW_at (n := 404) (by decide +kernel) (by decide +kernel)
set_option maxRecDepth 100000 in
theorem w_170 : (.methodLink "PaneScreen$Damage" 41 ⟨"PaneScreen$Damage", "joinAllWith", "(IIII)V"⟩ : Cond) ∈ TW := TW_at (n := 405) (by decide +kernel) (by decide +kernel)
set_option maxRecDepth 100000 in
theorem w_171 : (.instanceMethod ⟨"PaneScreen$Damage", "joinAllWith", "(IIII)V"⟩ : Cond) ∈ TW := TW_at (n := 407) (by decide +kernel) (by decide +kernel)
set_option maxRecDepth 100000 in
theorem w_172 : (.selects "PaneScreen$Damage" ⟨"PaneScreen$Damage", "joinAllWith", "(IIII)V"⟩ ⟨"PaneScreen$Damage", "joinAllWith", "(IIII)V"⟩ : Cond) ∈ TW := TW_at (n := 7) (by decide +kernel) (by decide +kernel)
set_option maxRecDepth 100000 in
theorem w_173 : (.code ⟨"PaneScreen$Damage", "joinAllWith", "(IIII)V"⟩ prog_2_method_6_code 10 (Option.none : Option Jvm.ClassFile.FieldType) : Cond) ∈ TW := TW_at (n := 408) (by decide +kernel) (by decide +kernel)
set_option maxRecDepth 100000 in
theorem w_174 : (.methodLink "PaneScreen$EventLine" 43 ⟨"PaneScreen$EventLine", "copy", "(II)V"⟩ : Cond) ∈ TW := TW_at (n := 452) (by decide +kernel) (by decide +kernel)
set_option maxRecDepth 100000 in
theorem w_175 : (.instanceMethod ⟨"PaneScreen$EventLine", "copy", "(II)V"⟩ : Cond) ∈ TW := TW_at (n := 454) (by decide +kernel) (by decide +kernel)
set_option maxRecDepth 100000 in
theorem w_176 : (.selects "PaneScreen$EventLine" ⟨"PaneScreen$EventLine", "copy", "(II)V"⟩ ⟨"PaneScreen$EventLine", "copy", "(II)V"⟩ : Cond) ∈ TW := TW_at (n := 9) (by decide +kernel) (by decide +kernel)
set_option maxRecDepth 100000 in
theorem w_177 : (.initialized "PaneScreen$EventLine" : Cond) ∈ TW := TW_at (n := 36) (by decide +kernel) (by decide +kernel)
set_option maxRecDepth 100000 in
theorem w_178 : (.code ⟨"PaneScreen$EventLine", "copy", "(II)V"⟩ prog_3_method_5_code 3 (Option.none : Option Jvm.ClassFile.FieldType) : Cond) ∈ TW := TW_at (n := 455) (by decide +kernel) (by decide +kernel)
set_option maxRecDepth 100000 in
theorem w_179 : (.methodLink "PaneScreenLaw" 7 ⟨"PaneScreen", "open", "(IIII)I"⟩ : Cond) ∈ TW := TW_at (n := 266) (by decide +kernel) (by decide +kernel)
set_option maxRecDepth 100000 in
theorem w_180 : (.instanceMethod ⟨"PaneScreen", "open", "(IIII)I"⟩ : Cond) ∈ TW := TW_at (n := 267) (by decide +kernel) (by decide +kernel)
set_option maxRecDepth 100000 in
theorem w_181 : (.selects "PaneScreen" ⟨"PaneScreen", "open", "(IIII)I"⟩ ⟨"PaneScreen", "open", "(IIII)I"⟩ : Cond) ∈ TW := TW_at (n := 268) (by decide +kernel) (by decide +kernel)
set_option maxRecDepth 100000 in
theorem w_182 : (.initialized "PaneScreen" : Cond) ∈ TW := TW_at (n := 31) (by decide +kernel) (by decide +kernel)
set_option maxRecDepth 100000 in
theorem w_183 : (.code ⟨"PaneScreen", "open", "(IIII)I"⟩ prog_1_method_2_code 7 (Option.some .int) : Cond) ∈ TW := TW_at (n := 269) (by decide +kernel) (by decide +kernel)
set_option maxRecDepth 100000 in
theorem w_184 : (.methodLink "PaneScreenLaw" 17 ⟨"PaneScreen", "close", "(I)V"⟩ : Cond) ∈ TW := TW_at (n := 413) (by decide +kernel) (by decide +kernel)
set_option maxRecDepth 100000 in
theorem w_185 : (.instanceMethod ⟨"PaneScreen", "close", "(I)V"⟩ : Cond) ∈ TW := TW_at (n := 414) (by decide +kernel) (by decide +kernel)
set_option maxRecDepth 100000 in
theorem w_186 : (.selects "PaneScreen" ⟨"PaneScreen", "close", "(I)V"⟩ ⟨"PaneScreen", "close", "(I)V"⟩ : Cond) ∈ TW := TW_at (n := 415) (by decide +kernel) (by decide +kernel)
set_option maxRecDepth 100000 in
theorem w_187 : (.code ⟨"PaneScreen", "close", "(I)V"⟩ prog_1_method_3_code 3 (Option.none : Option Jvm.ClassFile.FieldType) : Cond) ∈ TW := TW_at (n := 416) (by decide +kernel) (by decide +kernel)
set_option maxRecDepth 100000 in
theorem w_188 : (.methodLink "PaneScreenLaw" 23 ⟨"PaneScreen", "move", "(III)V"⟩ : Cond) ∈ TW := TW_at (n := 463) (by decide +kernel) (by decide +kernel)
set_option maxRecDepth 100000 in
theorem w_189 : (.instanceMethod ⟨"PaneScreen", "move", "(III)V"⟩ : Cond) ∈ TW := TW_at (n := 464) (by decide +kernel) (by decide +kernel)
set_option maxRecDepth 100000 in
theorem w_190 : (.selects "PaneScreen" ⟨"PaneScreen", "move", "(III)V"⟩ ⟨"PaneScreen", "move", "(III)V"⟩ : Cond) ∈ TW := TW_at (n := 465) (by decide +kernel) (by decide +kernel)
set_option maxRecDepth 100000 in
theorem w_191 : (.code ⟨"PaneScreen", "move", "(III)V"⟩ prog_1_method_4_code 5 (Option.none : Option Jvm.ClassFile.FieldType) : Cond) ∈ TW := TW_at (n := 466) (by decide +kernel) (by decide +kernel)
set_option maxRecDepth 100000 in
theorem w_192 : (.methodLink "PaneScreenLaw" 27 ⟨"PaneScreen", "raise", "(IZ)Z"⟩ : Cond) ∈ TW := TW_at (n := 470) (by decide +kernel) (by decide +kernel)
set_option maxRecDepth 100000 in
theorem w_193 : (.instanceMethod ⟨"PaneScreen", "raise", "(IZ)Z"⟩ : Cond) ∈ TW := TW_at (n := 471) (by decide +kernel) (by decide +kernel)
set_option maxRecDepth 100000 in
theorem w_194 : (.selects "PaneScreen" ⟨"PaneScreen", "raise", "(IZ)Z"⟩ ⟨"PaneScreen", "raise", "(IZ)Z"⟩ : Cond) ∈ TW := TW_at (n := 472) (by decide +kernel) (by decide +kernel)
set_option maxRecDepth 100000 in
theorem w_195 : (.code ⟨"PaneScreen", "raise", "(IZ)Z"⟩ prog_1_method_5_code 4 (Option.some .boolean) : Cond) ∈ TW := TW_at (n := 473) (by decide +kernel) (by decide +kernel)
set_option maxRecDepth 100000 in
theorem w_196 : (.methodLink "PaneScreenLaw" 31 ⟨"PaneScreen", "plot", "(IIII)Z"⟩ : Cond) ∈ TW := TW_at (n := 489) (by decide +kernel) (by decide +kernel)
set_option maxRecDepth 100000 in
theorem w_197 : (.instanceMethod ⟨"PaneScreen", "plot", "(IIII)Z"⟩ : Cond) ∈ TW := TW_at (n := 490) (by decide +kernel) (by decide +kernel)
set_option maxRecDepth 100000 in
theorem w_198 : (.selects "PaneScreen" ⟨"PaneScreen", "plot", "(IIII)Z"⟩ ⟨"PaneScreen", "plot", "(IIII)Z"⟩ : Cond) ∈ TW := TW_at (n := 491) (by decide +kernel) (by decide +kernel)
set_option maxRecDepth 100000 in
theorem w_199 : (.code ⟨"PaneScreen", "plot", "(IIII)Z"⟩ prog_1_method_6_code 6 (Option.some .boolean) : Cond) ∈ TW := TW_at (n := 492) (by decide +kernel) (by decide +kernel)
set_option maxRecDepth 100000 in
theorem w_200 : (.methodLink "PaneScreenLaw" 35 ⟨"PaneScreen", "fill", "(IIIII)I"⟩ : Cond) ∈ TW := TW_at (n := 500) (by decide +kernel) (by decide +kernel)
set_option maxRecDepth 100000 in
theorem w_201 : (.instanceMethod ⟨"PaneScreen", "fill", "(IIIII)I"⟩ : Cond) ∈ TW := TW_at (n := 501) (by decide +kernel) (by decide +kernel)
set_option maxRecDepth 100000 in
theorem w_202 : (.selects "PaneScreen" ⟨"PaneScreen", "fill", "(IIIII)I"⟩ ⟨"PaneScreen", "fill", "(IIIII)I"⟩ : Cond) ∈ TW := TW_at (n := 502) (by decide +kernel) (by decide +kernel)
set_option maxRecDepth 100000 in
theorem w_203 : (.code ⟨"PaneScreen", "fill", "(IIIII)I"⟩ prog_1_method_7_code 13 (Option.some .int) : Cond) ∈ TW := TW_at (n := 503) (by decide +kernel) (by decide +kernel)
set_option maxRecDepth 100000 in
theorem w_204 : (.methodLink "PaneScreenLaw" 39 ⟨"PaneScreen", "pen", "(III)V"⟩ : Cond) ∈ TW := TW_at (n := 512) (by decide +kernel) (by decide +kernel)
set_option maxRecDepth 100000 in
theorem w_205 : (.instanceMethod ⟨"PaneScreen", "pen", "(III)V"⟩ : Cond) ∈ TW := TW_at (n := 513) (by decide +kernel) (by decide +kernel)
set_option maxRecDepth 100000 in
theorem w_206 : (.selects "PaneScreen" ⟨"PaneScreen", "pen", "(III)V"⟩ ⟨"PaneScreen", "pen", "(III)V"⟩ : Cond) ∈ TW := TW_at (n := 514) (by decide +kernel) (by decide +kernel)
set_option maxRecDepth 100000 in
theorem w_207 : (.code ⟨"PaneScreen", "pen", "(III)V"⟩ prog_1_method_8_code 5 (Option.none : Option Jvm.ClassFile.FieldType) : Cond) ∈ TW := TW_at (n := 515) (by decide +kernel) (by decide +kernel)
set_option maxRecDepth 100000 in
theorem w_208 : (.methodLink "PaneScreenLaw" 42 ⟨"PaneScreen", "line", "(IIII)I"⟩ : Cond) ∈ TW := TW_at (n := 520) (by decide +kernel) (by decide +kernel)
set_option maxRecDepth 100000 in
theorem w_209 : (.instanceMethod ⟨"PaneScreen", "line", "(IIII)I"⟩ : Cond) ∈ TW := TW_at (n := 521) (by decide +kernel) (by decide +kernel)
set_option maxRecDepth 100000 in
theorem w_210 : (.selects "PaneScreen" ⟨"PaneScreen", "line", "(IIII)I"⟩ ⟨"PaneScreen", "line", "(IIII)I"⟩ : Cond) ∈ TW := TW_at (n := 522) (by decide +kernel) (by decide +kernel)
set_option maxRecDepth 100000 in
theorem w_211 : (.code ⟨"PaneScreen", "line", "(IIII)I"⟩ prog_1_method_9_code 7 (Option.some .int) : Cond) ∈ TW := TW_at (n := 523) (by decide +kernel) (by decide +kernel)
set_option maxRecDepth 100000 in
theorem w_212 : (.methodLink "PaneScreenLaw" 45 ⟨"PaneScreen", "scroll", "(III)V"⟩ : Cond) ∈ TW := TW_at (n := 540) (by decide +kernel) (by decide +kernel)
set_option maxRecDepth 100000 in
theorem w_213 : (.instanceMethod ⟨"PaneScreen", "scroll", "(III)V"⟩ : Cond) ∈ TW := TW_at (n := 541) (by decide +kernel) (by decide +kernel)
set_option maxRecDepth 100000 in
theorem w_214 : (.selects "PaneScreen" ⟨"PaneScreen", "scroll", "(III)V"⟩ ⟨"PaneScreen", "scroll", "(III)V"⟩ : Cond) ∈ TW := TW_at (n := 542) (by decide +kernel) (by decide +kernel)
set_option maxRecDepth 100000 in
theorem w_215 : (.code ⟨"PaneScreen", "scroll", "(III)V"⟩ prog_1_method_10_code 8 (Option.none : Option Jvm.ClassFile.FieldType) : Cond) ∈ TW := TW_at (n := 543) (by decide +kernel) (by decide +kernel)
set_option maxRecDepth 100000 in
theorem w_216 : (.methodLink "PaneScreenLaw" 48 ⟨"PaneScreen", "screen", "(II)I"⟩ : Cond) ∈ TW := TW_at (n := 555) (by decide +kernel) (by decide +kernel)
set_option maxRecDepth 100000 in
theorem w_217 : (.instanceMethod ⟨"PaneScreen", "screen", "(II)I"⟩ : Cond) ∈ TW := TW_at (n := 556) (by decide +kernel) (by decide +kernel)
set_option maxRecDepth 100000 in
theorem w_218 : (.selects "PaneScreen" ⟨"PaneScreen", "screen", "(II)I"⟩ ⟨"PaneScreen", "screen", "(II)I"⟩ : Cond) ∈ TW := TW_at (n := 557) (by decide +kernel) (by decide +kernel)
set_option maxRecDepth 100000 in
theorem w_219 : (.code ⟨"PaneScreen", "screen", "(II)I"⟩ prog_1_method_12_code 3 (Option.some .int) : Cond) ∈ TW := TW_at (n := 558) (by decide +kernel) (by decide +kernel)
set_option maxRecDepth 100000 in
theorem w_220 : (.methodLink "PaneScreenLaw" 54 ⟨"PaneScreen", "picture", "(III)I"⟩ : Cond) ∈ TW := TW_at (n := 580) (by decide +kernel) (by decide +kernel)
set_option maxRecDepth 100000 in
theorem w_221 : (.instanceMethod ⟨"PaneScreen", "picture", "(III)I"⟩ : Cond) ∈ TW := TW_at (n := 581) (by decide +kernel) (by decide +kernel)
set_option maxRecDepth 100000 in
theorem w_222 : (.selects "PaneScreen" ⟨"PaneScreen", "picture", "(III)I"⟩ ⟨"PaneScreen", "picture", "(III)I"⟩ : Cond) ∈ TW := TW_at (n := 582) (by decide +kernel) (by decide +kernel)
set_option maxRecDepth 100000 in
theorem w_223 : (.code ⟨"PaneScreen", "picture", "(III)I"⟩ prog_1_method_13_code 5 (Option.some .int) : Cond) ∈ TW := TW_at (n := 583) (by decide +kernel) (by decide +kernel)
set_option maxRecDepth 100000 in
theorem w_224 : (.methodLink "PaneScreenLaw" 58 ⟨"PaneScreen", "at", "(II)I"⟩ : Cond) ∈ TW := TW_at (n := 587) (by decide +kernel) (by decide +kernel)
set_option maxRecDepth 100000 in
theorem w_225 : (.instanceMethod ⟨"PaneScreen", "at", "(II)I"⟩ : Cond) ∈ TW := TW_at (n := 588) (by decide +kernel) (by decide +kernel)
set_option maxRecDepth 100000 in
theorem w_226 : (.selects "PaneScreen" ⟨"PaneScreen", "at", "(II)I"⟩ ⟨"PaneScreen", "at", "(II)I"⟩ : Cond) ∈ TW := TW_at (n := 589) (by decide +kernel) (by decide +kernel)
set_option maxRecDepth 100000 in
theorem w_227 : (.code ⟨"PaneScreen", "at", "(II)I"⟩ prog_1_method_14_code 3 (Option.some .int) : Cond) ∈ TW := TW_at (n := 590) (by decide +kernel) (by decide +kernel)
set_option maxRecDepth 100000 in
theorem w_228 : (.methodLink "PaneScreenLaw" 61 ⟨"PaneScreen", "visible", "(I)I"⟩ : Cond) ∈ TW := TW_at (n := 594) (by decide +kernel) (by decide +kernel)
set_option maxRecDepth 100000 in
theorem w_229 : (.instanceMethod ⟨"PaneScreen", "visible", "(I)I"⟩ : Cond) ∈ TW := TW_at (n := 595) (by decide +kernel) (by decide +kernel)
set_option maxRecDepth 100000 in
theorem w_230 : (.selects "PaneScreen" ⟨"PaneScreen", "visible", "(I)I"⟩ ⟨"PaneScreen", "visible", "(I)I"⟩ : Cond) ∈ TW := TW_at (n := 596) (by decide +kernel) (by decide +kernel)
set_option maxRecDepth 100000 in
theorem w_231 : (.code ⟨"PaneScreen", "visible", "(I)I"⟩ prog_1_method_15_code 5 (Option.some .int) : Cond) ∈ TW := TW_at (n := 597) (by decide +kernel) (by decide +kernel)
set_option maxRecDepth 100000 in
theorem w_232 : (.methodLink "PaneScreenLaw" 65 ⟨"PaneScreen", "click", "(II)I"⟩ : Cond) ∈ TW := TW_at (n := 601) (by decide +kernel) (by decide +kernel)
set_option maxRecDepth 100000 in
theorem w_233 : (.instanceMethod ⟨"PaneScreen", "click", "(II)I"⟩ : Cond) ∈ TW := TW_at (n := 602) (by decide +kernel) (by decide +kernel)
set_option maxRecDepth 100000 in
theorem w_234 : (.selects "PaneScreen" ⟨"PaneScreen", "click", "(II)I"⟩ ⟨"PaneScreen", "click", "(II)I"⟩ : Cond) ∈ TW := TW_at (n := 603) (by decide +kernel) (by decide +kernel)
set_option maxRecDepth 100000 in
theorem w_235 : (.code ⟨"PaneScreen", "click", "(II)I"⟩ prog_1_method_16_code 5 (Option.some .int) : Cond) ∈ TW := TW_at (n := 604) (by decide +kernel) (by decide +kernel)
set_option maxRecDepth 100000 in
theorem w_236 : (.methodLink "PaneScreenLaw" 68 ⟨"PaneScreen", "next", "()I"⟩ : Cond) ∈ TW := TW_at (n := 612) (by decide +kernel) (by decide +kernel)
set_option maxRecDepth 100000 in
theorem w_237 : (.instanceMethod ⟨"PaneScreen", "next", "()I"⟩ : Cond) ∈ TW := TW_at (n := 613) (by decide +kernel) (by decide +kernel)
set_option maxRecDepth 100000 in
theorem w_238 : (.selects "PaneScreen" ⟨"PaneScreen", "next", "()I"⟩ ⟨"PaneScreen", "next", "()I"⟩ : Cond) ∈ TW := TW_at (n := 614) (by decide +kernel) (by decide +kernel)
set_option maxRecDepth 100000 in
theorem w_239 : (.code ⟨"PaneScreen", "next", "()I"⟩ prog_1_method_18_code 1 (Option.some .int) : Cond) ∈ TW := TW_at (n := 615) (by decide +kernel) (by decide +kernel)
set_option maxRecDepth 100000 in
theorem w_240 : (.methodLink "PaneScreenLaw" 72 ⟨"PaneScreen", "event", "(I)I"⟩ : Cond) ∈ TW := TW_at (n := 623) (by decide +kernel) (by decide +kernel)
set_option maxRecDepth 100000 in
theorem w_241 : (.instanceMethod ⟨"PaneScreen", "event", "(I)I"⟩ : Cond) ∈ TW := TW_at (n := 624) (by decide +kernel) (by decide +kernel)
set_option maxRecDepth 100000 in
theorem w_242 : (.selects "PaneScreen" ⟨"PaneScreen", "event", "(I)I"⟩ ⟨"PaneScreen", "event", "(I)I"⟩ : Cond) ∈ TW := TW_at (n := 625) (by decide +kernel) (by decide +kernel)
set_option maxRecDepth 100000 in
theorem w_243 : (.code ⟨"PaneScreen", "event", "(I)I"⟩ prog_1_method_19_code 2 (Option.some .int) : Cond) ∈ TW := TW_at (n := 626) (by decide +kernel) (by decide +kernel)
set_option maxRecDepth 100000 in
theorem w_244 : (.methodLink "PaneScreenLaw" 75 ⟨"PaneScreen", "figure", "(I)I"⟩ : Cond) ∈ TW := TW_at (n := 630) (by decide +kernel) (by decide +kernel)
set_option maxRecDepth 100000 in
theorem w_245 : (.instanceMethod ⟨"PaneScreen", "figure", "(I)I"⟩ : Cond) ∈ TW := TW_at (n := 631) (by decide +kernel) (by decide +kernel)
set_option maxRecDepth 100000 in
theorem w_246 : (.selects "PaneScreen" ⟨"PaneScreen", "figure", "(I)I"⟩ ⟨"PaneScreen", "figure", "(I)I"⟩ : Cond) ∈ TW := TW_at (n := 632) (by decide +kernel) (by decide +kernel)
set_option maxRecDepth 100000 in
theorem w_247 : (.code ⟨"PaneScreen", "figure", "(I)I"⟩ prog_1_method_20_code 2 (Option.some .int) : Cond) ∈ TW := TW_at (n := 633) (by decide +kernel) (by decide +kernel)
set_option maxRecDepth 100000 in
theorem w_248 : (.methodLink "PaneScreenModel" 81 ⟨"PaneScreenModel", "damage", "(IIII)V"⟩ : Cond) ∈ TW := TW_at (n := 788) (by decide +kernel) (by decide +kernel)
set_option maxRecDepth 100000 in
theorem w_249 : (.instanceMethod ⟨"PaneScreenModel", "damage", "(IIII)V"⟩ : Cond) ∈ TW := TW_at (n := 790) (by decide +kernel) (by decide +kernel)
set_option maxRecDepth 100000 in
theorem w_250 : (.selects "PaneScreenModel" ⟨"PaneScreenModel", "damage", "(IIII)V"⟩ ⟨"PaneScreenModel", "damage", "(IIII)V"⟩ : Cond) ∈ TW := TW_at (n := 17) (by decide +kernel) (by decide +kernel)
set_option maxRecDepth 100000 in
theorem w_251 : (.initialized "PaneScreenModel" : Cond) ∈ TW := TW_at (n := 37) (by decide +kernel) (by decide +kernel)
set_option maxRecDepth 100000 in
theorem w_252 : (.code ⟨"PaneScreenModel", "damage", "(IIII)V"⟩ prog_8_method_7_code 10 (Option.none : Option Jvm.ClassFile.FieldType) : Cond) ∈ TW := TW_at (n := 791) (by decide +kernel) (by decide +kernel)
set_option maxRecDepth 100000 in
theorem w_253 : (.methodLink "PaneScreenModel" 85 ⟨"PaneScreenModel", "inPicture", "(III)Z"⟩ : Cond) ∈ TW := TW_at (n := 831) (by decide +kernel) (by decide +kernel)
set_option maxRecDepth 100000 in
theorem w_254 : (.instanceMethod ⟨"PaneScreenModel", "inPicture", "(III)Z"⟩ : Cond) ∈ TW := TW_at (n := 833) (by decide +kernel) (by decide +kernel)
set_option maxRecDepth 100000 in
theorem w_255 : (.selects "PaneScreenModel" ⟨"PaneScreenModel", "inPicture", "(III)Z"⟩ ⟨"PaneScreenModel", "inPicture", "(III)Z"⟩ : Cond) ∈ TW := TW_at (n := 23) (by decide +kernel) (by decide +kernel)
set_option maxRecDepth 100000 in
theorem w_256 : (.code ⟨"PaneScreenModel", "inPicture", "(III)Z"⟩ prog_8_method_6_code 4 (Option.some .boolean) : Cond) ∈ TW := TW_at (n := 834) (by decide +kernel) (by decide +kernel)
set_option maxRecDepth 100000 in
theorem w_257 : (.methodLink "PaneScreenModel" 105 ⟨"PaneScreenModel", "isFree", "(I)Z"⟩ : Cond) ∈ TW := TW_at (n := 776) (by decide +kernel) (by decide +kernel)
set_option maxRecDepth 100000 in
theorem w_258 : (.instanceMethod ⟨"PaneScreenModel", "isFree", "(I)Z"⟩ : Cond) ∈ TW := TW_at (n := 778) (by decide +kernel) (by decide +kernel)
set_option maxRecDepth 100000 in
theorem w_259 : (.selects "PaneScreenModel" ⟨"PaneScreenModel", "isFree", "(I)Z"⟩ ⟨"PaneScreenModel", "isFree", "(I)Z"⟩ : Cond) ∈ TW := TW_at (n := 14) (by decide +kernel) (by decide +kernel)
set_option maxRecDepth 100000 in
theorem w_260 : (.code ⟨"PaneScreenModel", "isFree", "(I)Z"⟩ prog_8_method_12_code 4 (Option.some .boolean) : Cond) ∈ TW := TW_at (n := 779) (by decide +kernel) (by decide +kernel)
set_option maxRecDepth 100000 in
theorem w_261 : (.methodLink "PaneScreenModel" 109 ⟨"PaneScreenModel", "near", "(I)Z"⟩ : Cond) ∈ TW := TW_at (n := 769) (by decide +kernel) (by decide +kernel)
set_option maxRecDepth 100000 in
theorem w_262 : (.static ⟨"PaneScreenModel", "near", "(I)Z"⟩ : Cond) ∈ TW := TW_at (n := 770) (by decide +kernel) (by decide +kernel)
set_option maxRecDepth 100000 in
theorem w_263 : (.code ⟨"PaneScreenModel", "near", "(I)Z"⟩ prog_8_method_3_code 1 (Option.some .boolean) : Cond) ∈ TW := TW_at (n := 771) (by decide +kernel) (by decide +kernel)
set_option maxRecDepth 100000 in
theorem w_264 : (.methodLink "PaneScreenModel" 112 ⟨"PaneScreenModel", "stretch", "(I)I"⟩ : Cond) ∈ TW := TW_at (n := 772) (by decide +kernel) (by decide +kernel)
set_option maxRecDepth 100000 in
theorem w_265 : (.instanceMethod ⟨"PaneScreenModel", "stretch", "(I)I"⟩ : Cond) ∈ TW := TW_at (n := 774) (by decide +kernel) (by decide +kernel)
set_option maxRecDepth 100000 in
theorem w_266 : (.selects "PaneScreenModel" ⟨"PaneScreenModel", "stretch", "(I)I"⟩ ⟨"PaneScreenModel", "stretch", "(I)I"⟩ : Cond) ∈ TW := TW_at (n := 13) (by decide +kernel) (by decide +kernel)
set_option maxRecDepth 100000 in
theorem w_267 : (.code ⟨"PaneScreenModel", "stretch", "(I)I"⟩ prog_8_method_13_code 4 (Option.some .int) : Cond) ∈ TW := TW_at (n := 775) (by decide +kernel) (by decide +kernel)
set_option maxRecDepth 100000 in
theorem w_268 : (.methodLink "PaneScreenModel" 116 ⟨"PaneScreenModel", "firstClosed", "()I"⟩ : Cond) ∈ TW := TW_at (n := 780) (by decide +kernel) (by decide +kernel)
set_option maxRecDepth 100000 in
theorem w_269 : (.instanceMethod ⟨"PaneScreenModel", "firstClosed", "()I"⟩ : Cond) ∈ TW := TW_at (n := 782) (by decide +kernel) (by decide +kernel)
set_option maxRecDepth 100000 in
theorem w_270 : (.selects "PaneScreenModel" ⟨"PaneScreenModel", "firstClosed", "()I"⟩ ⟨"PaneScreenModel", "firstClosed", "()I"⟩ : Cond) ∈ TW := TW_at (n := 15) (by decide +kernel) (by decide +kernel)
set_option maxRecDepth 100000 in
theorem w_271 : (.code ⟨"PaneScreenModel", "firstClosed", "()I"⟩ prog_8_method_14_code 2 (Option.some .int) : Cond) ∈ TW := TW_at (n := 783) (by decide +kernel) (by decide +kernel)
set_option maxRecDepth 100000 in
theorem w_272 : (.methodLink "PaneScreenModel" 123 ⟨"PaneScreenModel", "damageFrame", "(I)V"⟩ : Cond) ∈ TW := TW_at (n := 784) (by decide +kernel) (by decide +kernel)
set_option maxRecDepth 100000 in
theorem w_273 : (.instanceMethod ⟨"PaneScreenModel", "damageFrame", "(I)V"⟩ : Cond) ∈ TW := TW_at (n := 786) (by decide +kernel) (by decide +kernel)
set_option maxRecDepth 100000 in
theorem w_274 : (.selects "PaneScreenModel" ⟨"PaneScreenModel", "damageFrame", "(I)V"⟩ ⟨"PaneScreenModel", "damageFrame", "(I)V"⟩ : Cond) ∈ TW := TW_at (n := 16) (by decide +kernel) (by decide +kernel)
set_option maxRecDepth 100000 in
theorem w_275 : (.code ⟨"PaneScreenModel", "damageFrame", "(I)V"⟩ prog_8_method_8_code 2 (Option.none : Option Jvm.ClassFile.FieldType) : Cond) ∈ TW := TW_at (n := 787) (by decide +kernel) (by decide +kernel)
set_option maxRecDepth 100000 in
theorem w_276 : (.methodLink "PaneScreenModel" 127 ⟨"PaneScreenModel", "isOpen", "(I)Z"⟩ : Cond) ∈ TW := TW_at (n := 796) (by decide +kernel) (by decide +kernel)
set_option maxRecDepth 100000 in
theorem w_277 : (.instanceMethod ⟨"PaneScreenModel", "isOpen", "(I)Z"⟩ : Cond) ∈ TW := TW_at (n := 798) (by decide +kernel) (by decide +kernel)
set_option maxRecDepth 100000 in
theorem w_278 : (.selects "PaneScreenModel" ⟨"PaneScreenModel", "isOpen", "(I)Z"⟩ ⟨"PaneScreenModel", "isOpen", "(I)Z"⟩ : Cond) ∈ TW := TW_at (n := 18) (by decide +kernel) (by decide +kernel)
set_option maxRecDepth 100000 in
theorem w_279 : (.code ⟨"PaneScreenModel", "isOpen", "(I)Z"⟩ prog_8_method_4_code 2 (Option.some .boolean) : Cond) ∈ TW := TW_at (n := 799) (by decide +kernel) (by decide +kernel)
set_option maxRecDepth 100000 in
theorem w_280 : (.methodLink "PaneScreenModel" 133 ⟨"PaneScreenModel", "moveEvent", "(II)V"⟩ : Cond) ∈ TW := TW_at (n := 800) (by decide +kernel) (by decide +kernel)
set_option maxRecDepth 100000 in
theorem w_281 : (.instanceMethod ⟨"PaneScreenModel", "moveEvent", "(II)V"⟩ : Cond) ∈ TW := TW_at (n := 802) (by decide +kernel) (by decide +kernel)
set_option maxRecDepth 100000 in
theorem w_282 : (.selects "PaneScreenModel" ⟨"PaneScreenModel", "moveEvent", "(II)V"⟩ ⟨"PaneScreenModel", "moveEvent", "(II)V"⟩ : Cond) ∈ TW := TW_at (n := 19) (by decide +kernel) (by decide +kernel)
set_option maxRecDepth 100000 in
theorem w_283 : (.code ⟨"PaneScreenModel", "moveEvent", "(II)V"⟩ prog_8_method_34_code 3 (Option.none : Option Jvm.ClassFile.FieldType) : Cond) ∈ TW := TW_at (n := 803) (by decide +kernel) (by decide +kernel)
set_option maxRecDepth 100000 in
theorem w_284 : (.methodLink "PaneScreenModel" 137 ⟨"PaneScreenModel", "foremost", "()I"⟩ : Cond) ∈ TW := TW_at (n := 804) (by decide +kernel) (by decide +kernel)
set_option maxRecDepth 100000 in
theorem w_285 : (.instanceMethod ⟨"PaneScreenModel", "foremost", "()I"⟩ : Cond) ∈ TW := TW_at (n := 806) (by decide +kernel) (by decide +kernel)
set_option maxRecDepth 100000 in
theorem w_286 : (.selects "PaneScreenModel" ⟨"PaneScreenModel", "foremost", "()I"⟩ ⟨"PaneScreenModel", "foremost", "()I"⟩ : Cond) ∈ TW := TW_at (n := 20) (by decide +kernel) (by decide +kernel)
set_option maxRecDepth 100000 in
theorem w_287 : (.code ⟨"PaneScreenModel", "foremost", "()I"⟩ prog_8_method_16_code 3 (Option.some .int) : Cond) ∈ TW := TW_at (n := 807) (by decide +kernel) (by decide +kernel)
set_option maxRecDepth 100000 in
theorem w_288 : (.methodLink "PaneScreenModel" 143 ⟨"PaneScreenModel", "lift", "(IZ)Z"⟩ : Cond) ∈ TW := TW_at (n := 816) (by decide +kernel) (by decide +kernel)
set_option maxRecDepth 100000 in
theorem w_289 : (.instanceMethod ⟨"PaneScreenModel", "lift", "(IZ)Z"⟩ : Cond) ∈ TW := TW_at (n := 818) (by decide +kernel) (by decide +kernel)
set_option maxRecDepth 100000 in
theorem w_290 : (.selects "PaneScreenModel" ⟨"PaneScreenModel", "lift", "(IZ)Z"⟩ ⟨"PaneScreenModel", "lift", "(IZ)Z"⟩ : Cond) ∈ TW := TW_at (n := 21) (by decide +kernel) (by decide +kernel)
set_option maxRecDepth 100000 in
theorem w_291 : (.code ⟨"PaneScreenModel", "lift", "(IZ)Z"⟩ prog_8_method_19_code 5 (Option.some .boolean) : Cond) ∈ TW := TW_at (n := 819) (by decide +kernel) (by decide +kernel)
set_option maxRecDepth 100000 in
theorem w_292 : (.methodLink "PaneScreenModel" 147 ⟨"PaneScreenModel", "colour", "(I)Z"⟩ : Cond) ∈ TW := TW_at (n := 824) (by decide +kernel) (by decide +kernel)
set_option maxRecDepth 100000 in
theorem w_293 : (.static ⟨"PaneScreenModel", "colour", "(I)Z"⟩ : Cond) ∈ TW := TW_at (n := 825) (by decide +kernel) (by decide +kernel)
set_option maxRecDepth 100000 in
theorem w_294 : (.code ⟨"PaneScreenModel", "colour", "(I)Z"⟩ prog_8_method_21_code 1 (Option.some .boolean) : Cond) ∈ TW := TW_at (n := 826) (by decide +kernel) (by decide +kernel)
set_option maxRecDepth 100000 in
theorem w_295 : (.methodLink "PaneScreenModel" 150 ⟨"PaneScreenModel", "paint", "(IIII)Z"⟩ : Cond) ∈ TW := TW_at (n := 827) (by decide +kernel) (by decide +kernel)
set_option maxRecDepth 100000 in
theorem w_296 : (.instanceMethod ⟨"PaneScreenModel", "paint", "(IIII)Z"⟩ : Cond) ∈ TW := TW_at (n := 829) (by decide +kernel) (by decide +kernel)
set_option maxRecDepth 100000 in
theorem w_297 : (.selects "PaneScreenModel" ⟨"PaneScreenModel", "paint", "(IIII)Z"⟩ ⟨"PaneScreenModel", "paint", "(IIII)Z"⟩ : Cond) ∈ TW := TW_at (n := 22) (by decide +kernel) (by decide +kernel)
set_option maxRecDepth 100000 in
theorem w_298 : (.code ⟨"PaneScreenModel", "paint", "(IIII)Z"⟩ prog_8_method_10_code 5 (Option.some .boolean) : Cond) ∈ TW := TW_at (n := 830) (by decide +kernel) (by decide +kernel)
set_option maxRecDepth 100000 in
theorem w_299 : (.methodLink "PaneScreenModel" 154 ⟨"PaneScreenModel", "damageChanged", "(I)V"⟩ : Cond) ∈ TW := TW_at (n := 835) (by decide +kernel) (by decide +kernel)
set_option maxRecDepth 100000 in
theorem w_300 : (.instanceMethod ⟨"PaneScreenModel", "damageChanged", "(I)V"⟩ : Cond) ∈ TW := TW_at (n := 837) (by decide +kernel) (by decide +kernel)
set_option maxRecDepth 100000 in
theorem w_301 : (.selects "PaneScreenModel" ⟨"PaneScreenModel", "damageChanged", "(I)V"⟩ ⟨"PaneScreenModel", "damageChanged", "(I)V"⟩ : Cond) ∈ TW := TW_at (n := 24) (by decide +kernel) (by decide +kernel)
set_option maxRecDepth 100000 in
theorem w_302 : (.code ⟨"PaneScreenModel", "damageChanged", "(I)V"⟩ prog_8_method_11_code 2 (Option.none : Option Jvm.ClassFile.FieldType) : Cond) ∈ TW := TW_at (n := 838) (by decide +kernel) (by decide +kernel)
set_option maxRecDepth 100000 in
theorem w_303 : (.methodLink "PaneScreenModel" 157 ⟨"PaneScreenModel", "div", "(II)I"⟩ : Cond) ∈ TW := TW_at (n := 851) (by decide +kernel) (by decide +kernel)
set_option maxRecDepth 100000 in
theorem w_304 : (.static ⟨"PaneScreenModel", "div", "(II)I"⟩ : Cond) ∈ TW := TW_at (n := 852) (by decide +kernel) (by decide +kernel)
set_option maxRecDepth 100000 in
theorem w_305 : (.code ⟨"PaneScreenModel", "div", "(II)I"⟩ prog_8_method_25_code 3 (Option.some .int) : Cond) ∈ TW := TW_at (n := 853) (by decide +kernel) (by decide +kernel)
set_option maxRecDepth 100000 in
theorem w_306 : (.methodLink "PaneScreenModel" 161 ⟨"PaneScreenModel", "isDamaged", "(II)Z"⟩ : Cond) ∈ TW := TW_at (n := 862) (by decide +kernel) (by decide +kernel)
set_option maxRecDepth 100000 in
theorem w_307 : (.instanceMethod ⟨"PaneScreenModel", "isDamaged", "(II)Z"⟩ : Cond) ∈ TW := TW_at (n := 864) (by decide +kernel) (by decide +kernel)
set_option maxRecDepth 100000 in
theorem w_308 : (.selects "PaneScreenModel" ⟨"PaneScreenModel", "isDamaged", "(II)Z"⟩ ⟨"PaneScreenModel", "isDamaged", "(II)Z"⟩ : Cond) ∈ TW := TW_at (n := 25) (by decide +kernel) (by decide +kernel)
set_option maxRecDepth 100000 in
theorem w_309 : (.code ⟨"PaneScreenModel", "isDamaged", "(II)Z"⟩ prog_8_method_9_code 5 (Option.some .boolean) : Cond) ∈ TW := TW_at (n := 865) (by decide +kernel) (by decide +kernel)
set_option maxRecDepth 100000 in
theorem w_310 : (.methodLink "PaneScreenModel" 165 ⟨"PaneScreenModel", "owner", "(II)I"⟩ : Cond) ∈ TW := TW_at (n := 866) (by decide +kernel) (by decide +kernel)
set_option maxRecDepth 100000 in
theorem w_311 : (.instanceMethod ⟨"PaneScreenModel", "owner", "(II)I"⟩ : Cond) ∈ TW := TW_at (n := 868) (by decide +kernel) (by decide +kernel)
set_option maxRecDepth 100000 in
theorem w_312 : (.selects "PaneScreenModel" ⟨"PaneScreenModel", "owner", "(II)I"⟩ ⟨"PaneScreenModel", "owner", "(II)I"⟩ : Cond) ∈ TW := TW_at (n := 26) (by decide +kernel) (by decide +kernel)
set_option maxRecDepth 100000 in
theorem w_313 : (.code ⟨"PaneScreenModel", "owner", "(II)I"⟩ prog_8_method_28_code 6 (Option.some .int) : Cond) ∈ TW := TW_at (n := 869) (by decide +kernel) (by decide +kernel)
set_option maxRecDepth 100000 in
theorem w_314 : (.methodLink "PaneScreenModel" 171 ⟨"PaneScreenModel", "onScreen", "(II)Z"⟩ : Cond) ∈ TW := TW_at (n := 874) (by decide +kernel) (by decide +kernel)
set_option maxRecDepth 100000 in
theorem w_315 : (.static ⟨"PaneScreenModel", "onScreen", "(II)Z"⟩ : Cond) ∈ TW := TW_at (n := 875) (by decide +kernel) (by decide +kernel)
set_option maxRecDepth 100000 in
theorem w_316 : (.code ⟨"PaneScreenModel", "onScreen", "(II)Z"⟩ prog_8_method_5_code 2 (Option.some .boolean) : Cond) ∈ TW := TW_at (n := 876) (by decide +kernel) (by decide +kernel)
set_option maxRecDepth 100000 in
theorem w_317 : (.methodLink "PaneScreenModel" 177 ⟨"PaneScreenModel", "tell", "(IIII)V"⟩ : Cond) ∈ TW := TW_at (n := 893) (by decide +kernel) (by decide +kernel)
set_option maxRecDepth 100000 in
theorem w_318 : (.instanceMethod ⟨"PaneScreenModel", "tell", "(IIII)V"⟩ : Cond) ∈ TW := TW_at (n := 895) (by decide +kernel) (by decide +kernel)
set_option maxRecDepth 100000 in
theorem w_319 : (.selects "PaneScreenModel" ⟨"PaneScreenModel", "tell", "(IIII)V"⟩ ⟨"PaneScreenModel", "tell", "(IIII)V"⟩ : Cond) ∈ TW := TW_at (n := 27) (by decide +kernel) (by decide +kernel)
set_option maxRecDepth 100000 in
theorem w_320 : (.code ⟨"PaneScreenModel", "tell", "(IIII)V"⟩ prog_8_method_35_code 5 (Option.none : Option Jvm.ClassFile.FieldType) : Cond) ∈ TW := TW_at (n := 896) (by decide +kernel) (by decide +kernel)
set_option maxRecDepth 100000 in
theorem w_321 : (.methodLink "PaneScreenModel" 192 ⟨"PaneScreenModel", "openOnes", "()I"⟩ : Cond) ∈ TW := TW_at (n := 913) (by decide +kernel) (by decide +kernel)
set_option maxRecDepth 100000 in
theorem w_322 : (.instanceMethod ⟨"PaneScreenModel", "openOnes", "()I"⟩ : Cond) ∈ TW := TW_at (n := 915) (by decide +kernel) (by decide +kernel)
set_option maxRecDepth 100000 in
theorem w_323 : (.selects "PaneScreenModel" ⟨"PaneScreenModel", "openOnes", "()I"⟩ ⟨"PaneScreenModel", "openOnes", "()I"⟩ : Cond) ∈ TW := TW_at (n := 28) (by decide +kernel) (by decide +kernel)
set_option maxRecDepth 100000 in
theorem w_324 : (.code ⟨"PaneScreenModel", "openOnes", "()I"⟩ prog_8_method_41_code 3 (Option.some .int) : Cond) ∈ TW := TW_at (n := 916) (by decide +kernel) (by decide +kernel)
set_option maxRecDepth 100000 in
theorem w_325 : (.methodLink "PaneScreenModel" 195 ⟨"PaneScreenModel", "freeCells", "(Z)I"⟩ : Cond) ∈ TW := TW_at (n := 917) (by decide +kernel) (by decide +kernel)
set_option maxRecDepth 100000 in
theorem w_326 : (.instanceMethod ⟨"PaneScreenModel", "freeCells", "(Z)I"⟩ : Cond) ∈ TW := TW_at (n := 919) (by decide +kernel) (by decide +kernel)
set_option maxRecDepth 100000 in
theorem w_327 : (.selects "PaneScreenModel" ⟨"PaneScreenModel", "freeCells", "(Z)I"⟩ ⟨"PaneScreenModel", "freeCells", "(Z)I"⟩ : Cond) ∈ TW := TW_at (n := 29) (by decide +kernel) (by decide +kernel)
set_option maxRecDepth 100000 in
theorem w_328 : (.code ⟨"PaneScreenModel", "freeCells", "(Z)I"⟩ prog_8_method_40_code 7 (Option.some .int) : Cond) ∈ TW := TW_at (n := 920) (by decide +kernel) (by decide +kernel)
set_option maxRecDepth 100000 in
theorem w_329 : (.methodLink "PaneScreen$Pane" 23 ⟨"PaneScreen$Pane", "putPen", "(II)V"⟩ : Cond) ∈ TW := TW_at (n := 371) (by decide +kernel) (by decide +kernel)
set_option maxRecDepth 100000 in
theorem w_330 : (.instanceMethod ⟨"PaneScreen$Pane", "putPen", "(II)V"⟩ : Cond) ∈ TW := TW_at (n := 372) (by decide +kernel) (by decide +kernel)
set_option maxRecDepth 100000 in
theorem w_331 : (.selects "PaneScreen$Pane" ⟨"PaneScreen$Pane", "putPen", "(II)V"⟩ ⟨"PaneScreen$Pane", "putPen", "(II)V"⟩ : Cond) ∈ TW := TW_at (n := 373) (by decide +kernel) (by decide +kernel)
set_option maxRecDepth 100000 in
theorem w_332 : (.initialized "PaneScreen$Pane" : Cond) ∈ TW := TW_at (n := 32) (by decide +kernel) (by decide +kernel)
set_option maxRecDepth 100000 in
theorem w_333 : (.code ⟨"PaneScreen$Pane", "putPen", "(II)V"⟩ prog_5_method_5_code 3 (Option.none : Option Jvm.ClassFile.FieldType) : Cond) ∈ TW := TW_at (n := 374) (by decide +kernel) (by decide +kernel)
set_option maxRecDepth 100000 in
theorem w_334 : (.methodLink "PaneScreen$Pane" 39 ⟨"PaneScreen$Pane", "has", "(II)Z"⟩ : Cond) ∈ TW := TW_at (n := 241) (by decide +kernel) (by decide +kernel)
set_option maxRecDepth 100000 in
theorem w_335 : (.instanceMethod ⟨"PaneScreen$Pane", "has", "(II)Z"⟩ : Cond) ∈ TW := TW_at (n := 242) (by decide +kernel) (by decide +kernel)
set_option maxRecDepth 100000 in
theorem w_336 : (.selects "PaneScreen$Pane" ⟨"PaneScreen$Pane", "has", "(II)Z"⟩ ⟨"PaneScreen$Pane", "has", "(II)Z"⟩ : Cond) ∈ TW := TW_at (n := 243) (by decide +kernel) (by decide +kernel)
set_option maxRecDepth 100000 in
theorem w_337 : (.code ⟨"PaneScreen$Pane", "has", "(II)Z"⟩ prog_5_method_6_code 3 (Option.some .boolean) : Cond) ∈ TW := TW_at (n := 244) (by decide +kernel) (by decide +kernel)
set_option maxRecDepth 100000 in
theorem w_338 : (.methodLink "PaneScreen" 55 ⟨"PaneScreen", "requireNear", "(II)V"⟩ : Cond) ∈ TW := TW_at (n := 270) (by decide +kernel) (by decide +kernel)
set_option maxRecDepth 100000 in
theorem w_339 : (.static ⟨"PaneScreen", "requireNear", "(II)V"⟩ : Cond) ∈ TW := TW_at (n := 271) (by decide +kernel) (by decide +kernel)
set_option maxRecDepth 100000 in
theorem w_340 : (.code ⟨"PaneScreen", "requireNear", "(II)V"⟩ prog_1_method_22_code 2 (Option.none : Option Jvm.ClassFile.FieldType) : Cond) ∈ TW := TW_at (n := 272) (by decide +kernel) (by decide +kernel)
set_option maxRecDepth 100000 in
theorem w_341 : (.methodLink "PaneScreen" 59 ⟨"PaneScreen", "requireSize", "(II)V"⟩ : Cond) ∈ TW := TW_at (n := 337) (by decide +kernel) (by decide +kernel)
set_option maxRecDepth 100000 in
theorem w_342 : (.static ⟨"PaneScreen", "requireSize", "(II)V"⟩ : Cond) ∈ TW := TW_at (n := 338) (by decide +kernel) (by decide +kernel)
set_option maxRecDepth 100000 in
theorem w_343 : (.code ⟨"PaneScreen", "requireSize", "(II)V"⟩ prog_1_method_23_code 2 (Option.none : Option Jvm.ClassFile.FieldType) : Cond) ∈ TW := TW_at (n := 339) (by decide +kernel) (by decide +kernel)
set_option maxRecDepth 100000 in
theorem w_344 : (.methodLink "PaneScreen" 62 ⟨"PaneScreen", "leastClosed", "()I"⟩ : Cond) ∈ TW := TW_at (n := 340) (by decide +kernel) (by decide +kernel)
set_option maxRecDepth 100000 in
theorem w_345 : (.instanceMethod ⟨"PaneScreen", "leastClosed", "()I"⟩ : Cond) ∈ TW := TW_at (n := 342) (by decide +kernel) (by decide +kernel)
set_option maxRecDepth 100000 in
theorem w_346 : (.selects "PaneScreen" ⟨"PaneScreen", "leastClosed", "()I"⟩ ⟨"PaneScreen", "leastClosed", "()I"⟩ : Cond) ∈ TW := TW_at (n := 3) (by decide +kernel) (by decide +kernel)
set_option maxRecDepth 100000 in
theorem w_347 : (.code ⟨"PaneScreen", "leastClosed", "()I"⟩ prog_1_method_27_code 2 (Option.some .int) : Cond) ∈ TW := TW_at (n := 343) (by decide +kernel) (by decide +kernel)
set_option maxRecDepth 100000 in
theorem w_348 : (.methodLink "PaneScreen" 66 ⟨"PaneScreen$Store", "firstFree", "(I)I"⟩ : Cond) ∈ TW := TW_at (n := 344) (by decide +kernel) (by decide +kernel)
set_option maxRecDepth 100000 in
theorem w_349 : (.instanceMethod ⟨"PaneScreen$Store", "firstFree", "(I)I"⟩ : Cond) ∈ TW := TW_at (n := 345) (by decide +kernel) (by decide +kernel)
set_option maxRecDepth 100000 in
theorem w_350 : (.selects "PaneScreen$Store" ⟨"PaneScreen$Store", "firstFree", "(I)I"⟩ ⟨"PaneScreen$Store", "firstFree", "(I)I"⟩ : Cond) ∈ TW := TW_at (n := 346) (by decide +kernel) (by decide +kernel)
set_option maxRecDepth 100000 in
theorem w_351 : (.initialized "PaneScreen$Store" : Cond) ∈ TW := TW_at (n := 34) (by decide +kernel) (by decide +kernel)
set_option maxRecDepth 100000 in
theorem w_352 : (.code ⟨"PaneScreen$Store", "firstFree", "(I)I"⟩ prog_6_method_2_code 4 (Option.some .int) : Cond) ∈ TW := TW_at (n := 347) (by decide +kernel) (by decide +kernel)
set_option maxRecDepth 100000 in
theorem w_353 : (.methodLink "PaneScreen" 73 ⟨"PaneScreen$Store", "take", "(II)V"⟩ : Cond) ∈ TW := TW_at (n := 363) (by decide +kernel) (by decide +kernel)
set_option maxRecDepth 100000 in
theorem w_354 : (.instanceMethod ⟨"PaneScreen$Store", "take", "(II)V"⟩ : Cond) ∈ TW := TW_at (n := 364) (by decide +kernel) (by decide +kernel)
set_option maxRecDepth 100000 in
theorem w_355 : (.selects "PaneScreen$Store" ⟨"PaneScreen$Store", "take", "(II)V"⟩ ⟨"PaneScreen$Store", "take", "(II)V"⟩ : Cond) ∈ TW := TW_at (n := 365) (by decide +kernel) (by decide +kernel)
set_option maxRecDepth 100000 in
theorem w_356 : (.code ⟨"PaneScreen$Store", "take", "(II)V"⟩ prog_6_method_3_code 4 (Option.none : Option Jvm.ClassFile.FieldType) : Cond) ∈ TW := TW_at (n := 366) (by decide +kernel) (by decide +kernel)
set_option maxRecDepth 100000 in
theorem w_357 : (.methodLink "PaneScreen" 76 ⟨"PaneScreen$Pane", "begin", "(III)V"⟩ : Cond) ∈ TW := TW_at (n := 367) (by decide +kernel) (by decide +kernel)
set_option maxRecDepth 100000 in
theorem w_358 : (.instanceMethod ⟨"PaneScreen$Pane", "begin", "(III)V"⟩ : Cond) ∈ TW := TW_at (n := 368) (by decide +kernel) (by decide +kernel)
set_option maxRecDepth 100000 in
theorem w_359 : (.selects "PaneScreen$Pane" ⟨"PaneScreen$Pane", "begin", "(III)V"⟩ ⟨"PaneScreen$Pane", "begin", "(III)V"⟩ : Cond) ∈ TW := TW_at (n := 369) (by decide +kernel) (by decide +kernel)
set_option maxRecDepth 100000 in
theorem w_360 : (.code ⟨"PaneScreen$Pane", "begin", "(III)V"⟩ prog_5_method_2_code 4 (Option.none : Option Jvm.ClassFile.FieldType) : Cond) ∈ TW := TW_at (n := 370) (by decide +kernel) (by decide +kernel)
set_option maxRecDepth 100000 in
theorem w_361 : (.methodLink "PaneScreen" 80 ⟨"PaneScreen$Pane", "place", "(II)V"⟩ : Cond) ∈ TW := TW_at (n := 375) (by decide +kernel) (by decide +kernel)
set_option maxRecDepth 100000 in
theorem w_362 : (.instanceMethod ⟨"PaneScreen$Pane", "place", "(II)V"⟩ : Cond) ∈ TW := TW_at (n := 376) (by decide +kernel) (by decide +kernel)
set_option maxRecDepth 100000 in
theorem w_363 : (.selects "PaneScreen$Pane" ⟨"PaneScreen$Pane", "place", "(II)V"⟩ ⟨"PaneScreen$Pane", "place", "(II)V"⟩ : Cond) ∈ TW := TW_at (n := 377) (by decide +kernel) (by decide +kernel)
set_option maxRecDepth 100000 in
theorem w_364 : (.code ⟨"PaneScreen$Pane", "place", "(II)V"⟩ prog_5_method_4_code 3 (Option.none : Option Jvm.ClassFile.FieldType) : Cond) ∈ TW := TW_at (n := 378) (by decide +kernel) (by decide +kernel)
set_option maxRecDepth 100000 in
theorem w_365 : (.methodLink "PaneScreen" 83 ⟨"PaneScreen$Order", "addInFront", "(I)V"⟩ : Cond) ∈ TW := TW_at (n := 379) (by decide +kernel) (by decide +kernel)
set_option maxRecDepth 100000 in
theorem w_366 : (.instanceMethod ⟨"PaneScreen$Order", "addInFront", "(I)V"⟩ : Cond) ∈ TW := TW_at (n := 380) (by decide +kernel) (by decide +kernel)
set_option maxRecDepth 100000 in
theorem w_367 : (.selects "PaneScreen$Order" ⟨"PaneScreen$Order", "addInFront", "(I)V"⟩ ⟨"PaneScreen$Order", "addInFront", "(I)V"⟩ : Cond) ∈ TW := TW_at (n := 381) (by decide +kernel) (by decide +kernel)
set_option maxRecDepth 100000 in
theorem w_368 : (.initialized "PaneScreen$Order" : Cond) ∈ TW := TW_at (n := 33) (by decide +kernel) (by decide +kernel)
set_option maxRecDepth 100000 in
theorem w_369 : (.code ⟨"PaneScreen$Order", "addInFront", "(I)V"⟩ prog_4_method_4_code 3 (Option.none : Option Jvm.ClassFile.FieldType) : Cond) ∈ TW := TW_at (n := 382) (by decide +kernel) (by decide +kernel)
set_option maxRecDepth 100000 in
theorem w_370 : (.methodLink "PaneScreen" 87 ⟨"PaneScreen", "damageFrame", "(LPaneScreen$Pane;)V"⟩ : Cond) ∈ TW := TW_at (n := 383) (by decide +kernel) (by decide +kernel)
set_option maxRecDepth 100000 in
theorem w_371 : (.instanceMethod ⟨"PaneScreen", "damageFrame", "(LPaneScreen$Pane;)V"⟩ : Cond) ∈ TW := TW_at (n := 385) (by decide +kernel) (by decide +kernel)
set_option maxRecDepth 100000 in
theorem w_372 : (.selects "PaneScreen" ⟨"PaneScreen", "damageFrame", "(LPaneScreen$Pane;)V"⟩ ⟨"PaneScreen", "damageFrame", "(LPaneScreen$Pane;)V"⟩ : Cond) ∈ TW := TW_at (n := 4) (by decide +kernel) (by decide +kernel)
set_option maxRecDepth 100000 in
theorem w_373 : (.code ⟨"PaneScreen", "damageFrame", "(LPaneScreen$Pane;)V"⟩ prog_1_method_30_code 2 (Option.none : Option Jvm.ClassFile.FieldType) : Cond) ∈ TW := TW_at (n := 386) (by decide +kernel) (by decide +kernel)
set_option maxRecDepth 100000 in
theorem w_374 : (.methodLink "PaneScreen" 91 ⟨"PaneScreen", "openPane", "(I)LPaneScreen$Pane;"⟩ : Cond) ∈ TW := TW_at (n := 417) (by decide +kernel) (by decide +kernel)
set_option maxRecDepth 100000 in
theorem w_375 : (.instanceMethod ⟨"PaneScreen", "openPane", "(I)LPaneScreen$Pane;"⟩ : Cond) ∈ TW := TW_at (n := 419) (by decide +kernel) (by decide +kernel)
set_option maxRecDepth 100000 in
theorem w_376 : (.selects "PaneScreen" ⟨"PaneScreen", "openPane", "(I)LPaneScreen$Pane;"⟩ ⟨"PaneScreen", "openPane", "(I)LPaneScreen$Pane;"⟩ : Cond) ∈ TW := TW_at (n := 8) (by decide +kernel) (by decide +kernel)
set_option maxRecDepth 100000 in
theorem w_377 : (.code ⟨"PaneScreen", "openPane", "(I)LPaneScreen$Pane;"⟩ prog_1_method_21_code 2 (Option.some (.object "PaneScreen$Pane")) : Cond) ∈ TW := TW_at (n := 420) (by decide +kernel) (by decide +kernel)
set_option maxRecDepth 100000 in
theorem w_378 : (.methodLink "PaneScreen" 104 ⟨"PaneScreen$Store", "release", "(II)V"⟩ : Cond) ∈ TW := TW_at (n := 436) (by decide +kernel) (by decide +kernel)
set_option maxRecDepth 100000 in
theorem w_379 : (.instanceMethod ⟨"PaneScreen$Store", "release", "(II)V"⟩ : Cond) ∈ TW := TW_at (n := 437) (by decide +kernel) (by decide +kernel)
set_option maxRecDepth 100000 in
theorem w_380 : (.selects "PaneScreen$Store" ⟨"PaneScreen$Store", "release", "(II)V"⟩ ⟨"PaneScreen$Store", "release", "(II)V"⟩ : Cond) ∈ TW := TW_at (n := 438) (by decide +kernel) (by decide +kernel)
set_option maxRecDepth 100000 in
theorem w_381 : (.code ⟨"PaneScreen$Store", "release", "(II)V"⟩ prog_6_method_4_code 4 (Option.none : Option Jvm.ClassFile.FieldType) : Cond) ∈ TW := TW_at (n := 439) (by decide +kernel) (by decide +kernel)
set_option maxRecDepth 100000 in
theorem w_382 : (.methodLink "PaneScreen" 107 ⟨"PaneScreen$Pane", "end", "()V"⟩ : Cond) ∈ TW := TW_at (n := 440) (by decide +kernel) (by decide +kernel)
set_option maxRecDepth 100000 in
theorem w_383 : (.instanceMethod ⟨"PaneScreen$Pane", "end", "()V"⟩ : Cond) ∈ TW := TW_at (n := 441) (by decide +kernel) (by decide +kernel)
set_option maxRecDepth 100000 in
theorem w_384 : (.selects "PaneScreen$Pane" ⟨"PaneScreen$Pane", "end", "()V"⟩ ⟨"PaneScreen$Pane", "end", "()V"⟩ : Cond) ∈ TW := TW_at (n := 442) (by decide +kernel) (by decide +kernel)
set_option maxRecDepth 100000 in
theorem w_385 : (.code ⟨"PaneScreen$Pane", "end", "()V"⟩ prog_5_method_3_code 1 (Option.none : Option Jvm.ClassFile.FieldType) : Cond) ∈ TW := TW_at (n := 443) (by decide +kernel) (by decide +kernel)
set_option maxRecDepth 100000 in
theorem w_386 : (.methodLink "PaneScreen" 110 ⟨"PaneScreen$Order", "remove", "(I)V"⟩ : Cond) ∈ TW := TW_at (n := 444) (by decide +kernel) (by decide +kernel)
set_option maxRecDepth 100000 in
theorem w_387 : (.instanceMethod ⟨"PaneScreen$Order", "remove", "(I)V"⟩ : Cond) ∈ TW := TW_at (n := 445) (by decide +kernel) (by decide +kernel)
set_option maxRecDepth 100000 in
theorem w_388 : (.selects "PaneScreen$Order" ⟨"PaneScreen$Order", "remove", "(I)V"⟩ ⟨"PaneScreen$Order", "remove", "(I)V"⟩ : Cond) ∈ TW := TW_at (n := 446) (by decide +kernel) (by decide +kernel)
set_option maxRecDepth 100000 in
theorem w_389 : (.code ⟨"PaneScreen$Order", "remove", "(I)V"⟩ prog_4_method_6_code 4 (Option.none : Option Jvm.ClassFile.FieldType) : Cond) ∈ TW := TW_at (n := 447) (by decide +kernel) (by decide +kernel)
set_option maxRecDepth 100000 in
theorem w_390 : (.methodLink "PaneScreen" 113 ⟨"PaneScreen$EventLine", "removeAllOf", "(I)V"⟩ : Cond) ∈ TW := TW_at (n := 448) (by decide +kernel) (by decide +kernel)
set_option maxRecDepth 100000 in
theorem w_391 : (.instanceMethod ⟨"PaneScreen$EventLine", "removeAllOf", "(I)V"⟩ : Cond) ∈ TW := TW_at (n := 449) (by decide +kernel) (by decide +kernel)
set_option maxRecDepth 100000 in
theorem w_392 : (.selects "PaneScreen$EventLine" ⟨"PaneScreen$EventLine", "removeAllOf", "(I)V"⟩ ⟨"PaneScreen$EventLine", "removeAllOf", "(I)V"⟩ : Cond) ∈ TW := TW_at (n := 450) (by decide +kernel) (by decide +kernel)
set_option maxRecDepth 100000 in
theorem w_393 : (.code ⟨"PaneScreen$EventLine", "removeAllOf", "(I)V"⟩ prog_3_method_4_code 4 (Option.none : Option Jvm.ClassFile.FieldType) : Cond) ∈ TW := TW_at (n := 451) (by decide +kernel) (by decide +kernel)
set_option maxRecDepth 100000 in
theorem w_394 : (.methodLink "PaneScreen" 116 ⟨"PaneScreen$Order", "first", "()I"⟩ : Cond) ∈ TW := TW_at (n := 456) (by decide +kernel) (by decide +kernel)
set_option maxRecDepth 100000 in
theorem w_395 : (.instanceMethod ⟨"PaneScreen$Order", "first", "()I"⟩ : Cond) ∈ TW := TW_at (n := 457) (by decide +kernel) (by decide +kernel)
set_option maxRecDepth 100000 in
theorem w_396 : (.selects "PaneScreen$Order" ⟨"PaneScreen$Order", "first", "()I"⟩ ⟨"PaneScreen$Order", "first", "()I"⟩ : Cond) ∈ TW := TW_at (n := 458) (by decide +kernel) (by decide +kernel)
set_option maxRecDepth 100000 in
theorem w_397 : (.code ⟨"PaneScreen$Order", "first", "()I"⟩ prog_4_method_2_code 1 (Option.some .int) : Cond) ∈ TW := TW_at (n := 459) (by decide +kernel) (by decide +kernel)
set_option maxRecDepth 100000 in
theorem w_398 : (.methodLink "PaneScreen" 119 ⟨"PaneScreen", "reorder", "(ILPaneScreen$Pane;Z)Z"⟩ : Cond) ∈ TW := TW_at (n := 474) (by decide +kernel) (by decide +kernel)
set_option maxRecDepth 100000 in
theorem w_399 : (.instanceMethod ⟨"PaneScreen", "reorder", "(ILPaneScreen$Pane;Z)Z"⟩ : Cond) ∈ TW := TW_at (n := 476) (by decide +kernel) (by decide +kernel)
set_option maxRecDepth 100000 in
theorem w_400 : (.selects "PaneScreen" ⟨"PaneScreen", "reorder", "(ILPaneScreen$Pane;Z)Z"⟩ ⟨"PaneScreen", "reorder", "(ILPaneScreen$Pane;Z)Z"⟩ : Cond) ∈ TW := TW_at (n := 10) (by decide +kernel) (by decide +kernel)
set_option maxRecDepth 100000 in
theorem w_401 : (.code ⟨"PaneScreen", "reorder", "(ILPaneScreen$Pane;Z)Z"⟩ prog_1_method_32_code 5 (Option.some .boolean) : Cond) ∈ TW := TW_at (n := 477) (by decide +kernel) (by decide +kernel)
set_option maxRecDepth 100000 in
theorem w_402 : (.methodLink "PaneScreen" 123 ⟨"PaneScreen", "requireColour", "(I)V"⟩ : Cond) ∈ TW := TW_at (n := 493) (by decide +kernel) (by decide +kernel)
set_option maxRecDepth 100000 in
theorem w_403 : (.static ⟨"PaneScreen", "requireColour", "(I)V"⟩ : Cond) ∈ TW := TW_at (n := 494) (by decide +kernel) (by decide +kernel)
set_option maxRecDepth 100000 in
theorem w_404 : (.code ⟨"PaneScreen", "requireColour", "(I)V"⟩ prog_1_method_25_code 1 (Option.none : Option Jvm.ClassFile.FieldType) : Cond) ∈ TW := TW_at (n := 495) (by decide +kernel) (by decide +kernel)
set_option maxRecDepth 100000 in
theorem w_405 : (.methodLink "PaneScreen" 126 ⟨"PaneScreen$Pane", "has", "(II)Z"⟩ : Cond) ∈ TW := TW_at (n := 496) (by decide +kernel) (by decide +kernel)
set_option maxRecDepth 100000 in
theorem w_406 : (.methodLink "PaneScreen" 133 ⟨"PaneScreen$Pane", "cell", "(II)I"⟩ : Cond) ∈ TW := TW_at (n := 245) (by decide +kernel) (by decide +kernel)
set_option maxRecDepth 100000 in
theorem w_407 : (.instanceMethod ⟨"PaneScreen$Pane", "cell", "(II)I"⟩ : Cond) ∈ TW := TW_at (n := 246) (by decide +kernel) (by decide +kernel)
set_option maxRecDepth 100000 in
theorem w_408 : (.selects "PaneScreen$Pane" ⟨"PaneScreen$Pane", "cell", "(II)I"⟩ ⟨"PaneScreen$Pane", "cell", "(II)I"⟩ : Cond) ∈ TW := TW_at (n := 247) (by decide +kernel) (by decide +kernel)
set_option maxRecDepth 100000 in
theorem w_409 : (.code ⟨"PaneScreen$Pane", "cell", "(II)I"⟩ prog_5_method_8_code 3 (Option.some .int) : Cond) ∈ TW := TW_at (n := 248) (by decide +kernel) (by decide +kernel)
set_option maxRecDepth 100000 in
theorem w_410 : (.methodLink "PaneScreen" 137 ⟨"PaneScreen", "damagePart", "(LPaneScreen$Pane;IIII)V"⟩ : Cond) ∈ TW := TW_at (n := 387) (by decide +kernel) (by decide +kernel)
set_option maxRecDepth 100000 in
theorem w_411 : (.instanceMethod ⟨"PaneScreen", "damagePart", "(LPaneScreen$Pane;IIII)V"⟩ : Cond) ∈ TW := TW_at (n := 389) (by decide +kernel) (by decide +kernel)
set_option maxRecDepth 100000 in
theorem w_412 : (.selects "PaneScreen" ⟨"PaneScreen", "damagePart", "(LPaneScreen$Pane;IIII)V"⟩ ⟨"PaneScreen", "damagePart", "(LPaneScreen$Pane;IIII)V"⟩ : Cond) ∈ TW := TW_at (n := 5) (by decide +kernel) (by decide +kernel)
set_option maxRecDepth 100000 in
theorem w_413 : (.code ⟨"PaneScreen", "damagePart", "(LPaneScreen$Pane;IIII)V"⟩ prog_1_method_31_code 6 (Option.none : Option Jvm.ClassFile.FieldType) : Cond) ∈ TW := TW_at (n := 390) (by decide +kernel) (by decide +kernel)
set_option maxRecDepth 100000 in
theorem w_414 : (.methodLink "PaneScreen" 141 ⟨"PaneScreen", "requireExtent", "(I)V"⟩ : Cond) ∈ TW := TW_at (n := 504) (by decide +kernel) (by decide +kernel)
set_option maxRecDepth 100000 in
theorem w_415 : (.static ⟨"PaneScreen", "requireExtent", "(I)V"⟩ : Cond) ∈ TW := TW_at (n := 505) (by decide +kernel) (by decide +kernel)
set_option maxRecDepth 100000 in
theorem w_416 : (.code ⟨"PaneScreen", "requireExtent", "(I)V"⟩ prog_1_method_24_code 1 (Option.none : Option Jvm.ClassFile.FieldType) : Cond) ∈ TW := TW_at (n := 506) (by decide +kernel) (by decide +kernel)
set_option maxRecDepth 100000 in
theorem w_417 : (.methodLink "PaneScreen" 152 ⟨"PaneScreen$Pane", "putPen", "(II)V"⟩ : Cond) ∈ TW := TW_at (n := 516) (by decide +kernel) (by decide +kernel)
set_option maxRecDepth 100000 in
theorem w_418 : (.methodLink "PaneScreen" 155 ⟨"PaneScreen", "drawFromPen", "(LPaneScreen$Pane;III)I"⟩ : Cond) ∈ TW := TW_at (n := 524) (by decide +kernel) (by decide +kernel)
set_option maxRecDepth 100000 in
theorem w_419 : (.instanceMethod ⟨"PaneScreen", "drawFromPen", "(LPaneScreen$Pane;III)I"⟩ : Cond) ∈ TW := TW_at (n := 526) (by decide +kernel) (by decide +kernel)
set_option maxRecDepth 100000 in
theorem w_420 : (.selects "PaneScreen" ⟨"PaneScreen", "drawFromPen", "(LPaneScreen$Pane;III)I"⟩ ⟨"PaneScreen", "drawFromPen", "(LPaneScreen$Pane;III)I"⟩ : Cond) ∈ TW := TW_at (n := 11) (by decide +kernel) (by decide +kernel)
set_option maxRecDepth 100000 in
theorem w_421 : (.code ⟨"PaneScreen", "drawFromPen", "(LPaneScreen$Pane;III)I"⟩ prog_1_method_34_code 16 (Option.some .int) : Cond) ∈ TW := TW_at (n := 527) (by decide +kernel) (by decide +kernel)
set_option maxRecDepth 100000 in
theorem w_422 : (.methodLink "PaneScreen" 159 ⟨"PaneScreen$Store", "keepOld", "()V"⟩ : Cond) ∈ TW := TW_at (n := 544) (by decide +kernel) (by decide +kernel)
set_option maxRecDepth 100000 in
theorem w_423 : (.instanceMethod ⟨"PaneScreen$Store", "keepOld", "()V"⟩ : Cond) ∈ TW := TW_at (n := 545) (by decide +kernel) (by decide +kernel)
set_option maxRecDepth 100000 in
theorem w_424 : (.selects "PaneScreen$Store" ⟨"PaneScreen$Store", "keepOld", "()V"⟩ ⟨"PaneScreen$Store", "keepOld", "()V"⟩ : Cond) ∈ TW := TW_at (n := 546) (by decide +kernel) (by decide +kernel)
set_option maxRecDepth 100000 in
theorem w_425 : (.code ⟨"PaneScreen$Store", "keepOld", "()V"⟩ prog_6_method_5_code 1 (Option.none : Option Jvm.ClassFile.FieldType) : Cond) ∈ TW := TW_at (n := 547) (by decide +kernel) (by decide +kernel)
set_option maxRecDepth 100000 in
theorem w_426 : (.methodLink "PaneScreen" 165 ⟨"PaneScreen$Damage", "holds", "(II)Z"⟩ : Cond) ∈ TW := TW_at (n := 225) (by decide +kernel) (by decide +kernel)
set_option maxRecDepth 100000 in
theorem w_427 : (.instanceMethod ⟨"PaneScreen$Damage", "holds", "(II)Z"⟩ : Cond) ∈ TW := TW_at (n := 226) (by decide +kernel) (by decide +kernel)
set_option maxRecDepth 100000 in
theorem w_428 : (.selects "PaneScreen$Damage" ⟨"PaneScreen$Damage", "holds", "(II)Z"⟩ ⟨"PaneScreen$Damage", "holds", "(II)Z"⟩ : Cond) ∈ TW := TW_at (n := 227) (by decide +kernel) (by decide +kernel)
set_option maxRecDepth 100000 in
theorem w_429 : (.code ⟨"PaneScreen$Damage", "holds", "(II)Z"⟩ prog_2_method_3_code 4 (Option.some .boolean) : Cond) ∈ TW := TW_at (n := 228) (by decide +kernel) (by decide +kernel)
set_option maxRecDepth 100000 in
theorem w_430 : (.methodLink "PaneScreen" 168 ⟨"PaneScreen", "colourBelow", "(II)I"⟩ : Cond) ∈ TW := TW_at (n := 229) (by decide +kernel) (by decide +kernel)
set_option maxRecDepth 100000 in
theorem w_431 : (.instanceMethod ⟨"PaneScreen", "colourBelow", "(II)I"⟩ : Cond) ∈ TW := TW_at (n := 231) (by decide +kernel) (by decide +kernel)
set_option maxRecDepth 100000 in
theorem w_432 : (.selects "PaneScreen" ⟨"PaneScreen", "colourBelow", "(II)I"⟩ ⟨"PaneScreen", "colourBelow", "(II)I"⟩ : Cond) ∈ TW := TW_at (n := 0) (by decide +kernel) (by decide +kernel)
set_option maxRecDepth 100000 in
theorem w_433 : (.code ⟨"PaneScreen", "colourBelow", "(II)I"⟩ prog_1_method_29_code 5 (Option.some .int) : Cond) ∈ TW := TW_at (n := 232) (by decide +kernel) (by decide +kernel)
set_option maxRecDepth 100000 in
theorem w_434 : (.methodLink "PaneScreen" 171 ⟨"PaneScreen$Damage", "forget", "()V"⟩ : Cond) ∈ TW := TW_at (n := 249) (by decide +kernel) (by decide +kernel)
set_option maxRecDepth 100000 in
theorem w_435 : (.instanceMethod ⟨"PaneScreen$Damage", "forget", "()V"⟩ : Cond) ∈ TW := TW_at (n := 250) (by decide +kernel) (by decide +kernel)
set_option maxRecDepth 100000 in
theorem w_436 : (.selects "PaneScreen$Damage" ⟨"PaneScreen$Damage", "forget", "()V"⟩ ⟨"PaneScreen$Damage", "forget", "()V"⟩ : Cond) ∈ TW := TW_at (n := 251) (by decide +kernel) (by decide +kernel)
set_option maxRecDepth 100000 in
theorem w_437 : (.code ⟨"PaneScreen$Damage", "forget", "()V"⟩ prog_2_method_4_code 1 (Option.none : Option Jvm.ClassFile.FieldType) : Cond) ∈ TW := TW_at (n := 252) (by decide +kernel) (by decide +kernel)
set_option maxRecDepth 100000 in
theorem w_438 : (.methodLink "PaneScreen" 174 ⟨"PaneScreen", "requireOnScreen", "(II)V"⟩ : Cond) ∈ TW := TW_at (n := 559) (by decide +kernel) (by decide +kernel)
set_option maxRecDepth 100000 in
theorem w_439 : (.static ⟨"PaneScreen", "requireOnScreen", "(II)V"⟩ : Cond) ∈ TW := TW_at (n := 560) (by decide +kernel) (by decide +kernel)
set_option maxRecDepth 100000 in
theorem w_440 : (.code ⟨"PaneScreen", "requireOnScreen", "(II)V"⟩ prog_1_method_26_code 2 (Option.none : Option Jvm.ClassFile.FieldType) : Cond) ∈ TW := TW_at (n := 561) (by decide +kernel) (by decide +kernel)
set_option maxRecDepth 100000 in
theorem w_441 : (.methodLink "PaneScreen" 180 ⟨"PaneScreen", "ownerOf", "(II)I"⟩ : Cond) ∈ TW := TW_at (n := 233) (by decide +kernel) (by decide +kernel)
set_option maxRecDepth 100000 in
theorem w_442 : (.instanceMethod ⟨"PaneScreen", "ownerOf", "(II)I"⟩ : Cond) ∈ TW := TW_at (n := 235) (by decide +kernel) (by decide +kernel)
set_option maxRecDepth 100000 in
theorem w_443 : (.selects "PaneScreen" ⟨"PaneScreen", "ownerOf", "(II)I"⟩ ⟨"PaneScreen", "ownerOf", "(II)I"⟩ : Cond) ∈ TW := TW_at (n := 1) (by decide +kernel) (by decide +kernel)
set_option maxRecDepth 100000 in
theorem w_444 : (.code ⟨"PaneScreen", "ownerOf", "(II)I"⟩ prog_1_method_28_code 5 (Option.some .int) : Cond) ∈ TW := TW_at (n := 236) (by decide +kernel) (by decide +kernel)
set_option maxRecDepth 100000 in
theorem w_445 : (.methodLink "PaneScreen" 183 ⟨"PaneScreen", "giveFocus", "(I)V"⟩ : Cond) ∈ TW := TW_at (n := 605) (by decide +kernel) (by decide +kernel)
set_option maxRecDepth 100000 in
theorem w_446 : (.instanceMethod ⟨"PaneScreen", "giveFocus", "(I)V"⟩ : Cond) ∈ TW := TW_at (n := 607) (by decide +kernel) (by decide +kernel)
set_option maxRecDepth 100000 in
theorem w_447 : (.selects "PaneScreen" ⟨"PaneScreen", "giveFocus", "(I)V"⟩ ⟨"PaneScreen", "giveFocus", "(I)V"⟩ : Cond) ∈ TW := TW_at (n := 12) (by decide +kernel) (by decide +kernel)
set_option maxRecDepth 100000 in
theorem w_448 : (.code ⟨"PaneScreen", "giveFocus", "(I)V"⟩ prog_1_method_33_code 2 (Option.none : Option Jvm.ClassFile.FieldType) : Cond) ∈ TW := TW_at (n := 608) (by decide +kernel) (by decide +kernel)
set_option maxRecDepth 100000 in
theorem w_449 : (.methodLink "PaneScreen" 192 ⟨"PaneScreen$EventLine", "tell", "(IIII)V"⟩ : Cond) ∈ TW := TW_at (n := 257) (by decide +kernel) (by decide +kernel)
set_option maxRecDepth 100000 in
theorem w_450 : (.instanceMethod ⟨"PaneScreen$EventLine", "tell", "(IIII)V"⟩ : Cond) ∈ TW := TW_at (n := 258) (by decide +kernel) (by decide +kernel)
set_option maxRecDepth 100000 in
theorem w_451 : (.selects "PaneScreen$EventLine" ⟨"PaneScreen$EventLine", "tell", "(IIII)V"⟩ ⟨"PaneScreen$EventLine", "tell", "(IIII)V"⟩ : Cond) ∈ TW := TW_at (n := 259) (by decide +kernel) (by decide +kernel)
set_option maxRecDepth 100000 in
theorem w_452 : (.code ⟨"PaneScreen$EventLine", "tell", "(IIII)V"⟩ prog_3_method_2_code 5 (Option.none : Option Jvm.ClassFile.FieldType) : Cond) ∈ TW := TW_at (n := 260) (by decide +kernel) (by decide +kernel)
set_option maxRecDepth 100000 in
theorem w_453 : (.methodLink "PaneScreen" 202 ⟨"PaneScreen$EventLine", "takeFirst", "()V"⟩ : Cond) ∈ TW := TW_at (n := 616) (by decide +kernel) (by decide +kernel)
set_option maxRecDepth 100000 in
theorem w_454 : (.instanceMethod ⟨"PaneScreen$EventLine", "takeFirst", "()V"⟩ : Cond) ∈ TW := TW_at (n := 617) (by decide +kernel) (by decide +kernel)
set_option maxRecDepth 100000 in
theorem w_455 : (.selects "PaneScreen$EventLine" ⟨"PaneScreen$EventLine", "takeFirst", "()V"⟩ ⟨"PaneScreen$EventLine", "takeFirst", "()V"⟩ : Cond) ∈ TW := TW_at (n := 618) (by decide +kernel) (by decide +kernel)
set_option maxRecDepth 100000 in
theorem w_456 : (.code ⟨"PaneScreen$EventLine", "takeFirst", "()V"⟩ prog_3_method_3_code 2 (Option.none : Option Jvm.ClassFile.FieldType) : Cond) ∈ TW := TW_at (n := 619) (by decide +kernel) (by decide +kernel)
set_option maxRecDepth 100000 in
theorem w_457 : (.methodLink "PaneScreen" 221 ⟨"PaneScreen$Store", "freeCells", "()I"⟩ : Cond) ∈ TW := TW_at (n := 634) (by decide +kernel) (by decide +kernel)
set_option maxRecDepth 100000 in
theorem w_458 : (.instanceMethod ⟨"PaneScreen$Store", "freeCells", "()I"⟩ : Cond) ∈ TW := TW_at (n := 635) (by decide +kernel) (by decide +kernel)
set_option maxRecDepth 100000 in
theorem w_459 : (.selects "PaneScreen$Store" ⟨"PaneScreen$Store", "freeCells", "()I"⟩ ⟨"PaneScreen$Store", "freeCells", "()I"⟩ : Cond) ∈ TW := TW_at (n := 636) (by decide +kernel) (by decide +kernel)
set_option maxRecDepth 100000 in
theorem w_460 : (.code ⟨"PaneScreen$Store", "freeCells", "()I"⟩ prog_6_method_6_code 3 (Option.some .int) : Cond) ∈ TW := TW_at (n := 637) (by decide +kernel) (by decide +kernel)
set_option maxRecDepth 100000 in
theorem w_461 : (.methodLink "PaneScreen" 224 ⟨"PaneScreen$Store", "longestFree", "()I"⟩ : Cond) ∈ TW := TW_at (n := 638) (by decide +kernel) (by decide +kernel)
set_option maxRecDepth 100000 in
theorem w_462 : (.instanceMethod ⟨"PaneScreen$Store", "longestFree", "()I"⟩ : Cond) ∈ TW := TW_at (n := 639) (by decide +kernel) (by decide +kernel)
set_option maxRecDepth 100000 in
theorem w_463 : (.selects "PaneScreen$Store" ⟨"PaneScreen$Store", "longestFree", "()I"⟩ ⟨"PaneScreen$Store", "longestFree", "()I"⟩ : Cond) ∈ TW := TW_at (n := 640) (by decide +kernel) (by decide +kernel)
set_option maxRecDepth 100000 in
theorem w_464 : (.code ⟨"PaneScreen$Store", "longestFree", "()I"⟩ prog_6_method_7_code 4 (Option.some .int) : Cond) ∈ TW := TW_at (n := 641) (by decide +kernel) (by decide +kernel)
set_option maxRecDepth 100000 in
theorem w_465 : (.methodLink "PaneScreen" 238 ⟨"PaneScreen$Pane", "covers", "(II)Z"⟩ : Cond) ∈ TW := TW_at (n := 237) (by decide +kernel) (by decide +kernel)
set_option maxRecDepth 100000 in
theorem w_466 : (.instanceMethod ⟨"PaneScreen$Pane", "covers", "(II)Z"⟩ : Cond) ∈ TW := TW_at (n := 238) (by decide +kernel) (by decide +kernel)
set_option maxRecDepth 100000 in
theorem w_467 : (.selects "PaneScreen$Pane" ⟨"PaneScreen$Pane", "covers", "(II)Z"⟩ ⟨"PaneScreen$Pane", "covers", "(II)Z"⟩ : Cond) ∈ TW := TW_at (n := 239) (by decide +kernel) (by decide +kernel)
set_option maxRecDepth 100000 in
theorem w_468 : (.code ⟨"PaneScreen$Pane", "covers", "(II)Z"⟩ prog_5_method_7_code 3 (Option.some .boolean) : Cond) ∈ TW := TW_at (n := 240) (by decide +kernel) (by decide +kernel)
set_option maxRecDepth 100000 in
theorem w_469 : (.methodLink "PaneScreen" 241 ⟨"PaneScreen$Damage", "add", "(IIII)V"⟩ : Cond) ∈ TW := TW_at (n := 391) (by decide +kernel) (by decide +kernel)
set_option maxRecDepth 100000 in
theorem w_470 : (.instanceMethod ⟨"PaneScreen$Damage", "add", "(IIII)V"⟩ : Cond) ∈ TW := TW_at (n := 392) (by decide +kernel) (by decide +kernel)
set_option maxRecDepth 100000 in
theorem w_471 : (.selects "PaneScreen$Damage" ⟨"PaneScreen$Damage", "add", "(IIII)V"⟩ ⟨"PaneScreen$Damage", "add", "(IIII)V"⟩ : Cond) ∈ TW := TW_at (n := 393) (by decide +kernel) (by decide +kernel)
set_option maxRecDepth 100000 in
theorem w_472 : (.code ⟨"PaneScreen$Damage", "add", "(IIII)V"⟩ prog_2_method_2_code 9 (Option.none : Option Jvm.ClassFile.FieldType) : Cond) ∈ TW := TW_at (n := 394) (by decide +kernel) (by decide +kernel)
set_option maxRecDepth 100000 in
theorem w_473 : (.methodLink "PaneScreen" 244 ⟨"PaneScreen$Order", "last", "()I"⟩ : Cond) ∈ TW := TW_at (n := 478) (by decide +kernel) (by decide +kernel)
set_option maxRecDepth 100000 in
theorem w_474 : (.instanceMethod ⟨"PaneScreen$Order", "last", "()I"⟩ : Cond) ∈ TW := TW_at (n := 479) (by decide +kernel) (by decide +kernel)
set_option maxRecDepth 100000 in
theorem w_475 : (.selects "PaneScreen$Order" ⟨"PaneScreen$Order", "last", "()I"⟩ ⟨"PaneScreen$Order", "last", "()I"⟩ : Cond) ∈ TW := TW_at (n := 480) (by decide +kernel) (by decide +kernel)
set_option maxRecDepth 100000 in
theorem w_476 : (.code ⟨"PaneScreen$Order", "last", "()I"⟩ prog_4_method_3_code 1 (Option.some .int) : Cond) ∈ TW := TW_at (n := 481) (by decide +kernel) (by decide +kernel)
set_option maxRecDepth 100000 in
theorem w_477 : (.methodLink "PaneScreen" 247 ⟨"PaneScreen$Order", "addBehind", "(I)V"⟩ : Cond) ∈ TW := TW_at (n := 482) (by decide +kernel) (by decide +kernel)
set_option maxRecDepth 100000 in
theorem w_478 : (.instanceMethod ⟨"PaneScreen$Order", "addBehind", "(I)V"⟩ : Cond) ∈ TW := TW_at (n := 483) (by decide +kernel) (by decide +kernel)
set_option maxRecDepth 100000 in
theorem w_479 : (.selects "PaneScreen$Order" ⟨"PaneScreen$Order", "addBehind", "(I)V"⟩ ⟨"PaneScreen$Order", "addBehind", "(I)V"⟩ : Cond) ∈ TW := TW_at (n := 484) (by decide +kernel) (by decide +kernel)
set_option maxRecDepth 100000 in
theorem w_480 : (.code ⟨"PaneScreen$Order", "addBehind", "(I)V"⟩ prog_4_method_5_code 2 (Option.none : Option Jvm.ClassFile.FieldType) : Cond) ∈ TW := TW_at (n := 485) (by decide +kernel) (by decide +kernel)
set_option maxRecDepth 100000 in
theorem w_481 : (.methodLink "PaneScreen" 259 ⟨"PaneScreen", "stepped", "(III)I"⟩ : Cond) ∈ TW := TW_at (n := 531) (by decide +kernel) (by decide +kernel)
set_option maxRecDepth 100000 in
theorem w_482 : (.static ⟨"PaneScreen", "stepped", "(III)I"⟩ : Cond) ∈ TW := TW_at (n := 532) (by decide +kernel) (by decide +kernel)
set_option maxRecDepth 100000 in
theorem w_483 : (.code ⟨"PaneScreen", "stepped", "(III)I"⟩ prog_1_method_35_code 3 (Option.some .int) : Cond) ∈ TW := TW_at (n := 533) (by decide +kernel) (by decide +kernel)
set_option maxRecDepth 100000 in
theorem w_484 : (.classLink "PaneScreenLaw" 13 "java/lang/IllegalArgumentException" : Cond) ∈ TW := TW_at (n := 264) (by decide +kernel) (by decide +kernel)
set_option maxRecDepth 100000 in
theorem w_485 : (.classLink "PaneScreenLaw" 15 "java/lang/IllegalStateException" : Cond) ∈ TW := TW_at (n := 265) (by decide +kernel) (by decide +kernel)
set_option maxRecDepth 100000 in
theorem w_486 : (.classLink "PaneScreenLaw" 21 "java/util/NoSuchElementException" : Cond) ∈ TW := TW_at (n := 412) (by decide +kernel) (by decide +kernel)
set_option maxRecDepth 100000 in
theorem w_487 : (.classLink "PaneScreenLaw" 52 "java/lang/IndexOutOfBoundsException" : Cond) ∈ TW := TW_at (n := 554) (by decide +kernel) (by decide +kernel)
set_option maxRecDepth 100000 in
theorem w_488 : (.methodLink "PaneScreen$Damage" 24 ⟨"java/lang/Math", "max", "(II)I"⟩ : Cond) ∈ TW := TW_at (n := 395) (by decide +kernel) (by decide +kernel)
set_option maxRecDepth 100000 in
theorem w_489 : (.methodLink "PaneScreen$Damage" 30 ⟨"java/lang/Math", "min", "(II)I"⟩ : Cond) ∈ TW := TW_at (n := 398) (by decide +kernel) (by decide +kernel)
set_option maxRecDepth 100000 in
theorem w_490 : (.methodLink "PaneScreen" 144 ⟨"java/lang/Math", "max", "(II)I"⟩ : Cond) ∈ TW := TW_at (n := 507) (by decide +kernel) (by decide +kernel)
set_option maxRecDepth 100000 in
theorem w_491 : (.methodLink "PaneScreen" 149 ⟨"java/lang/Math", "min", "(II)I"⟩ : Cond) ∈ TW := TW_at (n := 508) (by decide +kernel) (by decide +kernel)
set_option maxRecDepth 100000 in
theorem w_492 : (.methodLink "PaneScreen" 256 ⟨"java/lang/Math", "abs", "(I)I"⟩ : Cond) ∈ TW := TW_at (n := 528) (by decide +kernel) (by decide +kernel)
set_option maxRecDepth 100000 in
theorem w_493 : (.methodLink "PaneScreen" 263 ⟨"java/lang/Math", "floorDiv", "(II)I"⟩ : Cond) ∈ TW := TW_at (n := 534) (by decide +kernel) (by decide +kernel)
set_option maxRecDepth 100000 in
theorem w_494 : (.methodLink "PaneScreen$Store" 28 ⟨"java/lang/Math", "max", "(II)I"⟩ : Cond) ∈ TW := TW_at (n := 642) (by decide +kernel) (by decide +kernel)
set_option maxRecDepth 100000 in
theorem w_495 : (.static ⟨"java/lang/Math", "abs", "(I)I"⟩ : Cond) ∈ TW := TW_at (n := 529) (by decide +kernel) (by decide +kernel)
set_option maxRecDepth 100000 in
theorem w_496 : (.code ⟨"java/lang/Math", "abs", "(I)I"⟩ prog_13_method_59_code 1 (Option.some .int) : Cond) ∈ TW := TW_at (n := 530) (by decide +kernel) (by decide +kernel)
set_option maxRecDepth 100000 in
theorem w_497 : (.static ⟨"java/lang/Math", "floorDiv", "(II)I"⟩ : Cond) ∈ TW := TW_at (n := 535) (by decide +kernel) (by decide +kernel)
set_option maxRecDepth 100000 in
theorem w_498 : (.code ⟨"java/lang/Math", "floorDiv", "(II)I"⟩ prog_13_method_47_code 3 (Option.some .int) : Cond) ∈ TW := TW_at (n := 536) (by decide +kernel) (by decide +kernel)
set_option maxRecDepth 100000 in
theorem w_499 : (.static ⟨"java/lang/Math", "max", "(II)I"⟩ : Cond) ∈ TW := TW_at (n := 396) (by decide +kernel) (by decide +kernel)
set_option maxRecDepth 100000 in
theorem w_500 : (.code ⟨"java/lang/Math", "max", "(II)I"⟩ prog_13_method_65_code 2 (Option.some .int) : Cond) ∈ TW := TW_at (n := 397) (by decide +kernel) (by decide +kernel)
set_option maxRecDepth 100000 in
theorem w_501 : (.static ⟨"java/lang/Math", "min", "(II)I"⟩ : Cond) ∈ TW := TW_at (n := 399) (by decide +kernel) (by decide +kernel)
set_option maxRecDepth 100000 in
theorem w_502 : (.code ⟨"java/lang/Math", "min", "(II)I"⟩ prog_13_method_69_code 2 (Option.some .int) : Cond) ∈ TW := TW_at (n := 400) (by decide +kernel) (by decide +kernel)
set_option maxRecDepth 100000 in
theorem w_503 : (.initialized "java/lang/Math" : Cond) ∈ TW := TW_at (n := 43) (by decide +kernel) (by decide +kernel)
set_option maxRecDepth 100000 in
theorem w_504 : (.methodLink "PaneScreen$Store" 22 ⟨"java/lang/System", "arraycopy", "(Ljava/lang/Object;ILjava/lang/Object;II)V"⟩ : Cond) ∈ TW := TW_at (n := 548) (by decide +kernel) (by decide +kernel)
set_option maxRecDepth 100000 in
theorem w_505 : (.native ⟨"java/lang/System", "arraycopy", "(Ljava/lang/Object;ILjava/lang/Object;II)V"⟩ : Cond) ∈ TW := TW_at (n := 550) (by decide +kernel) (by decide +kernel)
set_option maxRecDepth 100000 in
theorem w_506 : (.static ⟨"java/lang/System", "arraycopy", "(Ljava/lang/Object;ILjava/lang/Object;II)V"⟩ : Cond) ∈ TW := TW_at (n := 549) (by decide +kernel) (by decide +kernel)
set_option maxRecDepth 100000 in
theorem w_507 : (.initialized "java/lang/System" : Cond) ∈ TW := TW_at (n := 45) (by decide +kernel) (by decide +kernel)
set_option maxRecDepth 100000 in
theorem w_508 : (.classLink "PaneScreen" 70 "java/lang/IllegalStateException" : Cond) ∈ TW := TW_at (n := 348) (by decide +kernel) (by decide +kernel)
set_option maxRecDepth 100000 in
theorem w_509 : (.initialized "java/lang/IllegalStateException" : Cond) ∈ TW := TW_at (n := 42) (by decide +kernel) (by decide +kernel)
set_option maxRecDepth 100000 in
theorem w_510 : (.classLink "PaneScreen" 177 "java/lang/IndexOutOfBoundsException" : Cond) ∈ TW := TW_at (n := 562) (by decide +kernel) (by decide +kernel)
set_option maxRecDepth 100000 in
theorem w_511 : (.initialized "java/lang/IndexOutOfBoundsException" : Cond) ∈ TW := TW_at (n := 46) (by decide +kernel) (by decide +kernel)
set_option maxRecDepth 100000 in
theorem w_512 : (.classLink "PaneScreen" 199 "java/util/NoSuchElementException" : Cond) ∈ TW := TW_at (n := 421) (by decide +kernel) (by decide +kernel)
set_option maxRecDepth 100000 in
theorem w_513 : (.initialized "java/util/NoSuchElementException" : Cond) ∈ TW := TW_at (n := 44) (by decide +kernel) (by decide +kernel)
set_option maxRecDepth 100000 in
theorem w_514 : (.classLink "PaneScreen" 217 "java/lang/IllegalArgumentException" : Cond) ∈ TW := TW_at (n := 273) (by decide +kernel) (by decide +kernel)
set_option maxRecDepth 100000 in
theorem w_515 : (.initialized "java/lang/IllegalArgumentException" : Cond) ∈ TW := TW_at (n := 41) (by decide +kernel) (by decide +kernel)
