/-! THE WORDS: each word of the tables is among lw_tbl, by its place -/
theorem tb_1 {w : Cond} (h : w ∈ tables_1_1) : w ∈ lw_tbl := List.mem_append_right _ (List.mem_append_left _ h)
theorem tb_2 {w : Cond} (h : w ∈ tables_1_2) : w ∈ lw_tbl := List.mem_append_right _ (List.mem_append_right _ (List.mem_append_left _ h))
theorem tb_3 {w : Cond} (h : w ∈ tables_1_3) : w ∈ lw_tbl := List.mem_append_right _ (List.mem_append_right _ (List.mem_append_right _ (List.mem_append_left _ h)))
theorem tb_4 {w : Cond} (h : w ∈ tables_1_4) : w ∈ lw_tbl := List.mem_append_right _ (List.mem_append_right _ (List.mem_append_right _ (List.mem_append_right _ (List.mem_append_left _ h))))
theorem tb_5 {w : Cond} (h : w ∈ tables_1_5) : w ∈ lw_tbl := List.mem_append_right _ (List.mem_append_right _ (List.mem_append_right _ (List.mem_append_right _ (List.mem_append_right _ (List.mem_append_left _ h)))))
theorem tb_6 {w : Cond} (h : w ∈ tables_1_6) : w ∈ lw_tbl := List.mem_append_right _ (List.mem_append_right _ (List.mem_append_right _ (List.mem_append_right _ (List.mem_append_right _ (List.mem_append_right _ (List.mem_append_left _ h))))))
theorem tb_7 {w : Cond} (h : w ∈ tables_1_7) : w ∈ lw_tbl := List.mem_append_right _ (List.mem_append_right _ (List.mem_append_right _ (List.mem_append_right _ (List.mem_append_right _ (List.mem_append_right _ (List.mem_append_right _ (h)))))))
def lw_w : List Cond := lw_tbl.filter goodWord
theorem lw_w_in (w : Cond) (h : w ∈ lw_w) : w ∈ lw_tbl := (List.mem_filter.mp h).1
theorem lw_good (w : Cond) (h : w ∈ lw_w) : (w.onTables && w.keeps) = true ∨ ∃ ty, w = .arrayClass ty := good_of_word (List.mem_filter.mp h).2
theorem tw {w : Cond} (h : w ∈ lw_tbl) (hg : goodWord w = true) : w ∈ lw_w := List.mem_filter.mpr ⟨h, hg⟩
theorem hIni_L : Cond.initialized RL ∈ lw_w := tw (tb_1 (List.mem_of_getElem? (i := 0) rfl)) rfl
theorem hIni_X10 : Cond.initialized RX10 ∈ lw_w := tw (tb_1 (List.mem_of_getElem? (i := 1) rfl)) rfl
theorem hIni_X8 : Cond.initialized RX8 ∈ lw_w := tw (tb_1 (List.mem_of_getElem? (i := 2) rfl)) rfl
theorem hIni_X5 : Cond.initialized RX5 ∈ lw_w := tw (tb_1 (List.mem_of_getElem? (i := 3) rfl)) rfl
theorem hIni_X9 : Cond.initialized RX9 ∈ lw_w := tw (tb_1 (List.mem_of_getElem? (i := 4) rfl)) rfl
theorem hIni_X1 : Cond.initialized RX1 ∈ lw_w := tw (tb_1 (List.mem_of_getElem? (i := 5) rfl)) rfl
theorem hIni_X6 : Cond.initialized RX6 ∈ lw_w := tw (tb_1 (List.mem_of_getElem? (i := 6) rfl)) rfl
theorem hIni_X0 : Cond.initialized RX0 ∈ lw_w := tw (tb_1 (List.mem_of_getElem? (i := 7) rfl)) rfl
theorem hIni_X2 : Cond.initialized RX2 ∈ lw_w := tw (tb_1 (List.mem_of_getElem? (i := 8) rfl)) rfl
theorem hIni_X4 : Cond.initialized RX4 ∈ lw_w := tw (tb_1 (List.mem_of_getElem? (i := 9) rfl)) rfl
theorem hIni_X3 : Cond.initialized RX3 ∈ lw_w := tw (tb_1 (List.mem_of_getElem? (i := 10) rfl)) rfl
theorem hIni_X7 : Cond.initialized RX7 ∈ lw_w := tw (tb_1 (List.mem_of_getElem? (i := 11) rfl)) rfl
theorem hIni_X11 : Cond.initialized RX11 ∈ lw_w := tw (tb_1 (List.mem_of_getElem? (i := 12) rfl)) rfl
theorem hIni_J7 : Cond.initialized RJ7 ∈ lw_w := tw (tb_1 (List.mem_of_getElem? (i := 13) rfl)) rfl
theorem hIni_J0 : Cond.initialized RJ0 ∈ lw_w := tw (tb_1 (List.mem_of_getElem? (i := 14) rfl)) rfl
theorem hIni_J1 : Cond.initialized RJ1 ∈ lw_w := tw (tb_1 (List.mem_of_getElem? (i := 15) rfl)) rfl
theorem hIni_J3 : Cond.initialized RJ3 ∈ lw_w := tw (tb_1 (List.mem_of_getElem? (i := 16) rfl)) rfl
theorem hIni_J2 : Cond.initialized RJ2 ∈ lw_w := tw (tb_1 (List.mem_of_getElem? (i := 17) rfl)) rfl
theorem hIni_J10 : Cond.initialized RJ10 ∈ lw_w := tw (tb_1 (List.mem_of_getElem? (i := 18) rfl)) rfl
theorem hIni_J6 : Cond.initialized RJ6 ∈ lw_w := tw (tb_1 (List.mem_of_getElem? (i := 19) rfl)) rfl
theorem hIni_J9 : Cond.initialized RJ9 ∈ lw_w := tw (tb_1 (List.mem_of_getElem? (i := 20) rfl)) rfl
theorem hCL_L_7 : Cond.classLink RL 7 RX10 ∈ lw_w := tw (tb_1 (List.mem_of_getElem? (i := 21) rfl)) rfl
theorem hIn_X10 : Cond.instantiable RX10 13 ∈ lw_w := tw (tb_1 (List.mem_of_getElem? (i := 22) rfl)) rfl
theorem hM_L_9 : Cond.methodLink RL 9 yX10_init ∈ lw_w := tw (tb_1 (List.mem_of_getElem? (i := 23) rfl)) rfl
theorem hI_X10_init : Cond.instanceMethod yX10_init ∈ lw_w := tw (tb_1 (List.mem_of_getElem? (i := 24) rfl)) rfl
theorem hC_X10_init : Cond.code yX10_init cX10_init 2 none ∈ lw_w := tw (tb_1 (List.mem_of_getElem? (i := 25) rfl)) rfl
theorem hM_X10_3 : Cond.methodLink RX10 3 objectInit ∈ lw_w := tw (tb_1 (List.mem_of_getElem? (i := 26) rfl)) rfl
theorem hI_obj : Cond.instanceMethod objectInit ∈ lw_w := tw (tb_1 (List.mem_of_getElem? (i := 27) rfl)) rfl
theorem hC_obj : Cond.code objectInit ⟨#[0xb1]⟩ 1 none ∈ lw_w := tw (tb_1 (List.mem_of_getElem? (i := 28) rfl)) rfl
theorem hCL_X10_9 : Cond.classLink RX10 9 RX8 ∈ lw_w := tw (tb_1 (List.mem_of_getElem? (i := 29) rfl)) rfl
theorem hIn_X8 : Cond.instantiable RX8 6 ∈ lw_w := tw (tb_1 (List.mem_of_getElem? (i := 30) rfl)) rfl
theorem hN_X10_11 : Cond.methodLinkNest RX10 11 yX8_init RX10 ∈ lw_tbl := tb_1 (List.mem_of_getElem? (i := 31) rfl)
theorem hI_X8_init : Cond.instanceMethod yX8_init ∈ lw_w := tw (tb_1 (List.mem_of_getElem? (i := 32) rfl)) rfl
theorem hC_X8_init : Cond.code yX8_init cX8_init 1 none ∈ lw_w := tw (tb_1 (List.mem_of_getElem? (i := 33) rfl)) rfl
theorem hM_X8_3 : Cond.methodLink RX8 3 objectInit ∈ lw_w := tw (tb_1 (List.mem_of_getElem? (i := 34) rfl)) rfl
theorem hF_X8_9 : Cond.fieldLink RX8 9 "ChimeShares$Tape" "bytes" "[B" ∈ lw_w := tw (tb_1 (List.mem_of_getElem? (i := 35) rfl)) rfl
theorem hF_X10_94 : Cond.fieldLink RX10 94 "ChimeShares$Tape" "length" "I" ∈ lw_w := tw (tb_1 (List.mem_of_getElem? (i := 36) rfl)) rfl
theorem hF_X8_15 : Cond.fieldLink RX8 15 "ChimeShares$Tape" "length" "I" ∈ lw_w := tw (tb_1 (List.mem_of_getElem? (i := 37) rfl)) rfl
theorem hF_X8_19 : Cond.fieldLink RX8 19 "ChimeShares$Tape" "at" "I" ∈ lw_w := tw (tb_1 (List.mem_of_getElem? (i := 38) rfl)) rfl
theorem hF_X5_48 : Cond.fieldLink RX5 48 "ChimeShares$Tape" "kind" "I" ∈ lw_w := tw (tb_1 (List.mem_of_getElem? (i := 39) rfl)) rfl
theorem hF_X8_28 : Cond.fieldLink RX8 28 "ChimeShares$Tape" "kind" "I" ∈ lw_w := tw (tb_1 (List.mem_of_getElem? (i := 40) rfl)) rfl
theorem hF_X8_22 : Cond.fieldLink RX8 22 "ChimeShares$Tape" "start" "I" ∈ lw_w := tw (tb_1 (List.mem_of_getElem? (i := 41) rfl)) rfl
theorem hF_X5_162 : Cond.fieldLink RX5 162 "ChimeShares$Tape" "start" "I" ∈ lw_w := tw (tb_1 (List.mem_of_getElem? (i := 42) rfl)) rfl
theorem hF_X5_94 : Cond.fieldLink RX5 94 "ChimeShares$Tape" "number" "I" ∈ lw_w := tw (tb_1 (List.mem_of_getElem? (i := 43) rfl)) rfl
theorem hF_X8_25 : Cond.fieldLink RX8 25 "ChimeShares$Tape" "number" "I" ∈ lw_w := tw (tb_1 (List.mem_of_getElem? (i := 44) rfl)) rfl
theorem hA_byte : Cond.arrayClass .byte ∈ lw_w := tw (tb_1 (List.mem_of_getElem? (i := 58) rfl)) rfl
theorem hCL_X10_16 : Cond.classLink RX10 16 RX5 ∈ lw_w := tw (tb_1 (List.mem_of_getElem? (i := 59) rfl)) rfl
theorem hIn_X5 : Cond.instantiable RX5 7 ∈ lw_w := tw (tb_1 (List.mem_of_getElem? (i := 60) rfl)) rfl
theorem hM_X10_18 : Cond.methodLink RX10 18 yX5_init ∈ lw_w := tw (tb_1 (List.mem_of_getElem? (i := 61) rfl)) rfl
theorem hI_X5_init : Cond.instanceMethod yX5_init ∈ lw_w := tw (tb_1 (List.mem_of_getElem? (i := 62) rfl)) rfl
theorem hC_X5_init : Cond.code yX5_init cX5_init 2 none ∈ lw_w := tw (tb_1 (List.mem_of_getElem? (i := 63) rfl)) rfl
theorem hM_X5_3 : Cond.methodLink RX5 3 objectInit ∈ lw_w := tw (tb_1 (List.mem_of_getElem? (i := 64) rfl)) rfl
theorem hCL_X5_9 : Cond.classLink RX5 9 RX9 ∈ lw_w := tw (tb_1 (List.mem_of_getElem? (i := 65) rfl)) rfl
theorem hIn_X9 : Cond.instantiable RX9 7 ∈ lw_w := tw (tb_1 (List.mem_of_getElem? (i := 66) rfl)) rfl
theorem hN_X5_11 : Cond.methodLinkNest RX5 11 yX9_init RX10 ∈ lw_tbl := tb_1 (List.mem_of_getElem? (i := 67) rfl)
theorem hI_X9_init : Cond.instanceMethod yX9_init ∈ lw_w := tw (tb_1 (List.mem_of_getElem? (i := 68) rfl)) rfl
theorem hC_X9_init : Cond.code yX9_init cX9_init 1 none ∈ lw_w := tw (tb_1 (List.mem_of_getElem? (i := 69) rfl)) rfl
theorem hM_X9_3 : Cond.methodLink RX9 3 objectInit ∈ lw_w := tw (tb_1 (List.mem_of_getElem? (i := 70) rfl)) rfl
theorem hCL_X9_25 : Cond.classLink RX9 25 "[[I" ∈ lw_w := tw (tb_1 (List.mem_of_getElem? (i := 71) rfl)) rfl
theorem hO_arr : Cond.arrayOver (.array .int) ∈ lw_tbl := tb_1 (List.mem_of_getElem? (i := 72) rfl)
theorem hCL_X9_30 : Cond.classLink RX9 30 RX1 ∈ lw_w := tw (tb_1 (List.mem_of_getElem? (i := 73) rfl)) rfl
theorem hIn_X1 : Cond.instantiable RX1 9 ∈ lw_w := tw (tb_1 (List.mem_of_getElem? (i := 74) rfl)) rfl
theorem hN_X9_32 : Cond.methodLinkNest RX9 32 yX1_init RX10 ∈ lw_tbl := tb_1 (List.mem_of_getElem? (i := 75) rfl)
theorem hI_X1_init : Cond.instanceMethod yX1_init ∈ lw_w := tw (tb_1 (List.mem_of_getElem? (i := 76) rfl)) rfl
theorem hC_X1_init : Cond.code yX1_init cX1_init 1 none ∈ lw_w := tw (tb_1 (List.mem_of_getElem? (i := 77) rfl)) rfl
theorem hM_X1_3 : Cond.methodLink RX1 3 objectInit ∈ lw_w := tw (tb_1 (List.mem_of_getElem? (i := 78) rfl)) rfl
theorem hF_X1_33 : Cond.fieldLink RX1 33 "ChimeShares$Chimes" "bells" "I" ∈ lw_w := tw (tb_1 (List.mem_of_getElem? (i := 79) rfl)) rfl
theorem hF_X4_34 : Cond.fieldLink RX4 34 "ChimeShares$Chimes" "bells" "I" ∈ lw_w := tw (tb_1 (List.mem_of_getElem? (i := 80) rfl)) rfl
theorem hF_X5_108 : Cond.fieldLink RX5 108 "ChimeShares$Chimes" "bells" "I" ∈ lw_w := tw (tb_1 (List.mem_of_getElem? (i := 81) rfl)) rfl
theorem hF_X9_53 : Cond.fieldLink RX9 53 "ChimeShares$Chimes" "bells" "I" ∈ lw_w := tw (tb_1 (List.mem_of_getElem? (i := 82) rfl)) rfl
theorem hF_X0_107 : Cond.fieldLink RX0 107 "ChimeShares$Chimes" "bells" "I" ∈ lw_w := tw (tb_1 (List.mem_of_getElem? (i := 83) rfl)) rfl
theorem hF_X10_250 : Cond.fieldLink RX10 250 "ChimeShares$Chimes" "bells" "I" ∈ lw_w := tw (tb_1 (List.mem_of_getElem? (i := 84) rfl)) rfl
theorem hF_X1_9 : Cond.fieldLink RX1 9 "ChimeShares$Chimes" "owner" "[I" ∈ lw_w := tw (tb_1 (List.mem_of_getElem? (i := 85) rfl)) rfl
theorem hF_X6_40 : Cond.fieldLink RX6 40 "ChimeShares$Chimes" "owner" "[I" ∈ lw_w := tw (tb_1 (List.mem_of_getElem? (i := 86) rfl)) rfl
theorem hF_X2_60 : Cond.fieldLink RX2 60 "ChimeShares$Chimes" "owner" "[I" ∈ lw_w := tw (tb_1 (List.mem_of_getElem? (i := 87) rfl)) rfl
theorem hF_X3_38 : Cond.fieldLink RX3 38 "ChimeShares$Chimes" "owner" "[I" ∈ lw_w := tw (tb_1 (List.mem_of_getElem? (i := 88) rfl)) rfl
theorem hF_X0_73 : Cond.fieldLink RX0 73 "ChimeShares$Chimes" "owner" "[I" ∈ lw_w := tw (tb_1 (List.mem_of_getElem? (i := 89) rfl)) rfl
theorem hF_X4_64 : Cond.fieldLink RX4 64 "ChimeShares$Chimes" "owner" "[I" ∈ lw_w := tw (tb_1 (List.mem_of_getElem? (i := 90) rfl)) rfl
theorem hF_X5_120 : Cond.fieldLink RX5 120 "ChimeShares$Chimes" "owner" "[I" ∈ lw_w := tw (tb_1 (List.mem_of_getElem? (i := 91) rfl)) rfl
theorem hF_X9_56 : Cond.fieldLink RX9 56 "ChimeShares$Chimes" "owner" "[I" ∈ lw_w := tw (tb_1 (List.mem_of_getElem? (i := 92) rfl)) rfl
theorem hF_X10_131 : Cond.fieldLink RX10 131 "ChimeShares$Chimes" "owner" "[I" ∈ lw_w := tw (tb_1 (List.mem_of_getElem? (i := 93) rfl)) rfl
theorem hF_X1_15 : Cond.fieldLink RX1 15 "ChimeShares$Chimes" "fee" "[I" ∈ lw_w := tw (tb_1 (List.mem_of_getElem? (i := 94) rfl)) rfl
theorem hF_X6_51 : Cond.fieldLink RX6 51 "ChimeShares$Chimes" "fee" "[I" ∈ lw_w := tw (tb_1 (List.mem_of_getElem? (i := 95) rfl)) rfl
theorem hF_X0_76 : Cond.fieldLink RX0 76 "ChimeShares$Chimes" "fee" "[I" ∈ lw_w := tw (tb_1 (List.mem_of_getElem? (i := 96) rfl)) rfl
theorem hF_X5_123 : Cond.fieldLink RX5 123 "ChimeShares$Chimes" "fee" "[I" ∈ lw_w := tw (tb_1 (List.mem_of_getElem? (i := 97) rfl)) rfl
theorem hF_X10_135 : Cond.fieldLink RX10 135 "ChimeShares$Chimes" "fee" "[I" ∈ lw_w := tw (tb_1 (List.mem_of_getElem? (i := 98) rfl)) rfl
theorem hF_X1_18 : Cond.fieldLink RX1 18 "ChimeShares$Chimes" "flat" "[I" ∈ lw_w := tw (tb_1 (List.mem_of_getElem? (i := 99) rfl)) rfl
theorem hF_X6_54 : Cond.fieldLink RX6 54 "ChimeShares$Chimes" "flat" "[I" ∈ lw_w := tw (tb_1 (List.mem_of_getElem? (i := 100) rfl)) rfl
theorem hF_X5_126 : Cond.fieldLink RX5 126 "ChimeShares$Chimes" "flat" "[I" ∈ lw_w := tw (tb_1 (List.mem_of_getElem? (i := 101) rfl)) rfl
theorem hF_X10_138 : Cond.fieldLink RX10 138 "ChimeShares$Chimes" "flat" "[I" ∈ lw_w := tw (tb_1 (List.mem_of_getElem? (i := 102) rfl)) rfl
theorem hF_X1_21 : Cond.fieldLink RX1 21 "ChimeShares$Chimes" "shut" "[I" ∈ lw_w := tw (tb_1 (List.mem_of_getElem? (i := 103) rfl)) rfl
theorem hF_X6_45 : Cond.fieldLink RX6 45 "ChimeShares$Chimes" "shut" "[I" ∈ lw_w := tw (tb_1 (List.mem_of_getElem? (i := 104) rfl)) rfl
theorem hF_X4_52 : Cond.fieldLink RX4 52 "ChimeShares$Chimes" "shut" "[I" ∈ lw_w := tw (tb_1 (List.mem_of_getElem? (i := 105) rfl)) rfl
theorem hF_X5_117 : Cond.fieldLink RX5 117 "ChimeShares$Chimes" "shut" "[I" ∈ lw_w := tw (tb_1 (List.mem_of_getElem? (i := 106) rfl)) rfl
theorem hF_X10_141 : Cond.fieldLink RX10 141 "ChimeShares$Chimes" "shut" "[I" ∈ lw_w := tw (tb_1 (List.mem_of_getElem? (i := 107) rfl)) rfl
theorem hF_X1_24 : Cond.fieldLink RX1 24 "ChimeShares$Chimes" "half" "[I" ∈ lw_w := tw (tb_1 (List.mem_of_getElem? (i := 108) rfl)) rfl
theorem hF_X5_113 : Cond.fieldLink RX5 113 "ChimeShares$Chimes" "half" "[I" ∈ lw_w := tw (tb_1 (List.mem_of_getElem? (i := 109) rfl)) rfl
theorem hF_X9_63 : Cond.fieldLink RX9 63 "ChimeShares$Chimes" "half" "[I" ∈ lw_w := tw (tb_1 (List.mem_of_getElem? (i := 110) rfl)) rfl
theorem hF_X10_144 : Cond.fieldLink RX10 144 "ChimeShares$Chimes" "half" "[I" ∈ lw_w := tw (tb_1 (List.mem_of_getElem? (i := 111) rfl)) rfl
theorem hF_X1_27 : Cond.fieldLink RX1 27 "ChimeShares$Chimes" "foes" "[I" ∈ lw_w := tw (tb_1 (List.mem_of_getElem? (i := 112) rfl)) rfl
theorem hF_X6_57 : Cond.fieldLink RX6 57 "ChimeShares$Chimes" "foes" "[I" ∈ lw_w := tw (tb_1 (List.mem_of_getElem? (i := 113) rfl)) rfl
theorem hF_X9_66 : Cond.fieldLink RX9 66 "ChimeShares$Chimes" "foes" "[I" ∈ lw_w := tw (tb_1 (List.mem_of_getElem? (i := 114) rfl)) rfl
theorem hF_X10_166 : Cond.fieldLink RX10 166 "ChimeShares$Chimes" "foes" "[I" ∈ lw_w := tw (tb_1 (List.mem_of_getElem? (i := 115) rfl)) rfl
theorem hF_X3_22 : Cond.fieldLink RX3 22 "ChimeShares$Chimes" "heard" "I" ∈ lw_w := tw (tb_1 (List.mem_of_getElem? (i := 116) rfl)) rfl
theorem hF_X1_37 : Cond.fieldLink RX1 37 "ChimeShares$Chimes" "heard" "I" ∈ lw_w := tw (tb_1 (List.mem_of_getElem? (i := 117) rfl)) rfl
theorem hF_X10_267 : Cond.fieldLink RX10 267 "ChimeShares$Chimes" "heard" "I" ∈ lw_w := tw (tb_1 (List.mem_of_getElem? (i := 118) rfl)) rfl
theorem hF_X1_30 : Cond.fieldLink RX1 30 "ChimeShares$Chimes" "strokes" "[I" ∈ lw_w := tw (tb_1 (List.mem_of_getElem? (i := 119) rfl)) rfl
theorem hF_X3_32 : Cond.fieldLink RX3 32 "ChimeShares$Chimes" "strokes" "[I" ∈ lw_w := tw (tb_1 (List.mem_of_getElem? (i := 120) rfl)) rfl
theorem hA_int : Cond.arrayClass .int ∈ lw_w := tw (tb_1 (List.mem_of_getElem? (i := 140) rfl)) rfl
theorem hF_X9_9 : Cond.fieldLink RX9 9 "ChimeShares$Town" "houses" "I" ∈ lw_w := tw (tb_1 (List.mem_of_getElem? (i := 141) rfl)) rfl
theorem hF_X5_97 : Cond.fieldLink RX5 97 "ChimeShares$Town" "houses" "I" ∈ lw_w := tw (tb_1 (List.mem_of_getElem? (i := 142) rfl)) rfl
theorem hF_X2_90 : Cond.fieldLink RX2 90 "ChimeShares$Town" "houses" "I" ∈ lw_w := tw (tb_1 (List.mem_of_getElem? (i := 143) rfl)) rfl
theorem hF_X10_121 : Cond.fieldLink RX10 121 "ChimeShares$Town" "houses" "I" ∈ lw_w := tw (tb_1 (List.mem_of_getElem? (i := 144) rfl)) rfl
theorem hF_X0_98 : Cond.fieldLink RX0 98 "ChimeShares$Town" "houses" "I" ∈ lw_w := tw (tb_1 (List.mem_of_getElem? (i := 145) rfl)) rfl
theorem hF_X9_15 : Cond.fieldLink RX9 15 "ChimeShares$Town" "gap" "I" ∈ lw_w := tw (tb_1 (List.mem_of_getElem? (i := 146) rfl)) rfl
theorem hF_X6_48 : Cond.fieldLink RX6 48 "ChimeShares$Town" "gap" "I" ∈ lw_w := tw (tb_1 (List.mem_of_getElem? (i := 147) rfl)) rfl
theorem hF_X5_102 : Cond.fieldLink RX5 102 "ChimeShares$Town" "gap" "I" ∈ lw_w := tw (tb_1 (List.mem_of_getElem? (i := 148) rfl)) rfl
theorem hF_X10_124 : Cond.fieldLink RX10 124 "ChimeShares$Town" "gap" "I" ∈ lw_w := tw (tb_1 (List.mem_of_getElem? (i := 149) rfl)) rfl
theorem hF_X0_39 : Cond.fieldLink RX0 39 "ChimeShares$Town" "tunes" "I" ∈ lw_w := tw (tb_1 (List.mem_of_getElem? (i := 150) rfl)) rfl
theorem hF_X2_28 : Cond.fieldLink RX2 28 "ChimeShares$Town" "tunes" "I" ∈ lw_w := tw (tb_1 (List.mem_of_getElem? (i := 151) rfl)) rfl
theorem hF_X9_37 : Cond.fieldLink RX9 37 "ChimeShares$Town" "tunes" "I" ∈ lw_w := tw (tb_1 (List.mem_of_getElem? (i := 152) rfl)) rfl
theorem hF_X3_48 : Cond.fieldLink RX3 48 "ChimeShares$Town" "tunes" "I" ∈ lw_w := tw (tb_1 (List.mem_of_getElem? (i := 153) rfl)) rfl
theorem hF_X6_66 : Cond.fieldLink RX6 66 "ChimeShares$Town" "tunes" "I" ∈ lw_w := tw (tb_1 (List.mem_of_getElem? (i := 154) rfl)) rfl
theorem hF_X5_135 : Cond.fieldLink RX5 135 "ChimeShares$Town" "tunes" "I" ∈ lw_w := tw (tb_1 (List.mem_of_getElem? (i := 155) rfl)) rfl
theorem hF_X10_321 : Cond.fieldLink RX10 321 "ChimeShares$Town" "tunes" "I" ∈ lw_w := tw (tb_1 (List.mem_of_getElem? (i := 156) rfl)) rfl
theorem hF_X9_18 : Cond.fieldLink RX9 18 "ChimeShares$Town" "worth" "[I" ∈ lw_w := tw (tb_1 (List.mem_of_getElem? (i := 157) rfl)) rfl
theorem hF_X6_60 : Cond.fieldLink RX6 60 "ChimeShares$Town" "worth" "[I" ∈ lw_w := tw (tb_1 (List.mem_of_getElem? (i := 158) rfl)) rfl
theorem hF_X10_150 : Cond.fieldLink RX10 150 "ChimeShares$Town" "worth" "[I" ∈ lw_w := tw (tb_1 (List.mem_of_getElem? (i := 159) rfl)) rfl
theorem hF_X5_138 : Cond.fieldLink RX5 138 "ChimeShares$Town" "worth" "[I" ∈ lw_w := tw (tb_1 (List.mem_of_getElem? (i := 160) rfl)) rfl
theorem hF_X9_22 : Cond.fieldLink RX9 22 "ChimeShares$Town" "length" "[I" ∈ lw_w := tw (tb_1 (List.mem_of_getElem? (i := 161) rfl)) rfl
theorem hF_X4_31 : Cond.fieldLink RX4 31 "ChimeShares$Town" "length" "[I" ∈ lw_w := tw (tb_1 (List.mem_of_getElem? (i := 162) rfl)) rfl
theorem hF_X3_28 : Cond.fieldLink RX3 28 "ChimeShares$Town" "length" "[I" ∈ lw_w := tw (tb_1 (List.mem_of_getElem? (i := 163) rfl)) rfl
theorem hF_X6_32 : Cond.fieldLink RX6 32 "ChimeShares$Town" "length" "[I" ∈ lw_w := tw (tb_1 (List.mem_of_getElem? (i := 164) rfl)) rfl
theorem hF_X2_49 : Cond.fieldLink RX2 49 "ChimeShares$Town" "length" "[I" ∈ lw_w := tw (tb_1 (List.mem_of_getElem? (i := 165) rfl)) rfl
theorem hF_X0_56 : Cond.fieldLink RX0 56 "ChimeShares$Town" "length" "[I" ∈ lw_w := tw (tb_1 (List.mem_of_getElem? (i := 166) rfl)) rfl
theorem hF_X10_153 : Cond.fieldLink RX10 153 "ChimeShares$Town" "length" "[I" ∈ lw_w := tw (tb_1 (List.mem_of_getElem? (i := 167) rfl)) rfl
theorem hF_X5_152 : Cond.fieldLink RX5 152 "ChimeShares$Town" "length" "[I" ∈ lw_w := tw (tb_1 (List.mem_of_getElem? (i := 168) rfl)) rfl
theorem hF_X9_27 : Cond.fieldLink RX9 27 "ChimeShares$Town" "strokes" "[[I" ∈ lw_w := tw (tb_1 (List.mem_of_getElem? (i := 169) rfl)) rfl
theorem hF_X6_36 : Cond.fieldLink RX6 36 "ChimeShares$Town" "strokes" "[[I" ∈ lw_w := tw (tb_1 (List.mem_of_getElem? (i := 170) rfl)) rfl
theorem hF_X3_35 : Cond.fieldLink RX3 35 "ChimeShares$Town" "strokes" "[[I" ∈ lw_w := tw (tb_1 (List.mem_of_getElem? (i := 171) rfl)) rfl
theorem hF_X2_65 : Cond.fieldLink RX2 65 "ChimeShares$Town" "strokes" "[[I" ∈ lw_w := tw (tb_1 (List.mem_of_getElem? (i := 172) rfl)) rfl
theorem hF_X4_55 : Cond.fieldLink RX4 55 "ChimeShares$Town" "strokes" "[[I" ∈ lw_w := tw (tb_1 (List.mem_of_getElem? (i := 173) rfl)) rfl
theorem hF_X0_63 : Cond.fieldLink RX0 63 "ChimeShares$Town" "strokes" "[[I" ∈ lw_w := tw (tb_1 (List.mem_of_getElem? (i := 174) rfl)) rfl
theorem hF_X10_159 : Cond.fieldLink RX10 159 "ChimeShares$Town" "strokes" "[[I" ∈ lw_w := tw (tb_1 (List.mem_of_getElem? (i := 175) rfl)) rfl
theorem hF_X5_148 : Cond.fieldLink RX5 148 "ChimeShares$Town" "strokes" "[[I" ∈ lw_w := tw (tb_1 (List.mem_of_getElem? (i := 176) rfl)) rfl
theorem hF_X6_15 : Cond.fieldLink RX6 15 "ChimeShares$Town" "chimes" "LChimeShares$Chimes;" ∈ lw_w := tw (tb_1 (List.mem_of_getElem? (i := 177) rfl)) rfl
theorem hF_X3_15 : Cond.fieldLink RX3 15 "ChimeShares$Town" "chimes" "LChimeShares$Chimes;" ∈ lw_w := tw (tb_1 (List.mem_of_getElem? (i := 178) rfl)) rfl
theorem hF_X4_24 : Cond.fieldLink RX4 24 "ChimeShares$Town" "chimes" "LChimeShares$Chimes;" ∈ lw_w := tw (tb_1 (List.mem_of_getElem? (i := 179) rfl)) rfl
theorem hF_X0_28 : Cond.fieldLink RX0 28 "ChimeShares$Town" "chimes" "LChimeShares$Chimes;" ∈ lw_w := tw (tb_1 (List.mem_of_getElem? (i := 180) rfl)) rfl
theorem hF_X10_32 : Cond.fieldLink RX10 32 "ChimeShares$Town" "chimes" "LChimeShares$Chimes;" ∈ lw_w := tw (tb_1 (List.mem_of_getElem? (i := 181) rfl)) rfl
theorem hF_X9_33 : Cond.fieldLink RX9 33 "ChimeShares$Town" "chimes" "LChimeShares$Chimes;" ∈ lw_w := tw (tb_1 (List.mem_of_getElem? (i := 182) rfl)) rfl
theorem hF_X2_56 : Cond.fieldLink RX2 56 "ChimeShares$Town" "chimes" "LChimeShares$Chimes;" ∈ lw_w := tw (tb_1 (List.mem_of_getElem? (i := 183) rfl)) rfl
theorem hF_X5_104 : Cond.fieldLink RX5 104 "ChimeShares$Town" "chimes" "LChimeShares$Chimes;" ∈ lw_w := tw (tb_1 (List.mem_of_getElem? (i := 184) rfl)) rfl
theorem hF_X5_18 : Cond.fieldLink RX5 18 "ChimeShares$Reader" "tape" "LChimeShares$Tape;" ∈ lw_w := tw (tb_1 (List.mem_of_getElem? (i := 200) rfl)) rfl
theorem hF_X5_12 : Cond.fieldLink RX5 12 "ChimeShares$Reader" "draft" "LChimeShares$Town;" ∈ lw_w := tw (tb_1 (List.mem_of_getElem? (i := 201) rfl)) rfl
theorem hF_X10_109 : Cond.fieldLink RX10 109 "ChimeShares$Reader" "draft" "LChimeShares$Town;" ∈ lw_w := tw (tb_1 (List.mem_of_getElem? (i := 202) rfl)) rfl
theorem hF_X5_25 : Cond.fieldLink RX5 25 "ChimeShares$Reader" "housesTold" "Z" ∈ lw_w := tw (tb_1 (List.mem_of_getElem? (i := 203) rfl)) rfl
theorem hF_X5_29 : Cond.fieldLink RX5 29 "ChimeShares$Reader" "gapTold" "Z" ∈ lw_w := tw (tb_1 (List.mem_of_getElem? (i := 204) rfl)) rfl
theorem hF_X5_32 : Cond.fieldLink RX5 32 "ChimeShares$Reader" "lines" "I" ∈ lw_w := tw (tb_1 (List.mem_of_getElem? (i := 205) rfl)) rfl
theorem hF_X10_115 : Cond.fieldLink RX10 115 "ChimeShares$Reader" "lines" "I" ∈ lw_w := tw (tb_1 (List.mem_of_getElem? (i := 206) rfl)) rfl
theorem hF_X5_36 : Cond.fieldLink RX5 36 "ChimeShares$Reader" "fault" "I" ∈ lw_w := tw (tb_1 (List.mem_of_getElem? (i := 207) rfl)) rfl
theorem hF_X10_118 : Cond.fieldLink RX10 118 "ChimeShares$Reader" "fault" "I" ∈ lw_w := tw (tb_1 (List.mem_of_getElem? (i := 208) rfl)) rfl
theorem hF_X10_106 : Cond.fieldLink RX10 106 "ChimeShares$Reader" "place" "I" ∈ lw_w := tw (tb_1 (List.mem_of_getElem? (i := 209) rfl)) rfl
theorem hF_X5_165 : Cond.fieldLink RX5 165 "ChimeShares$Reader" "place" "I" ∈ lw_w := tw (tb_1 (List.mem_of_getElem? (i := 210) rfl)) rfl
theorem hCL_X10_25 : Cond.classLink RX10 25 RX9 ∈ lw_w := tw (tb_1 (List.mem_of_getElem? (i := 226) rfl)) rfl
theorem hN_X10_27 : Cond.methodLinkNest RX10 27 yX9_init RX10 ∈ lw_tbl := tb_1 (List.mem_of_getElem? (i := 227) rfl)
theorem hCL_X10_37 : Cond.classLink RX10 37 RX6 ∈ lw_w := tw (tb_1 (List.mem_of_getElem? (i := 228) rfl)) rfl
theorem hIn_X6 : Cond.instantiable RX6 6 ∈ lw_w := tw (tb_1 (List.mem_of_getElem? (i := 229) rfl)) rfl
theorem hM_X10_39 : Cond.methodLink RX10 39 yX6_init ∈ lw_w := tw (tb_1 (List.mem_of_getElem? (i := 230) rfl)) rfl
theorem hI_X6_init : Cond.instanceMethod yX6_init ∈ lw_w := tw (tb_1 (List.mem_of_getElem? (i := 231) rfl)) rfl
theorem hC_X6_init : Cond.code yX6_init cX6_init 2 none ∈ lw_w := tw (tb_1 (List.mem_of_getElem? (i := 232) rfl)) rfl
theorem hM_X6_3 : Cond.methodLink RX6 3 objectInit ∈ lw_w := tw (tb_1 (List.mem_of_getElem? (i := 233) rfl)) rfl
theorem hF_X6_9 : Cond.fieldLink RX6 9 "ChimeShares$Ringing" "town" "LChimeShares$Town;" ∈ lw_w := tw (tb_1 (List.mem_of_getElem? (i := 234) rfl)) rfl
theorem hF_X6_21 : Cond.fieldLink RX6 21 "ChimeShares$Ringing" "chimes" "LChimeShares$Chimes;" ∈ lw_w := tw (tb_1 (List.mem_of_getElem? (i := 235) rfl)) rfl
theorem hF_X6_22 : Cond.fieldLink RX6 22 "ChimeShares$Ringing" "cost" "I" ∈ lw_w := tw (tb_1 (List.mem_of_getElem? (i := 236) rfl)) rfl
theorem hF_X2_40 : Cond.fieldLink RX2 40 "ChimeShares$Ringing" "cost" "I" ∈ lw_w := tw (tb_1 (List.mem_of_getElem? (i := 237) rfl)) rfl
theorem hF_X10_184 : Cond.fieldLink RX10 184 "ChimeShares$Ringing" "cost" "I" ∈ lw_w := tw (tb_1 (List.mem_of_getElem? (i := 238) rfl)) rfl
theorem hF_X6_26 : Cond.fieldLink RX6 26 "ChimeShares$Ringing" "flats" "I" ∈ lw_w := tw (tb_1 (List.mem_of_getElem? (i := 239) rfl)) rfl
theorem hF_X10_190 : Cond.fieldLink RX10 190 "ChimeShares$Ringing" "flats" "I" ∈ lw_w := tw (tb_2 (List.mem_of_getElem? (i := 0) rfl)) rfl
theorem hF_X6_29 : Cond.fieldLink RX6 29 "ChimeShares$Ringing" "silent" "I" ∈ lw_w := tw (tb_2 (List.mem_of_getElem? (i := 1) rfl)) rfl
theorem hF_X10_187 : Cond.fieldLink RX10 187 "ChimeShares$Ringing" "silent" "I" ∈ lw_w := tw (tb_2 (List.mem_of_getElem? (i := 2) rfl)) rfl
theorem hF_X6_63 : Cond.fieldLink RX6 63 "ChimeShares$Ringing" "value" "I" ∈ lw_w := tw (tb_2 (List.mem_of_getElem? (i := 3) rfl)) rfl
theorem hF_X0_53 : Cond.fieldLink RX0 53 "ChimeShares$Ringing" "value" "I" ∈ lw_w := tw (tb_2 (List.mem_of_getElem? (i := 4) rfl)) rfl
theorem hF_X10_193 : Cond.fieldLink RX10 193 "ChimeShares$Ringing" "value" "I" ∈ lw_w := tw (tb_2 (List.mem_of_getElem? (i := 5) rfl)) rfl
theorem hCL_X10_46 : Cond.classLink RX10 46 RX0 ∈ lw_w := tw (tb_2 (List.mem_of_getElem? (i := 19) rfl)) rfl
theorem hIn_X0 : Cond.instantiable RX0 9 ∈ lw_w := tw (tb_2 (List.mem_of_getElem? (i := 20) rfl)) rfl
theorem hM_X10_48 : Cond.methodLink RX10 48 yX0_init ∈ lw_w := tw (tb_2 (List.mem_of_getElem? (i := 21) rfl)) rfl
theorem hI_X0_init : Cond.instanceMethod yX0_init ∈ lw_w := tw (tb_2 (List.mem_of_getElem? (i := 22) rfl)) rfl
theorem hC_X0_init : Cond.code yX0_init cX0_init 3 none ∈ lw_w := tw (tb_2 (List.mem_of_getElem? (i := 23) rfl)) rfl
theorem hM_X0_3 : Cond.methodLink RX0 3 objectInit ∈ lw_w := tw (tb_2 (List.mem_of_getElem? (i := 24) rfl)) rfl
theorem hF_X0_24 : Cond.fieldLink RX0 24 "ChimeShares$Asks" "town" "LChimeShares$Town;" ∈ lw_w := tw (tb_2 (List.mem_of_getElem? (i := 25) rfl)) rfl
theorem hF_X0_34 : Cond.fieldLink RX0 34 "ChimeShares$Asks" "chimes" "LChimeShares$Chimes;" ∈ lw_w := tw (tb_2 (List.mem_of_getElem? (i := 26) rfl)) rfl
theorem hF_X0_35 : Cond.fieldLink RX0 35 "ChimeShares$Asks" "ringing" "LChimeShares$Ringing;" ∈ lw_w := tw (tb_2 (List.mem_of_getElem? (i := 27) rfl)) rfl
theorem hF_X0_9 : Cond.fieldLink RX0 9 "ChimeShares$Asks" "valueAtNone" "[I" ∈ lw_w := tw (tb_2 (List.mem_of_getElem? (i := 28) rfl)) rfl
theorem hF_X0_15 : Cond.fieldLink RX0 15 "ChimeShares$Asks" "ownStrokes" "[I" ∈ lw_w := tw (tb_2 (List.mem_of_getElem? (i := 29) rfl)) rfl
theorem hF_X0_18 : Cond.fieldLink RX0 18 "ChimeShares$Asks" "ownParts" "[I" ∈ lw_w := tw (tb_2 (List.mem_of_getElem? (i := 30) rfl)) rfl
theorem hF_X0_21 : Cond.fieldLink RX0 21 "ChimeShares$Asks" "fromOthers" "[I" ∈ lw_w := tw (tb_2 (List.mem_of_getElem? (i := 31) rfl)) rfl
theorem hF_X0_82 : Cond.fieldLink RX0 82 "ChimeShares$Asks" "bestFee" "I" ∈ lw_w := tw (tb_2 (List.mem_of_getElem? (i := 32) rfl)) rfl
theorem hF_X10_217 : Cond.fieldLink RX10 217 "ChimeShares$Asks" "bestFee" "I" ∈ lw_w := tw (tb_2 (List.mem_of_getElem? (i := 33) rfl)) rfl
theorem hF_X0_89 : Cond.fieldLink RX0 89 "ChimeShares$Asks" "bestBrings" "I" ∈ lw_w := tw (tb_2 (List.mem_of_getElem? (i := 34) rfl)) rfl
theorem hF_X10_220 : Cond.fieldLink RX10 220 "ChimeShares$Asks" "bestBrings" "I" ∈ lw_w := tw (tb_2 (List.mem_of_getElem? (i := 35) rfl)) rfl
theorem hCL_X10_55 : Cond.classLink RX10 55 RX2 ∈ lw_w := tw (tb_2 (List.mem_of_getElem? (i := 55) rfl)) rfl
theorem hIn_X2 : Cond.instantiable RX2 6 ∈ lw_w := tw (tb_2 (List.mem_of_getElem? (i := 56) rfl)) rfl
theorem hM_X10_57 : Cond.methodLink RX10 57 yX2_init ∈ lw_w := tw (tb_2 (List.mem_of_getElem? (i := 57) rfl)) rfl
theorem hI_X2_init : Cond.instanceMethod yX2_init ∈ lw_w := tw (tb_2 (List.mem_of_getElem? (i := 58) rfl)) rfl
theorem hC_X2_init : Cond.code yX2_init cX2_init 3 none ∈ lw_w := tw (tb_2 (List.mem_of_getElem? (i := 59) rfl)) rfl
theorem hM_X2_3 : Cond.methodLink RX2 3 objectInit ∈ lw_w := tw (tb_2 (List.mem_of_getElem? (i := 60) rfl)) rfl
theorem hCL_X2_15 : Cond.classLink RX2 15 "[[I" ∈ lw_w := tw (tb_2 (List.mem_of_getElem? (i := 61) rfl)) rfl
theorem hF_X2_20 : Cond.fieldLink RX2 20 "ChimeShares$Feasts" "town" "LChimeShares$Town;" ∈ lw_w := tw (tb_2 (List.mem_of_getElem? (i := 62) rfl)) rfl
theorem hF_X2_24 : Cond.fieldLink RX2 24 "ChimeShares$Feasts" "ringing" "LChimeShares$Ringing;" ∈ lw_w := tw (tb_2 (List.mem_of_getElem? (i := 63) rfl)) rfl
theorem hF_X2_9 : Cond.fieldLink RX2 9 "ChimeShares$Feasts" "costs" "[I" ∈ lw_w := tw (tb_2 (List.mem_of_getElem? (i := 64) rfl)) rfl
theorem hF_X2_17 : Cond.fieldLink RX2 17 "ChimeShares$Feasts" "rings" "[[I" ∈ lw_w := tw (tb_2 (List.mem_of_getElem? (i := 65) rfl)) rfl
theorem hF_X2_89 : Cond.fieldLink RX2 89 "ChimeShares$Feasts" "cost" "I" ∈ lw_w := tw (tb_2 (List.mem_of_getElem? (i := 66) rfl)) rfl
theorem hF_X10_239 : Cond.fieldLink RX10 239 "ChimeShares$Feasts" "cost" "I" ∈ lw_w := tw (tb_2 (List.mem_of_getElem? (i := 67) rfl)) rfl
theorem hF_X2_75 : Cond.fieldLink RX2 75 "ChimeShares$Feasts" "tunes" "I" ∈ lw_w := tw (tb_2 (List.mem_of_getElem? (i := 68) rfl)) rfl
theorem hF_X10_236 : Cond.fieldLink RX10 236 "ChimeShares$Feasts" "tunes" "I" ∈ lw_w := tw (tb_2 (List.mem_of_getElem? (i := 69) rfl)) rfl
theorem hCL_X10_62 : Cond.classLink RX10 62 RX4 ∈ lw_w := tw (tb_2 (List.mem_of_getElem? (i := 83) rfl)) rfl
theorem hIn_X4 : Cond.instantiable RX4 5 ∈ lw_w := tw (tb_2 (List.mem_of_getElem? (i := 84) rfl)) rfl
theorem hM_X10_64 : Cond.methodLink RX10 64 yX4_init ∈ lw_w := tw (tb_2 (List.mem_of_getElem? (i := 85) rfl)) rfl
theorem hI_X4_init : Cond.instanceMethod yX4_init ∈ lw_w := tw (tb_2 (List.mem_of_getElem? (i := 86) rfl)) rfl
theorem hC_X4_init : Cond.code yX4_init cX4_init 2 none ∈ lw_w := tw (tb_2 (List.mem_of_getElem? (i := 87) rfl)) rfl
theorem hM_X4_3 : Cond.methodLink RX4 3 objectInit ∈ lw_w := tw (tb_2 (List.mem_of_getElem? (i := 88) rfl)) rfl
theorem hCL_X4_9 : Cond.classLink RX4 9 "[[I" ∈ lw_w := tw (tb_2 (List.mem_of_getElem? (i := 89) rfl)) rfl
theorem hF_X4_20 : Cond.fieldLink RX4 20 "ChimeShares$Nearest" "town" "LChimeShares$Town;" ∈ lw_w := tw (tb_2 (List.mem_of_getElem? (i := 90) rfl)) rfl
theorem hF_X4_30 : Cond.fieldLink RX4 30 "ChimeShares$Nearest" "chimes" "LChimeShares$Chimes;" ∈ lw_w := tw (tb_2 (List.mem_of_getElem? (i := 91) rfl)) rfl
theorem hF_X4_11 : Cond.fieldLink RX4 11 "ChimeShares$Nearest" "far" "[[I" ∈ lw_w := tw (tb_2 (List.mem_of_getElem? (i := 92) rfl)) rfl
theorem hF_X4_16 : Cond.fieldLink RX4 16 "ChimeShares$Nearest" "row" "[I" ∈ lw_w := tw (tb_2 (List.mem_of_getElem? (i := 93) rfl)) rfl
theorem hF_X10_247 : Cond.fieldLink RX10 247 "ChimeShares$Nearest" "row" "[I" ∈ lw_w := tw (tb_2 (List.mem_of_getElem? (i := 94) rfl)) rfl
theorem hF_X4_49 : Cond.fieldLink RX4 49 "ChimeShares$Nearest" "sum" "I" ∈ lw_w := tw (tb_2 (List.mem_of_getElem? (i := 95) rfl)) rfl
theorem hF_X10_243 : Cond.fieldLink RX10 243 "ChimeShares$Nearest" "sum" "I" ∈ lw_w := tw (tb_2 (List.mem_of_getElem? (i := 96) rfl)) rfl
theorem hCL_X10_69 : Cond.classLink RX10 69 RX3 ∈ lw_w := tw (tb_2 (List.mem_of_getElem? (i := 108) rfl)) rfl
theorem hIn_X3 : Cond.instantiable RX3 6 ∈ lw_w := tw (tb_2 (List.mem_of_getElem? (i := 109) rfl)) rfl
theorem hM_X10_71 : Cond.methodLink RX10 71 yX3_init ∈ lw_w := tw (tb_2 (List.mem_of_getElem? (i := 110) rfl)) rfl
theorem hI_X3_init : Cond.instanceMethod yX3_init ∈ lw_w := tw (tb_2 (List.mem_of_getElem? (i := 111) rfl)) rfl
theorem hC_X3_init : Cond.code yX3_init cX3_init 2 none ∈ lw_w := tw (tb_2 (List.mem_of_getElem? (i := 112) rfl)) rfl
theorem hM_X3_3 : Cond.methodLink RX3 3 objectInit ∈ lw_w := tw (tb_2 (List.mem_of_getElem? (i := 113) rfl)) rfl
theorem hF_X3_9 : Cond.fieldLink RX3 9 "ChimeShares$Hearing" "town" "LChimeShares$Town;" ∈ lw_w := tw (tb_2 (List.mem_of_getElem? (i := 114) rfl)) rfl
theorem hF_X3_21 : Cond.fieldLink RX3 21 "ChimeShares$Hearing" "chimes" "LChimeShares$Chimes;" ∈ lw_w := tw (tb_2 (List.mem_of_getElem? (i := 115) rfl)) rfl
theorem hF_X3_45 : Cond.fieldLink RX3 45 "ChimeShares$Hearing" "fitting" "I" ∈ lw_w := tw (tb_2 (List.mem_of_getElem? (i := 116) rfl)) rfl
theorem hF_X10_279 : Cond.fieldLink RX10 279 "ChimeShares$Hearing" "fitting" "I" ∈ lw_w := tw (tb_2 (List.mem_of_getElem? (i := 117) rfl)) rfl
theorem hF_X3_59 : Cond.fieldLink RX3 59 "ChimeShares$Hearing" "first" "I" ∈ lw_w := tw (tb_2 (List.mem_of_getElem? (i := 118) rfl)) rfl
theorem hF_X10_282 : Cond.fieldLink RX10 282 "ChimeShares$Hearing" "first" "I" ∈ lw_w := tw (tb_2 (List.mem_of_getElem? (i := 119) rfl)) rfl
theorem hF_X3_62 : Cond.fieldLink RX3 62 "ChimeShares$Hearing" "refusedByFirst" "I" ∈ lw_w := tw (tb_2 (List.mem_of_getElem? (i := 120) rfl)) rfl
theorem hF_X10_285 : Cond.fieldLink RX10 285 "ChimeShares$Hearing" "refusedByFirst" "I" ∈ lw_w := tw (tb_2 (List.mem_of_getElem? (i := 121) rfl)) rfl
theorem hF_X3_65 : Cond.fieldLink RX3 65 "ChimeShares$Hearing" "refusedByEach" "I" ∈ lw_w := tw (tb_2 (List.mem_of_getElem? (i := 122) rfl)) rfl
theorem hF_X10_288 : Cond.fieldLink RX10 288 "ChimeShares$Hearing" "refusedByEach" "I" ∈ lw_w := tw (tb_2 (List.mem_of_getElem? (i := 123) rfl)) rfl
theorem hCL_X10_76 : Cond.classLink RX10 76 RX1 ∈ lw_w := tw (tb_2 (List.mem_of_getElem? (i := 137) rfl)) rfl
theorem hO_X1 : Cond.arrayOver (.object RX1) ∈ lw_tbl := tb_2 (List.mem_of_getElem? (i := 138) rfl)
theorem hCL_X10_86 : Cond.classLink RX10 86 RX7 ∈ lw_w := tw (tb_2 (List.mem_of_getElem? (i := 139) rfl)) rfl
theorem hO_X7 : Cond.arrayOver (.object RX7) ∈ lw_tbl := tb_2 (List.mem_of_getElem? (i := 140) rfl)
theorem hN_X10_92 : Cond.methodLinkNest RX10 92 yX1_init RX10 ∈ lw_tbl := tb_2 (List.mem_of_getElem? (i := 141) rfl)
theorem hIn_X7 : Cond.instantiable RX7 3 ∈ lw_w := tw (tb_2 (List.mem_of_getElem? (i := 142) rfl)) rfl
theorem hN_X10_93 : Cond.methodLinkNest RX10 93 yX7_init RX10 ∈ lw_tbl := tb_2 (List.mem_of_getElem? (i := 143) rfl)
theorem hI_X7_init : Cond.instanceMethod yX7_init ∈ lw_w := tw (tb_2 (List.mem_of_getElem? (i := 144) rfl)) rfl
theorem hC_X7_init : Cond.code yX7_init cX7_init 1 none ∈ lw_w := tw (tb_2 (List.mem_of_getElem? (i := 145) rfl)) rfl
theorem hM_X7_3 : Cond.methodLink RX7 3 objectInit ∈ lw_w := tw (tb_2 (List.mem_of_getElem? (i := 146) rfl)) rfl
theorem hF_X7_11 : Cond.fieldLink RX7 11 "ChimeShares$Sheet" "lane" "I" ∈ lw_w := tw (tb_2 (List.mem_of_getElem? (i := 147) rfl)) rfl
theorem hF_X10_306 : Cond.fieldLink RX10 306 "ChimeShares$Sheet" "lane" "I" ∈ lw_w := tw (tb_2 (List.mem_of_getElem? (i := 148) rfl)) rfl
theorem hF_X7_19 : Cond.fieldLink RX7 19 "ChimeShares$Sheet" "size" "I" ∈ lw_w := tw (tb_2 (List.mem_of_getElem? (i := 149) rfl)) rfl
theorem hF_X10_328 : Cond.fieldLink RX10 328 "ChimeShares$Sheet" "size" "I" ∈ lw_w := tw (tb_2 (List.mem_of_getElem? (i := 150) rfl)) rfl
theorem hF_X7_15 : Cond.fieldLink RX7 15 "ChimeShares$Sheet" "cells" "[I" ∈ lw_w := tw (tb_2 (List.mem_of_getElem? (i := 151) rfl)) rfl
theorem hF_X10_315 : Cond.fieldLink RX10 315 "ChimeShares$Sheet" "cells" "[I" ∈ lw_w := tw (tb_2 (List.mem_of_getElem? (i := 152) rfl)) rfl
theorem hA_boolean : Cond.arrayClass .boolean ∈ lw_w := tw (tb_2 (List.mem_of_getElem? (i := 160) rfl)) rfl
theorem hF_X10_12 : Cond.fieldLink RX10 12 "ChimeShares" "tape" "LChimeShares$Tape;" ∈ lw_w := tw (tb_2 (List.mem_of_getElem? (i := 161) rfl)) rfl
theorem hF_X10_21 : Cond.fieldLink RX10 21 "ChimeShares" "reader" "LChimeShares$Reader;" ∈ lw_w := tw (tb_2 (List.mem_of_getElem? (i := 162) rfl)) rfl
theorem hF_X10_28 : Cond.fieldLink RX10 28 "ChimeShares" "town" "LChimeShares$Town;" ∈ lw_w := tw (tb_2 (List.mem_of_getElem? (i := 163) rfl)) rfl
theorem hF_X10_36 : Cond.fieldLink RX10 36 "ChimeShares" "chimes" "LChimeShares$Chimes;" ∈ lw_w := tw (tb_2 (List.mem_of_getElem? (i := 164) rfl)) rfl
theorem hF_X10_42 : Cond.fieldLink RX10 42 "ChimeShares" "ringing" "LChimeShares$Ringing;" ∈ lw_w := tw (tb_2 (List.mem_of_getElem? (i := 165) rfl)) rfl
theorem hF_X10_51 : Cond.fieldLink RX10 51 "ChimeShares" "asks" "LChimeShares$Asks;" ∈ lw_w := tw (tb_2 (List.mem_of_getElem? (i := 166) rfl)) rfl
theorem hF_X10_58 : Cond.fieldLink RX10 58 "ChimeShares" "feasts" "LChimeShares$Feasts;" ∈ lw_w := tw (tb_2 (List.mem_of_getElem? (i := 167) rfl)) rfl
theorem hF_X10_65 : Cond.fieldLink RX10 65 "ChimeShares" "nearest" "LChimeShares$Nearest;" ∈ lw_w := tw (tb_2 (List.mem_of_getElem? (i := 168) rfl)) rfl
theorem hF_X10_72 : Cond.fieldLink RX10 72 "ChimeShares" "hearing" "LChimeShares$Hearing;" ∈ lw_w := tw (tb_2 (List.mem_of_getElem? (i := 169) rfl)) rfl
theorem hF_X10_78 : Cond.fieldLink RX10 78 "ChimeShares" "images" "[LChimeShares$Chimes;" ∈ lw_w := tw (tb_2 (List.mem_of_getElem? (i := 170) rfl)) rfl
theorem hF_X10_82 : Cond.fieldLink RX10 82 "ChimeShares" "kept" "[Z" ∈ lw_w := tw (tb_2 (List.mem_of_getElem? (i := 171) rfl)) rfl
theorem hF_X10_88 : Cond.fieldLink RX10 88 "ChimeShares" "sheets" "[LChimeShares$Sheet;" ∈ lw_w := tw (tb_2 (List.mem_of_getElem? (i := 172) rfl)) rfl
theorem hF_X10_318 : Cond.fieldLink RX10 318 "ChimeShares" "tornFault" "I" ∈ lw_w := tw (tb_2 (List.mem_of_getElem? (i := 173) rfl)) rfl
theorem hM_L_15 : Cond.methodLink RL 15 yX10_feed ∈ lw_w := tw (tb_2 (List.mem_of_getElem? (i := 201) rfl)) rfl
theorem hI_X10_feed : Cond.instanceMethod yX10_feed ∈ lw_w := tw (tb_2 (List.mem_of_getElem? (i := 202) rfl)) rfl
theorem hS_X10_feed : Cond.selects RX10 yX10_feed yX10_feed ∈ lw_w := tw (tb_2 (List.mem_of_getElem? (i := 203) rfl)) rfl
theorem hC_X10_feed : Cond.code yX10_feed cX10_feed 3 (some .int) ∈ lw_w := tw (tb_2 (List.mem_of_getElem? (i := 204) rfl)) rfl
theorem hM_X10_98 : Cond.methodLink RX10 98 yX8_append ∈ lw_w := tw (tb_2 (List.mem_of_getElem? (i := 205) rfl)) rfl
theorem hI_X8_append : Cond.instanceMethod yX8_append ∈ lw_w := tw (tb_2 (List.mem_of_getElem? (i := 206) rfl)) rfl
theorem hS_X8_append : Cond.selects RX8 yX8_append yX8_append ∈ lw_w := tw (tb_2 (List.mem_of_getElem? (i := 207) rfl)) rfl
theorem hC_X8_append : Cond.code yX8_append cX8_append 4 none ∈ lw_w := tw (tb_2 (List.mem_of_getElem? (i := 208) rfl)) rfl
theorem hM_L_20 : Cond.methodLink RL 20 yX10_end ∈ lw_w := tw (tb_2 (List.mem_of_getElem? (i := 209) rfl)) rfl
theorem hI_X10_end : Cond.instanceMethod yX10_end ∈ lw_w := tw (tb_2 (List.mem_of_getElem? (i := 210) rfl)) rfl
theorem hS_X10_end : Cond.selects RX10 yX10_end yX10_end ∈ lw_w := tw (tb_2 (List.mem_of_getElem? (i := 211) rfl)) rfl
theorem hC_X10_end : Cond.code yX10_end cX10_end 3 (some .int) ∈ lw_w := tw (tb_2 (List.mem_of_getElem? (i := 212) rfl)) rfl
theorem hM_L_25 : Cond.methodLink RL 25 yX10_text ∈ lw_w := tw (tb_2 (List.mem_of_getElem? (i := 213) rfl)) rfl
theorem hI_X10_text : Cond.instanceMethod yX10_text ∈ lw_w := tw (tb_2 (List.mem_of_getElem? (i := 214) rfl)) rfl
theorem hS_X10_text : Cond.selects RX10 yX10_text yX10_text ∈ lw_w := tw (tb_2 (List.mem_of_getElem? (i := 215) rfl)) rfl
theorem hC_X10_text : Cond.code yX10_text cX10_text 3 (some .int) ∈ lw_w := tw (tb_2 (List.mem_of_getElem? (i := 216) rfl)) rfl
theorem hM_X10_102 : Cond.methodLink RX10 102 yX5_readAll ∈ lw_w := tw (tb_2 (List.mem_of_getElem? (i := 217) rfl)) rfl
theorem hI_X5_readAll : Cond.instanceMethod yX5_readAll ∈ lw_w := tw (tb_2 (List.mem_of_getElem? (i := 218) rfl)) rfl
theorem hS_X5_readAll : Cond.selects RX5 yX5_readAll yX5_readAll ∈ lw_w := tw (tb_2 (List.mem_of_getElem? (i := 219) rfl)) rfl
theorem hC_X5_readAll : Cond.code yX5_readAll cX5_readAll 2 (some .boolean) ∈ lw_w := tw (tb_2 (List.mem_of_getElem? (i := 220) rfl)) rfl
theorem hM_X5_22 : Cond.methodLink RX5 22 yX9_empty ∈ lw_w := tw (tb_2 (List.mem_of_getElem? (i := 221) rfl)) rfl
theorem hI_X9_empty : Cond.instanceMethod yX9_empty ∈ lw_w := tw (tb_2 (List.mem_of_getElem? (i := 222) rfl)) rfl
theorem hS_X9_empty : Cond.selects RX9 yX9_empty yX9_empty ∈ lw_w := tw (tb_2 (List.mem_of_getElem? (i := 223) rfl)) rfl
theorem hC_X9_empty : Cond.code yX9_empty cX9_empty 1 none ∈ lw_w := tw (tb_2 (List.mem_of_getElem? (i := 224) rfl)) rfl
theorem hM_X9_40 : Cond.methodLink RX9 40 yX1_empty ∈ lw_w := tw (tb_2 (List.mem_of_getElem? (i := 225) rfl)) rfl
theorem hI_X1_empty : Cond.instanceMethod yX1_empty ∈ lw_w := tw (tb_2 (List.mem_of_getElem? (i := 226) rfl)) rfl
theorem hS_X1_empty : Cond.selects RX1 yX1_empty yX1_empty ∈ lw_w := tw (tb_2 (List.mem_of_getElem? (i := 227) rfl)) rfl
theorem hC_X1_empty : Cond.code yX1_empty cX1_empty 1 none ∈ lw_w := tw (tb_2 (List.mem_of_getElem? (i := 228) rfl)) rfl
theorem hM_X1_40 : Cond.methodLink RX1 40 yJ7_fill_53178 ∈ lw_w := tw (tb_2 (List.mem_of_getElem? (i := 229) rfl)) rfl
theorem hSt_J7_fill_53178 : Cond.static yJ7_fill_53178 ∈ lw_w := tw (tb_2 (List.mem_of_getElem? (i := 230) rfl)) rfl
theorem hC_J7_fill_53178 : Cond.code yJ7_fill_53178 cJ7_fill_53178 4 none ∈ lw_w := tw (tb_2 (List.mem_of_getElem? (i := 231) rfl)) rfl
theorem hM_X5_39 : Cond.methodLink RX5 39 yX8_rewind ∈ lw_w := tw (tb_2 (List.mem_of_getElem? (i := 232) rfl)) rfl
theorem hI_X8_rewind : Cond.instanceMethod yX8_rewind ∈ lw_w := tw (tb_2 (List.mem_of_getElem? (i := 233) rfl)) rfl
theorem hS_X8_rewind : Cond.selects RX8 yX8_rewind yX8_rewind ∈ lw_w := tw (tb_2 (List.mem_of_getElem? (i := 234) rfl)) rfl
theorem hC_X8_rewind : Cond.code yX8_rewind cX8_rewind 1 none ∈ lw_w := tw (tb_2 (List.mem_of_getElem? (i := 235) rfl)) rfl
theorem hM_X5_44 : Cond.methodLink RX5 44 yX5_advance ∈ lw_w := tw (tb_2 (List.mem_of_getElem? (i := 236) rfl)) rfl
theorem hI_X5_advance : Cond.instanceMethod yX5_advance ∈ lw_w := tw (tb_2 (List.mem_of_getElem? (i := 238) rfl)) rfl
theorem hC_X5_advance : Cond.code yX5_advance cX5_advance 1 (some .boolean) ∈ lw_w := tw (tb_2 (List.mem_of_getElem? (i := 239) rfl)) rfl
theorem hM_X5_159 : Cond.methodLink RX5 159 yX8_readToken ∈ lw_w := tw (tb_3 (List.mem_of_getElem? (i := 0) rfl)) rfl
theorem hI_X8_readToken : Cond.instanceMethod yX8_readToken ∈ lw_w := tw (tb_3 (List.mem_of_getElem? (i := 1) rfl)) rfl
theorem hS_X8_readToken : Cond.selects RX8 yX8_readToken yX8_readToken ∈ lw_w := tw (tb_3 (List.mem_of_getElem? (i := 2) rfl)) rfl
theorem hC_X8_readToken : Cond.code yX8_readToken cX8_readToken 1 none ∈ lw_w := tw (tb_3 (List.mem_of_getElem? (i := 3) rfl)) rfl
theorem hM_X5_57 : Cond.methodLink RX5 57 yX5_refuse ∈ lw_w := tw (tb_3 (List.mem_of_getElem? (i := 4) rfl)) rfl
theorem hI_X5_refuse : Cond.instanceMethod yX5_refuse ∈ lw_w := tw (tb_3 (List.mem_of_getElem? (i := 6) rfl)) rfl
theorem hC_X5_refuse : Cond.code yX5_refuse cX5_refuse 2 (some .boolean) ∈ lw_w := tw (tb_3 (List.mem_of_getElem? (i := 7) rfl)) rfl
theorem hM_X5_51 : Cond.methodLink RX5 51 yX5_readLine ∈ lw_w := tw (tb_3 (List.mem_of_getElem? (i := 8) rfl)) rfl
theorem hI_X5_readLine : Cond.instanceMethod yX5_readLine ∈ lw_w := tw (tb_3 (List.mem_of_getElem? (i := 10) rfl)) rfl
theorem hC_X5_readLine : Cond.code yX5_readLine cX5_readLine 1 (some .boolean) ∈ lw_w := tw (tb_3 (List.mem_of_getElem? (i := 11) rfl)) rfl
theorem hR_61 : (Jvm.Cond.stringRef "ChimeShares$Reader" (61 : Nat) "houses") ∈ lw_tbl := tb_3 (List.mem_of_getElem? (i := 12) rfl)
theorem hM_X5_63 : Cond.methodLink RX5 63 yX8_isName ∈ lw_w := tw (tb_3 (List.mem_of_getElem? (i := 13) rfl)) rfl
theorem hI_X8_isName : Cond.instanceMethod yX8_isName ∈ lw_w := tw (tb_3 (List.mem_of_getElem? (i := 14) rfl)) rfl
theorem hS_X8_isName : Cond.selects RX8 yX8_isName yX8_isName ∈ lw_w := tw (tb_3 (List.mem_of_getElem? (i := 15) rfl)) rfl
theorem hC_X8_isName : Cond.code yX8_isName cX8_isName 3 (some .boolean) ∈ lw_w := tw (tb_3 (List.mem_of_getElem? (i := 16) rfl)) rfl
theorem hM_X8_31 : Cond.methodLink RX8 31 yJ0_length_8abf5 ∈ lw_w := tw (tb_3 (List.mem_of_getElem? (i := 17) rfl)) rfl
theorem hI_J0_length_8abf5 : Cond.instanceMethod yJ0_length_8abf5 ∈ lw_w := tw (tb_3 (List.mem_of_getElem? (i := 18) rfl)) rfl
theorem hS_J0_length_8abf5 : Cond.selects RJ0 yJ0_length_8abf5 yJ0_length_8abf5 ∈ lw_w := tw (tb_3 (List.mem_of_getElem? (i := 19) rfl)) rfl
theorem hC_J0_length_8abf5 : Cond.code yJ0_length_8abf5 cJ0_length_8abf5 1 (some .int) ∈ lw_w := tw (tb_3 (List.mem_of_getElem? (i := 20) rfl)) rfl
theorem hM_J0_335 : Cond.methodLink RJ0 335 yJ0_coder_7d493 ∈ lw_w := tw (tb_3 (List.mem_of_getElem? (i := 21) rfl)) rfl
theorem hI_J0_coder_7d493 : Cond.instanceMethod yJ0_coder_7d493 ∈ lw_w := tw (tb_3 (List.mem_of_getElem? (i := 22) rfl)) rfl
theorem hS_J0_coder_7d493 : Cond.selects RJ0 yJ0_coder_7d493 yJ0_coder_7d493 ∈ lw_w := tw (tb_3 (List.mem_of_getElem? (i := 23) rfl)) rfl
theorem hC_J0_coder_7d493 : Cond.code yJ0_coder_7d493 cJ0_coder_7d493 1 (some .byte) ∈ lw_w := tw (tb_3 (List.mem_of_getElem? (i := 24) rfl)) rfl
theorem hF_J0_38 : Cond.fieldLink RJ0 38 "java/lang/String" "COMPACT_STRINGS" "Z" ∈ lw_w := tw (tb_3 (List.mem_of_getElem? (i := 25) rfl)) rfl
theorem hL_COMPACT_STRINGS : (Jvm.Cond.laysStatic "java/lang/String" "COMPACT_STRINGS" "Z") ∈ lw_tbl := tb_3 (List.mem_of_getElem? (i := 26) rfl)
theorem hM_X8_36 : Cond.methodLink RX8 36 yJ0_charAt_5068e ∈ lw_w := tw (tb_3 (List.mem_of_getElem? (i := 27) rfl)) rfl
theorem hI_J0_charAt_5068e : Cond.instanceMethod yJ0_charAt_5068e ∈ lw_w := tw (tb_3 (List.mem_of_getElem? (i := 28) rfl)) rfl
theorem hS_J0_charAt_5068e : Cond.selects RJ0 yJ0_charAt_5068e yJ0_charAt_5068e ∈ lw_w := tw (tb_3 (List.mem_of_getElem? (i := 29) rfl)) rfl
theorem hC_J0_charAt_5068e : Cond.code yJ0_charAt_5068e cJ0_charAt_5068e 2 (some .char) ∈ lw_w := tw (tb_3 (List.mem_of_getElem? (i := 30) rfl)) rfl
theorem hM_J0_492 : Cond.methodLink RJ0 492 yJ0_isLatin1_aae02 ∈ lw_w := tw (tb_3 (List.mem_of_getElem? (i := 31) rfl)) rfl
theorem hI_J0_isLatin1_aae02 : Cond.instanceMethod yJ0_isLatin1_aae02 ∈ lw_w := tw (tb_3 (List.mem_of_getElem? (i := 32) rfl)) rfl
theorem hS_J0_isLatin1_aae02 : Cond.selects RJ0 yJ0_isLatin1_aae02 yJ0_isLatin1_aae02 ∈ lw_w := tw (tb_3 (List.mem_of_getElem? (i := 33) rfl)) rfl
theorem hC_J0_isLatin1_aae02 : Cond.code yJ0_isLatin1_aae02 cJ0_isLatin1_aae02 1 (some .boolean) ∈ lw_w := tw (tb_3 (List.mem_of_getElem? (i := 34) rfl)) rfl
theorem hM_J0_495 : Cond.methodLink RJ0 495 yJ1_charAt_3b067 ∈ lw_w := tw (tb_3 (List.mem_of_getElem? (i := 35) rfl)) rfl
theorem hSt_J1_charAt_3b067 : Cond.static yJ1_charAt_3b067 ∈ lw_w := tw (tb_3 (List.mem_of_getElem? (i := 36) rfl)) rfl
theorem hC_J1_charAt_3b067 : Cond.code yJ1_charAt_3b067 cJ1_charAt_3b067 2 (some .char) ∈ lw_w := tw (tb_3 (List.mem_of_getElem? (i := 37) rfl)) rfl
theorem hM_J1_9 : Cond.methodLink RJ1 9 yJ0_checkIndex_df160 ∈ lw_w := tw (tb_3 (List.mem_of_getElem? (i := 38) rfl)) rfl
theorem hSt_J0_checkIndex_df160 : Cond.static yJ0_checkIndex_df160 ∈ lw_w := tw (tb_3 (List.mem_of_getElem? (i := 39) rfl)) rfl
theorem hC_J0_checkIndex_df160 : Cond.code yJ0_checkIndex_df160 cJ0_checkIndex_df160 2 none ∈ lw_w := tw (tb_3 (List.mem_of_getElem? (i := 40) rfl)) rfl
theorem hF_J0_1053 : Cond.fieldLink RJ0 1053 "jdk/internal/util/Preconditions" "SIOOBE_FORMATTER" "Ljava/util/function/BiFunction;" ∈ lw_w := tw (tb_3 (List.mem_of_getElem? (i := 41) rfl)) rfl
theorem hL_SIOOBE_FORMATTER : (Jvm.Cond.laysStatic "jdk/internal/util/Preconditions" "SIOOBE_FORMATTER" "Ljava/util/function/BiFunction;") ∈ lw_tbl := tb_3 (List.mem_of_getElem? (i := 42) rfl)
theorem hM_J0_1059 : Cond.methodLink RJ0 1059 yJ3_checkIndex_8e157 ∈ lw_w := tw (tb_3 (List.mem_of_getElem? (i := 43) rfl)) rfl
theorem hSt_J3_checkIndex_8e157 : Cond.static yJ3_checkIndex_8e157 ∈ lw_w := tw (tb_3 (List.mem_of_getElem? (i := 44) rfl)) rfl
theorem hC_J3_checkIndex_8e157 : Cond.code yJ3_checkIndex_8e157 cJ3_checkIndex_8e157 3 (some .int) ∈ lw_w := tw (tb_3 (List.mem_of_getElem? (i := 45) rfl)) rfl
theorem hM_J0_498 : Cond.methodLink RJ0 498 yJ2_charAt_3b067 ∈ lw_w := tw (tb_3 (List.mem_of_getElem? (i := 46) rfl)) rfl
theorem hSt_J2_charAt_3b067 : Cond.static yJ2_charAt_3b067 ∈ lw_w := tw (tb_3 (List.mem_of_getElem? (i := 47) rfl)) rfl
theorem hC_J2_charAt_3b067 : Cond.code yJ2_charAt_3b067 cJ2_charAt_3b067 2 (some .char) ∈ lw_w := tw (tb_3 (List.mem_of_getElem? (i := 48) rfl)) rfl
theorem hM_J2_67 : Cond.methodLink RJ2 67 yJ2_checkIndex_2214a ∈ lw_w := tw (tb_3 (List.mem_of_getElem? (i := 49) rfl)) rfl
theorem hSt_J2_checkIndex_2214a : Cond.static yJ2_checkIndex_2214a ∈ lw_w := tw (tb_3 (List.mem_of_getElem? (i := 50) rfl)) rfl
theorem hC_J2_checkIndex_2214a : Cond.code yJ2_checkIndex_2214a cJ2_checkIndex_2214a 2 none ∈ lw_w := tw (tb_3 (List.mem_of_getElem? (i := 51) rfl)) rfl
theorem hM_J2_48 : Cond.methodLink RJ2 48 yJ2_length_9d52b ∈ lw_w := tw (tb_3 (List.mem_of_getElem? (i := 52) rfl)) rfl
theorem hSt_J2_length_9d52b : Cond.static yJ2_length_9d52b ∈ lw_w := tw (tb_3 (List.mem_of_getElem? (i := 53) rfl)) rfl
theorem hC_J2_length_9d52b : Cond.code yJ2_length_9d52b cJ2_length_9d52b 1 (some .int) ∈ lw_w := tw (tb_3 (List.mem_of_getElem? (i := 54) rfl)) rfl
theorem hM_J2_414 : Cond.methodLink RJ2 414 yJ0_checkIndex_df160 ∈ lw_w := tw (tb_3 (List.mem_of_getElem? (i := 55) rfl)) rfl
theorem hM_J2_71 : Cond.methodLink RJ2 71 yJ2_getChar_3b067 ∈ lw_w := tw (tb_3 (List.mem_of_getElem? (i := 56) rfl)) rfl
theorem hSt_J2_getChar_3b067 : Cond.static yJ2_getChar_3b067 ∈ lw_w := tw (tb_3 (List.mem_of_getElem? (i := 57) rfl)) rfl
theorem hC_J2_getChar_3b067 : Cond.code yJ2_getChar_3b067 cJ2_getChar_3b067 2 (some .char) ∈ lw_w := tw (tb_3 (List.mem_of_getElem? (i := 58) rfl)) rfl
theorem hF_J2_44 : Cond.fieldLink RJ2 44 "java/lang/StringUTF16" "$assertionsDisabled" "Z" ∈ lw_w := tw (tb_3 (List.mem_of_getElem? (i := 59) rfl)) rfl
theorem hL_assertionsDisabled : (Jvm.Cond.laysStatic "java/lang/StringUTF16" "$assertionsDisabled" "Z") ∈ lw_tbl := tb_3 (List.mem_of_getElem? (i := 60) rfl)
theorem hF_J2_59 : Cond.fieldLink RJ2 59 "java/lang/StringUTF16" "HI_BYTE_SHIFT" "I" ∈ lw_w := tw (tb_3 (List.mem_of_getElem? (i := 61) rfl)) rfl
theorem hL_HI_BYTE_SHIFT : (Jvm.Cond.laysStatic "java/lang/StringUTF16" "HI_BYTE_SHIFT" "I") ∈ lw_tbl := tb_3 (List.mem_of_getElem? (i := 62) rfl)
theorem hF_J2_63 : Cond.fieldLink RJ2 63 "java/lang/StringUTF16" "LO_BYTE_SHIFT" "I" ∈ lw_w := tw (tb_3 (List.mem_of_getElem? (i := 63) rfl)) rfl
theorem hL_LO_BYTE_SHIFT : (Jvm.Cond.laysStatic "java/lang/StringUTF16" "LO_BYTE_SHIFT" "I") ∈ lw_tbl := tb_3 (List.mem_of_getElem? (i := 64) rfl)
theorem hM_X5_67 : Cond.methodLink RX5 67 yX5_readHouses ∈ lw_w := tw (tb_3 (List.mem_of_getElem? (i := 65) rfl)) rfl
theorem hI_X5_readHouses : Cond.instanceMethod yX5_readHouses ∈ lw_w := tw (tb_3 (List.mem_of_getElem? (i := 67) rfl)) rfl
theorem hC_X5_readHouses : Cond.code yX5_readHouses cX5_readHouses 1 (some .boolean) ∈ lw_w := tw (tb_3 (List.mem_of_getElem? (i := 68) rfl)) rfl
theorem hM_X5_90 : Cond.methodLink RX5 90 yX5_nextNumber ∈ lw_w := tw (tb_3 (List.mem_of_getElem? (i := 69) rfl)) rfl
theorem hI_X5_nextNumber : Cond.instanceMethod yX5_nextNumber ∈ lw_w := tw (tb_3 (List.mem_of_getElem? (i := 71) rfl)) rfl
theorem hC_X5_nextNumber : Cond.code yX5_nextNumber cX5_nextNumber 4 (some .boolean) ∈ lw_w := tw (tb_3 (List.mem_of_getElem? (i := 72) rfl)) rfl
theorem hM_X5_144 : Cond.methodLink RX5 144 yX5_faultOfNumber ∈ lw_w := tw (tb_3 (List.mem_of_getElem? (i := 73) rfl)) rfl
theorem hI_X5_faultOfNumber : Cond.instanceMethod yX5_faultOfNumber ∈ lw_w := tw (tb_3 (List.mem_of_getElem? (i := 75) rfl)) rfl
theorem hC_X5_faultOfNumber : Cond.code yX5_faultOfNumber cX5_faultOfNumber 3 (some .int) ∈ lw_w := tw (tb_3 (List.mem_of_getElem? (i := 76) rfl)) rfl
theorem hM_X5_99 : Cond.methodLink RX5 99 yX5_endLine ∈ lw_w := tw (tb_3 (List.mem_of_getElem? (i := 77) rfl)) rfl
theorem hI_X5_endLine : Cond.instanceMethod yX5_endLine ∈ lw_w := tw (tb_3 (List.mem_of_getElem? (i := 79) rfl)) rfl
theorem hC_X5_endLine : Cond.code yX5_endLine cX5_endLine 1 (some .boolean) ∈ lw_w := tw (tb_3 (List.mem_of_getElem? (i := 80) rfl)) rfl
theorem hR_70 : (Jvm.Cond.stringRef "ChimeShares$Reader" (70 : Nat) "gap") ∈ lw_tbl := tb_3 (List.mem_of_getElem? (i := 81) rfl)
theorem hM_X5_72 : Cond.methodLink RX5 72 yX5_readGap ∈ lw_w := tw (tb_3 (List.mem_of_getElem? (i := 82) rfl)) rfl
theorem hI_X5_readGap : Cond.instanceMethod yX5_readGap ∈ lw_w := tw (tb_3 (List.mem_of_getElem? (i := 84) rfl)) rfl
theorem hC_X5_readGap : Cond.code yX5_readGap cX5_readGap 1 (some .boolean) ∈ lw_w := tw (tb_3 (List.mem_of_getElem? (i := 85) rfl)) rfl
theorem hR_75 : (Jvm.Cond.stringRef "ChimeShares$Reader" (75 : Nat) "bell") ∈ lw_tbl := tb_3 (List.mem_of_getElem? (i := 86) rfl)
theorem hM_X5_77 : Cond.methodLink RX5 77 yX5_readBell ∈ lw_w := tw (tb_3 (List.mem_of_getElem? (i := 87) rfl)) rfl
theorem hI_X5_readBell : Cond.instanceMethod yX5_readBell ∈ lw_w := tw (tb_3 (List.mem_of_getElem? (i := 89) rfl)) rfl
theorem hC_X5_readBell : Cond.code yX5_readBell cX5_readBell 3 (some .boolean) ∈ lw_w := tw (tb_3 (List.mem_of_getElem? (i := 90) rfl)) rfl
theorem hM_X5_129 : Cond.methodLink RX5 129 yX5_readWiths ∈ lw_w := tw (tb_3 (List.mem_of_getElem? (i := 91) rfl)) rfl
theorem hI_X5_readWiths : Cond.instanceMethod yX5_readWiths ∈ lw_w := tw (tb_3 (List.mem_of_getElem? (i := 93) rfl)) rfl
theorem hC_X5_readWiths : Cond.code yX5_readWiths cX5_readWiths 5 (some .boolean) ∈ lw_w := tw (tb_3 (List.mem_of_getElem? (i := 94) rfl)) rfl
theorem hR_133 : (Jvm.Cond.stringRef "ChimeShares$Reader" (133 : Nat) "half") ∈ lw_tbl := tb_3 (List.mem_of_getElem? (i := 95) rfl)
theorem hR_134 : (Jvm.Cond.stringRef "ChimeShares$Reader" (134 : Nat) "shut") ∈ lw_tbl := tb_3 (List.mem_of_getElem? (i := 96) rfl)
theorem hR_80 : (Jvm.Cond.stringRef "ChimeShares$Reader" (80 : Nat) "tune") ∈ lw_tbl := tb_3 (List.mem_of_getElem? (i := 97) rfl)
theorem hM_X5_82 : Cond.methodLink RX5 82 yX5_readTune ∈ lw_w := tw (tb_3 (List.mem_of_getElem? (i := 98) rfl)) rfl
theorem hI_X5_readTune : Cond.instanceMethod yX5_readTune ∈ lw_w := tw (tb_3 (List.mem_of_getElem? (i := 100) rfl)) rfl
theorem hC_X5_readTune : Cond.code yX5_readTune cX5_readTune 2 (some .boolean) ∈ lw_w := tw (tb_3 (List.mem_of_getElem? (i := 101) rfl)) rfl
theorem hM_X5_141 : Cond.methodLink RX5 141 yX5_readStrokes ∈ lw_w := tw (tb_3 (List.mem_of_getElem? (i := 102) rfl)) rfl
theorem hI_X5_readStrokes : Cond.instanceMethod yX5_readStrokes ∈ lw_w := tw (tb_3 (List.mem_of_getElem? (i := 104) rfl)) rfl
theorem hC_X5_readStrokes : Cond.code yX5_readStrokes cX5_readStrokes 4 (some .boolean) ∈ lw_w := tw (tb_3 (List.mem_of_getElem? (i := 105) rfl)) rfl
theorem hR_85 : (Jvm.Cond.stringRef "ChimeShares$Reader" (85 : Nat) "feud") ∈ lw_tbl := tb_3 (List.mem_of_getElem? (i := 106) rfl)
theorem hM_X5_87 : Cond.methodLink RX5 87 yX5_readFeud ∈ lw_w := tw (tb_3 (List.mem_of_getElem? (i := 107) rfl)) rfl
theorem hI_X5_readFeud : Cond.instanceMethod yX5_readFeud ∈ lw_w := tw (tb_3 (List.mem_of_getElem? (i := 109) rfl)) rfl
theorem hC_X5_readFeud : Cond.code yX5_readFeud cX5_readFeud 2 (some .boolean) ∈ lw_w := tw (tb_3 (List.mem_of_getElem? (i := 110) rfl)) rfl
theorem hM_X5_155 : Cond.methodLink RX5 155 yX1_setFoes ∈ lw_w := tw (tb_3 (List.mem_of_getElem? (i := 111) rfl)) rfl
theorem hI_X1_setFoes : Cond.instanceMethod yX1_setFoes ∈ lw_w := tw (tb_3 (List.mem_of_getElem? (i := 112) rfl)) rfl
theorem hS_X1_setFoes : Cond.selects RX1 yX1_setFoes yX1_setFoes ∈ lw_w := tw (tb_3 (List.mem_of_getElem? (i := 113) rfl)) rfl
theorem hC_X1_setFoes : Cond.code yX1_setFoes cX1_setFoes 4 none ∈ lw_w := tw (tb_3 (List.mem_of_getElem? (i := 114) rfl)) rfl
theorem hM_X5_54 : Cond.methodLink RX5 54 yX9_isWhole ∈ lw_w := tw (tb_3 (List.mem_of_getElem? (i := 115) rfl)) rfl
theorem hI_X9_isWhole : Cond.instanceMethod yX9_isWhole ∈ lw_w := tw (tb_3 (List.mem_of_getElem? (i := 116) rfl)) rfl
theorem hS_X9_isWhole : Cond.selects RX9 yX9_isWhole yX9_isWhole ∈ lw_w := tw (tb_3 (List.mem_of_getElem? (i := 117) rfl)) rfl
theorem hC_X9_isWhole : Cond.code yX9_isWhole cX9_isWhole 3 (some .boolean) ∈ lw_w := tw (tb_3 (List.mem_of_getElem? (i := 118) rfl)) rfl
theorem hM_X9_59 : Cond.methodLink RX9 59 yX9_hasHouse ∈ lw_w := tw (tb_3 (List.mem_of_getElem? (i := 119) rfl)) rfl
theorem hI_X9_hasHouse : Cond.instanceMethod yX9_hasHouse ∈ lw_w := tw (tb_3 (List.mem_of_getElem? (i := 120) rfl)) rfl
theorem hS_X9_hasHouse : Cond.selects RX9 yX9_hasHouse yX9_hasHouse ∈ lw_w := tw (tb_3 (List.mem_of_getElem? (i := 121) rfl)) rfl
theorem hC_X9_hasHouse : Cond.code yX9_hasHouse cX9_hasHouse 2 (some .boolean) ∈ lw_w := tw (tb_3 (List.mem_of_getElem? (i := 122) rfl)) rfl
theorem hM_X9_69 : Cond.methodLink RX9 69 yX1_hasBell ∈ lw_w := tw (tb_3 (List.mem_of_getElem? (i := 123) rfl)) rfl
theorem hI_X1_hasBell : Cond.instanceMethod yX1_hasBell ∈ lw_w := tw (tb_3 (List.mem_of_getElem? (i := 124) rfl)) rfl
theorem hS_X1_hasBell : Cond.selects RX1 yX1_hasBell yX1_hasBell ∈ lw_w := tw (tb_3 (List.mem_of_getElem? (i := 125) rfl)) rfl
theorem hC_X1_hasBell : Cond.code yX1_hasBell cX1_hasBell 2 (some .boolean) ∈ lw_w := tw (tb_3 (List.mem_of_getElem? (i := 126) rfl)) rfl
theorem hM_X10_112 : Cond.methodLink RX10 112 yX9_copyFrom ∈ lw_w := tw (tb_3 (List.mem_of_getElem? (i := 127) rfl)) rfl
theorem hI_X9_copyFrom : Cond.instanceMethod yX9_copyFrom ∈ lw_w := tw (tb_3 (List.mem_of_getElem? (i := 128) rfl)) rfl
theorem hS_X9_copyFrom : Cond.selects RX9 yX9_copyFrom yX9_copyFrom ∈ lw_w := tw (tb_3 (List.mem_of_getElem? (i := 129) rfl)) rfl
theorem hC_X9_copyFrom : Cond.code yX9_copyFrom cX9_copyFrom 3 none ∈ lw_w := tw (tb_3 (List.mem_of_getElem? (i := 130) rfl)) rfl
theorem hM_X9_43 : Cond.methodLink RX9 43 ⟨"java/lang/System", "arraycopy", "(Ljava/lang/Object;ILjava/lang/Object;II)V"⟩ ∈ lw_w := tw (tb_3 (List.mem_of_getElem? (i := 131) rfl)) rfl
theorem hSt_copy : Cond.static arraycopyName ∈ lw_w := tw (tb_3 (List.mem_of_getElem? (i := 132) rfl)) rfl
theorem hNa_copy : Cond.native arraycopyName ∈ lw_w := tw (tb_3 (List.mem_of_getElem? (i := 133) rfl)) rfl
theorem hM_X9_49 : Cond.methodLink RX9 49 yX1_copyFrom ∈ lw_w := tw (tb_3 (List.mem_of_getElem? (i := 134) rfl)) rfl
theorem hI_X1_copyFrom : Cond.instanceMethod yX1_copyFrom ∈ lw_w := tw (tb_3 (List.mem_of_getElem? (i := 135) rfl)) rfl
theorem hS_X1_copyFrom : Cond.selects RX1 yX1_copyFrom yX1_copyFrom ∈ lw_w := tw (tb_3 (List.mem_of_getElem? (i := 136) rfl)) rfl
theorem hC_X1_copyFrom : Cond.code yX1_copyFrom cX1_copyFrom 2 none ∈ lw_w := tw (tb_3 (List.mem_of_getElem? (i := 137) rfl)) rfl
theorem hM_X1_46 : Cond.methodLink RX1 46 ⟨"java/lang/System", "arraycopy", "(Ljava/lang/Object;ILjava/lang/Object;II)V"⟩ ∈ lw_w := tw (tb_3 (List.mem_of_getElem? (i := 138) rfl)) rfl
theorem hM_L_30 : Cond.methodLink RL 30 yX10_fault ∈ lw_w := tw (tb_3 (List.mem_of_getElem? (i := 139) rfl)) rfl
theorem hI_X10_fault : Cond.instanceMethod yX10_fault ∈ lw_w := tw (tb_3 (List.mem_of_getElem? (i := 140) rfl)) rfl
theorem hS_X10_fault : Cond.selects RX10 yX10_fault yX10_fault ∈ lw_w := tw (tb_3 (List.mem_of_getElem? (i := 141) rfl)) rfl
theorem hC_X10_fault : Cond.code yX10_fault cX10_fault 1 (some .int) ∈ lw_w := tw (tb_3 (List.mem_of_getElem? (i := 142) rfl)) rfl
theorem hM_L_34 : Cond.methodLink RL 34 yX10_rule ∈ lw_w := tw (tb_3 (List.mem_of_getElem? (i := 143) rfl)) rfl
theorem hI_X10_rule : Cond.instanceMethod yX10_rule ∈ lw_w := tw (tb_3 (List.mem_of_getElem? (i := 144) rfl)) rfl
theorem hS_X10_rule : Cond.selects RX10 yX10_rule yX10_rule ∈ lw_w := tw (tb_3 (List.mem_of_getElem? (i := 145) rfl)) rfl
theorem hC_X10_rule : Cond.code yX10_rule cX10_rule 2 (some .int) ∈ lw_w := tw (tb_3 (List.mem_of_getElem? (i := 146) rfl)) rfl
theorem hM_L_38 : Cond.methodLink RL 38 yX10_bell ∈ lw_w := tw (tb_3 (List.mem_of_getElem? (i := 147) rfl)) rfl
theorem hI_X10_bell : Cond.instanceMethod yX10_bell ∈ lw_w := tw (tb_3 (List.mem_of_getElem? (i := 148) rfl)) rfl
theorem hS_X10_bell : Cond.selects RX10 yX10_bell yX10_bell ∈ lw_w := tw (tb_3 (List.mem_of_getElem? (i := 149) rfl)) rfl
theorem hC_X10_bell : Cond.code yX10_bell cX10_bell 3 (some .int) ∈ lw_w := tw (tb_3 (List.mem_of_getElem? (i := 150) rfl)) rfl
theorem hM_X10_127 : Cond.methodLink RX10 127 yX1_hasBell ∈ lw_w := tw (tb_3 (List.mem_of_getElem? (i := 151) rfl)) rfl
theorem hM_L_43 : Cond.methodLink RL 43 yX10_tune ∈ lw_w := tw (tb_3 (List.mem_of_getElem? (i := 152) rfl)) rfl
theorem hI_X10_tune : Cond.instanceMethod yX10_tune ∈ lw_w := tw (tb_3 (List.mem_of_getElem? (i := 153) rfl)) rfl
theorem hS_X10_tune : Cond.selects RX10 yX10_tune yX10_tune ∈ lw_w := tw (tb_3 (List.mem_of_getElem? (i := 154) rfl)) rfl
theorem hC_X10_tune : Cond.code yX10_tune cX10_tune 3 (some .int) ∈ lw_w := tw (tb_3 (List.mem_of_getElem? (i := 155) rfl)) rfl
theorem hM_X10_147 : Cond.methodLink RX10 147 yX9_hasTune ∈ lw_w := tw (tb_3 (List.mem_of_getElem? (i := 156) rfl)) rfl
theorem hI_X9_hasTune : Cond.instanceMethod yX9_hasTune ∈ lw_w := tw (tb_3 (List.mem_of_getElem? (i := 157) rfl)) rfl
theorem hS_X9_hasTune : Cond.selects RX9 yX9_hasTune yX9_hasTune ∈ lw_w := tw (tb_3 (List.mem_of_getElem? (i := 158) rfl)) rfl
theorem hC_X9_hasTune : Cond.code yX9_hasTune cX9_hasTune 2 (some .boolean) ∈ lw_w := tw (tb_3 (List.mem_of_getElem? (i := 159) rfl)) rfl
theorem hM_X10_155 : Cond.methodLink RX10 155 yX9_asksStroke ∈ lw_w := tw (tb_3 (List.mem_of_getElem? (i := 160) rfl)) rfl
theorem hI_X9_asksStroke : Cond.instanceMethod yX9_asksStroke ∈ lw_w := tw (tb_3 (List.mem_of_getElem? (i := 161) rfl)) rfl
theorem hS_X9_asksStroke : Cond.selects RX9 yX9_asksStroke yX9_asksStroke ∈ lw_w := tw (tb_3 (List.mem_of_getElem? (i := 162) rfl)) rfl
theorem hC_X9_asksStroke : Cond.code yX9_asksStroke cX9_asksStroke 3 (some .boolean) ∈ lw_w := tw (tb_3 (List.mem_of_getElem? (i := 163) rfl)) rfl
theorem hM_L_47 : Cond.methodLink RL 47 yX10_feuds ∈ lw_w := tw (tb_3 (List.mem_of_getElem? (i := 164) rfl)) rfl
theorem hI_X10_feuds : Cond.instanceMethod yX10_feuds ∈ lw_w := tw (tb_3 (List.mem_of_getElem? (i := 165) rfl)) rfl
theorem hS_X10_feuds : Cond.selects RX10 yX10_feuds yX10_feuds ∈ lw_w := tw (tb_3 (List.mem_of_getElem? (i := 166) rfl)) rfl
theorem hC_X10_feuds : Cond.code yX10_feuds cX10_feuds 2 (some .int) ∈ lw_w := tw (tb_3 (List.mem_of_getElem? (i := 167) rfl)) rfl
theorem hM_X10_163 : Cond.methodLink RX10 163 yX9_hasHouse ∈ lw_w := tw (tb_3 (List.mem_of_getElem? (i := 168) rfl)) rfl
theorem hM_L_51 : Cond.methodLink RL 51 yX10_fee ∈ lw_w := tw (tb_3 (List.mem_of_getElem? (i := 169) rfl)) rfl
theorem hI_X10_fee : Cond.instanceMethod yX10_fee ∈ lw_w := tw (tb_3 (List.mem_of_getElem? (i := 170) rfl)) rfl
theorem hS_X10_fee : Cond.selects RX10 yX10_fee yX10_fee ∈ lw_w := tw (tb_3 (List.mem_of_getElem? (i := 171) rfl)) rfl
theorem hC_X10_fee : Cond.code yX10_fee cX10_fee 4 (some .int) ∈ lw_w := tw (tb_3 (List.mem_of_getElem? (i := 172) rfl)) rfl
theorem hM_X10_169 : Cond.methodLink RX10 169 yX10_isFee ∈ lw_w := tw (tb_3 (List.mem_of_getElem? (i := 173) rfl)) rfl
theorem hSt_X10_isFee : Cond.static yX10_isFee ∈ lw_w := tw (tb_3 (List.mem_of_getElem? (i := 174) rfl)) rfl
theorem hC_X10_isFee : Cond.code yX10_isFee cX10_isFee 1 (some .boolean) ∈ lw_w := tw (tb_3 (List.mem_of_getElem? (i := 175) rfl)) rfl
theorem hM_L_55 : Cond.methodLink RL 55 yX10_shut ∈ lw_w := tw (tb_3 (List.mem_of_getElem? (i := 176) rfl)) rfl
theorem hI_X10_shut : Cond.instanceMethod yX10_shut ∈ lw_w := tw (tb_3 (List.mem_of_getElem? (i := 177) rfl)) rfl
theorem hS_X10_shut : Cond.selects RX10 yX10_shut yX10_shut ∈ lw_w := tw (tb_3 (List.mem_of_getElem? (i := 178) rfl)) rfl
theorem hC_X10_shut : Cond.code yX10_shut cX10_shut 4 (some .int) ∈ lw_w := tw (tb_3 (List.mem_of_getElem? (i := 179) rfl)) rfl
theorem hM_L_60 : Cond.methodLink RL 60 yX10_sell ∈ lw_w := tw (tb_3 (List.mem_of_getElem? (i := 180) rfl)) rfl
theorem hI_X10_sell : Cond.instanceMethod yX10_sell ∈ lw_w := tw (tb_3 (List.mem_of_getElem? (i := 181) rfl)) rfl
theorem hS_X10_sell : Cond.selects RX10 yX10_sell yX10_sell ∈ lw_w := tw (tb_3 (List.mem_of_getElem? (i := 182) rfl)) rfl
theorem hC_X10_sell : Cond.code yX10_sell cX10_sell 4 (some .int) ∈ lw_w := tw (tb_3 (List.mem_of_getElem? (i := 183) rfl)) rfl
theorem hM_L_64 : Cond.methodLink RL 64 yX10_half ∈ lw_w := tw (tb_3 (List.mem_of_getElem? (i := 184) rfl)) rfl
theorem hI_X10_half : Cond.instanceMethod yX10_half ∈ lw_w := tw (tb_3 (List.mem_of_getElem? (i := 185) rfl)) rfl
theorem hS_X10_half : Cond.selects RX10 yX10_half yX10_half ∈ lw_w := tw (tb_3 (List.mem_of_getElem? (i := 186) rfl)) rfl
theorem hC_X10_half : Cond.code yX10_half cX10_half 4 (some .int) ∈ lw_w := tw (tb_3 (List.mem_of_getElem? (i := 187) rfl)) rfl
theorem hM_L_68 : Cond.methodLink RL 68 yX10_feud ∈ lw_w := tw (tb_3 (List.mem_of_getElem? (i := 188) rfl)) rfl
theorem hI_X10_feud : Cond.instanceMethod yX10_feud ∈ lw_w := tw (tb_3 (List.mem_of_getElem? (i := 189) rfl)) rfl
theorem hS_X10_feud : Cond.selects RX10 yX10_feud yX10_feud ∈ lw_w := tw (tb_3 (List.mem_of_getElem? (i := 190) rfl)) rfl
theorem hC_X10_feud : Cond.code yX10_feud cX10_feud 5 (some .int) ∈ lw_w := tw (tb_3 (List.mem_of_getElem? (i := 191) rfl)) rfl
theorem hM_X10_172 : Cond.methodLink RX10 172 yX1_areFoes ∈ lw_w := tw (tb_3 (List.mem_of_getElem? (i := 192) rfl)) rfl
theorem hI_X1_areFoes : Cond.instanceMethod yX1_areFoes ∈ lw_w := tw (tb_3 (List.mem_of_getElem? (i := 193) rfl)) rfl
theorem hS_X1_areFoes : Cond.selects RX1 yX1_areFoes yX1_areFoes ∈ lw_w := tw (tb_3 (List.mem_of_getElem? (i := 194) rfl)) rfl
theorem hC_X1_areFoes : Cond.code yX1_areFoes cX1_areFoes 3 (some .boolean) ∈ lw_w := tw (tb_3 (List.mem_of_getElem? (i := 195) rfl)) rfl
theorem hM_X10_175 : Cond.methodLink RX10 175 yX1_setFoes ∈ lw_w := tw (tb_3 (List.mem_of_getElem? (i := 196) rfl)) rfl
theorem hM_L_73 : Cond.methodLink RL 73 yX10_feuding ∈ lw_w := tw (tb_3 (List.mem_of_getElem? (i := 197) rfl)) rfl
theorem hI_X10_feuding : Cond.instanceMethod yX10_feuding ∈ lw_w := tw (tb_3 (List.mem_of_getElem? (i := 198) rfl)) rfl
theorem hS_X10_feuding : Cond.selects RX10 yX10_feuding yX10_feuding ∈ lw_w := tw (tb_3 (List.mem_of_getElem? (i := 199) rfl)) rfl
theorem hC_X10_feuding : Cond.code yX10_feuding cX10_feuding 7 (some .int) ∈ lw_w := tw (tb_3 (List.mem_of_getElem? (i := 200) rfl)) rfl
theorem hK_X10_179 : Cond.constant RX10 179 (1103515245) ∈ lw_w := tw (tb_3 (List.mem_of_getElem? (i := 201) rfl)) rfl
theorem hM_L_77 : Cond.methodLink RL 77 yX10_ring ∈ lw_w := tw (tb_3 (List.mem_of_getElem? (i := 202) rfl)) rfl
theorem hI_X10_ring : Cond.instanceMethod yX10_ring ∈ lw_w := tw (tb_3 (List.mem_of_getElem? (i := 203) rfl)) rfl
theorem hS_X10_ring : Cond.selects RX10 yX10_ring yX10_ring ∈ lw_w := tw (tb_3 (List.mem_of_getElem? (i := 204) rfl)) rfl
theorem hC_X10_ring : Cond.code yX10_ring cX10_ring 3 (some .int) ∈ lw_w := tw (tb_3 (List.mem_of_getElem? (i := 205) rfl)) rfl
theorem hM_X10_180 : Cond.methodLink RX10 180 yX6_play ∈ lw_w := tw (tb_3 (List.mem_of_getElem? (i := 206) rfl)) rfl
theorem hI_X6_play : Cond.instanceMethod yX6_play ∈ lw_w := tw (tb_3 (List.mem_of_getElem? (i := 207) rfl)) rfl
theorem hS_X6_play : Cond.selects RX6 yX6_play yX6_play ∈ lw_w := tw (tb_3 (List.mem_of_getElem? (i := 208) rfl)) rfl
theorem hC_X6_play : Cond.code yX6_play cX6_play 7 none ∈ lw_w := tw (tb_3 (List.mem_of_getElem? (i := 209) rfl)) rfl
theorem hM_L_81 : Cond.methodLink RL 81 yX10_taken ∈ lw_w := tw (tb_3 (List.mem_of_getElem? (i := 210) rfl)) rfl
theorem hI_X10_taken : Cond.instanceMethod yX10_taken ∈ lw_w := tw (tb_3 (List.mem_of_getElem? (i := 211) rfl)) rfl
theorem hS_X10_taken : Cond.selects RX10 yX10_taken yX10_taken ∈ lw_w := tw (tb_3 (List.mem_of_getElem? (i := 212) rfl)) rfl
theorem hC_X10_taken : Cond.code yX10_taken cX10_taken 1 (some .int) ∈ lw_w := tw (tb_3 (List.mem_of_getElem? (i := 213) rfl)) rfl
theorem hM_X10_196 : Cond.methodLink RX10 196 yX6_tuneTaken ∈ lw_w := tw (tb_3 (List.mem_of_getElem? (i := 214) rfl)) rfl
theorem hI_X6_tuneTaken : Cond.instanceMethod yX6_tuneTaken ∈ lw_w := tw (tb_3 (List.mem_of_getElem? (i := 215) rfl)) rfl
theorem hS_X6_tuneTaken : Cond.selects RX6 yX6_tuneTaken yX6_tuneTaken ∈ lw_w := tw (tb_3 (List.mem_of_getElem? (i := 216) rfl)) rfl
theorem hC_X6_tuneTaken : Cond.code yX6_tuneTaken cX6_tuneTaken 4 (some .int) ∈ lw_w := tw (tb_3 (List.mem_of_getElem? (i := 217) rfl)) rfl
theorem hM_X6_69 : Cond.methodLink RX6 69 yX6_play ∈ lw_w := tw (tb_3 (List.mem_of_getElem? (i := 218) rfl)) rfl
theorem hM_L_85 : Cond.methodLink RL 85 yX10_gets ∈ lw_w := tw (tb_3 (List.mem_of_getElem? (i := 219) rfl)) rfl
theorem hI_X10_gets : Cond.instanceMethod yX10_gets ∈ lw_w := tw (tb_3 (List.mem_of_getElem? (i := 220) rfl)) rfl
theorem hS_X10_gets : Cond.selects RX10 yX10_gets yX10_gets ∈ lw_w := tw (tb_3 (List.mem_of_getElem? (i := 221) rfl)) rfl
theorem hC_X10_gets : Cond.code yX10_gets cX10_gets 3 (some .int) ∈ lw_w := tw (tb_3 (List.mem_of_getElem? (i := 222) rfl)) rfl
theorem hM_X10_200 : Cond.methodLink RX10 200 yX6_shareOf ∈ lw_w := tw (tb_3 (List.mem_of_getElem? (i := 223) rfl)) rfl
theorem hI_X6_shareOf : Cond.instanceMethod yX6_shareOf ∈ lw_w := tw (tb_3 (List.mem_of_getElem? (i := 224) rfl)) rfl
theorem hS_X6_shareOf : Cond.selects RX6 yX6_shareOf yX6_shareOf ∈ lw_w := tw (tb_3 (List.mem_of_getElem? (i := 225) rfl)) rfl
theorem hC_X6_shareOf : Cond.code yX6_shareOf cX6_shareOf 5 (some .int) ∈ lw_w := tw (tb_3 (List.mem_of_getElem? (i := 226) rfl)) rfl
theorem hM_X6_73 : Cond.methodLink RX6 73 yX6_rang ∈ lw_w := tw (tb_3 (List.mem_of_getElem? (i := 227) rfl)) rfl
theorem hI_X6_rang : Cond.instanceMethod yX6_rang ∈ lw_w := tw (tb_3 (List.mem_of_getElem? (i := 228) rfl)) rfl
theorem hS_X6_rang : Cond.selects RX6 yX6_rang yX6_rang ∈ lw_w := tw (tb_3 (List.mem_of_getElem? (i := 229) rfl)) rfl
theorem hC_X6_rang : Cond.code yX6_rang cX6_rang 2 (some .boolean) ∈ lw_w := tw (tb_3 (List.mem_of_getElem? (i := 230) rfl)) rfl
theorem hM_X6_77 : Cond.methodLink RX6 77 yX1_shareOf ∈ lw_w := tw (tb_3 (List.mem_of_getElem? (i := 231) rfl)) rfl
theorem hI_X1_shareOf : Cond.instanceMethod yX1_shareOf ∈ lw_w := tw (tb_3 (List.mem_of_getElem? (i := 232) rfl)) rfl
theorem hS_X1_shareOf : Cond.selects RX1 yX1_shareOf yX1_shareOf ∈ lw_w := tw (tb_3 (List.mem_of_getElem? (i := 233) rfl)) rfl
theorem hC_X1_shareOf : Cond.code yX1_shareOf cX1_shareOf 3 (some .int) ∈ lw_w := tw (tb_3 (List.mem_of_getElem? (i := 234) rfl)) rfl
theorem hM_X1_58 : Cond.methodLink RX1 58 yX1_partsOf ∈ lw_w := tw (tb_3 (List.mem_of_getElem? (i := 235) rfl)) rfl
theorem hI_X1_partsOf : Cond.instanceMethod yX1_partsOf ∈ lw_w := tw (tb_3 (List.mem_of_getElem? (i := 236) rfl)) rfl
theorem hS_X1_partsOf : Cond.selects RX1 yX1_partsOf yX1_partsOf ∈ lw_w := tw (tb_3 (List.mem_of_getElem? (i := 237) rfl)) rfl
theorem hC_X1_partsOf : Cond.code yX1_partsOf cX1_partsOf 3 (some .int) ∈ lw_w := tw (tb_3 (List.mem_of_getElem? (i := 238) rfl)) rfl
theorem hM_L_89 : Cond.methodLink RL 89 yX10_wage ∈ lw_w := tw (tb_3 (List.mem_of_getElem? (i := 239) rfl)) rfl
theorem hI_X10_wage : Cond.instanceMethod yX10_wage ∈ lw_w := tw (tb_4 (List.mem_of_getElem? (i := 0) rfl)) rfl
theorem hS_X10_wage : Cond.selects RX10 yX10_wage yX10_wage ∈ lw_w := tw (tb_4 (List.mem_of_getElem? (i := 1) rfl)) rfl
theorem hC_X10_wage : Cond.code yX10_wage cX10_wage 2 (some .int) ∈ lw_w := tw (tb_4 (List.mem_of_getElem? (i := 2) rfl)) rfl
theorem hM_X10_204 : Cond.methodLink RX10 204 yX6_wageOf ∈ lw_w := tw (tb_4 (List.mem_of_getElem? (i := 3) rfl)) rfl
theorem hI_X6_wageOf : Cond.instanceMethod yX6_wageOf ∈ lw_w := tw (tb_4 (List.mem_of_getElem? (i := 4) rfl)) rfl
theorem hS_X6_wageOf : Cond.selects RX6 yX6_wageOf yX6_wageOf ∈ lw_w := tw (tb_4 (List.mem_of_getElem? (i := 5) rfl)) rfl
theorem hC_X6_wageOf : Cond.code yX6_wageOf cX6_wageOf 3 (some .int) ∈ lw_w := tw (tb_4 (List.mem_of_getElem? (i := 6) rfl)) rfl
theorem hM_X6_81 : Cond.methodLink RX6 81 yX6_tuneTaken ∈ lw_w := tw (tb_4 (List.mem_of_getElem? (i := 7) rfl)) rfl
theorem hM_X6_85 : Cond.methodLink RX6 85 yX6_shareOf ∈ lw_w := tw (tb_4 (List.mem_of_getElem? (i := 8) rfl)) rfl
theorem hM_L_93 : Cond.methodLink RL 93 yX10_ask ∈ lw_w := tw (tb_4 (List.mem_of_getElem? (i := 9) rfl)) rfl
theorem hI_X10_ask : Cond.instanceMethod yX10_ask ∈ lw_w := tw (tb_4 (List.mem_of_getElem? (i := 10) rfl)) rfl
theorem hS_X10_ask : Cond.selects RX10 yX10_ask yX10_ask ∈ lw_w := tw (tb_4 (List.mem_of_getElem? (i := 11) rfl)) rfl
theorem hC_X10_ask : Cond.code yX10_ask cX10_ask 3 (some .int) ∈ lw_w := tw (tb_4 (List.mem_of_getElem? (i := 12) rfl)) rfl
theorem hM_X10_208 : Cond.methodLink RX10 208 yX0_weigh ∈ lw_w := tw (tb_4 (List.mem_of_getElem? (i := 13) rfl)) rfl
theorem hI_X0_weigh : Cond.instanceMethod yX0_weigh ∈ lw_w := tw (tb_4 (List.mem_of_getElem? (i := 14) rfl)) rfl
theorem hS_X0_weigh : Cond.selects RX0 yX0_weigh yX0_weigh ∈ lw_w := tw (tb_4 (List.mem_of_getElem? (i := 15) rfl)) rfl
theorem hC_X0_weigh : Cond.code yX0_weigh cX0_weigh 3 none ∈ lw_w := tw (tb_4 (List.mem_of_getElem? (i := 16) rfl)) rfl
theorem hM_X0_43 : Cond.methodLink RX0 43 yX0_weighTune ∈ lw_w := tw (tb_4 (List.mem_of_getElem? (i := 17) rfl)) rfl
theorem hI_X0_weighTune : Cond.instanceMethod yX0_weighTune ∈ lw_w := tw (tb_4 (List.mem_of_getElem? (i := 19) rfl)) rfl
theorem hC_X0_weighTune : Cond.code yX0_weighTune cX0_weighTune 6 none ∈ lw_w := tw (tb_4 (List.mem_of_getElem? (i := 20) rfl)) rfl
theorem hM_X0_47 : Cond.methodLink RX0 47 yX6_play ∈ lw_w := tw (tb_4 (List.mem_of_getElem? (i := 21) rfl)) rfl
theorem hM_X0_59 : Cond.methodLink RX0 59 yX6_rang ∈ lw_w := tw (tb_4 (List.mem_of_getElem? (i := 22) rfl)) rfl
theorem hM_X0_67 : Cond.methodLink RX0 67 yX1_partsOf ∈ lw_w := tw (tb_4 (List.mem_of_getElem? (i := 23) rfl)) rfl
theorem hM_X10_211 : Cond.methodLink RX10 211 yX0_bringsAt ∈ lw_w := tw (tb_4 (List.mem_of_getElem? (i := 24) rfl)) rfl
theorem hI_X0_bringsAt : Cond.instanceMethod yX0_bringsAt ∈ lw_w := tw (tb_4 (List.mem_of_getElem? (i := 25) rfl)) rfl
theorem hS_X0_bringsAt : Cond.selects RX0 yX0_bringsAt yX0_bringsAt ∈ lw_w := tw (tb_4 (List.mem_of_getElem? (i := 26) rfl)) rfl
theorem hC_X0_bringsAt : Cond.code yX0_bringsAt cX0_bringsAt 6 (some .int) ∈ lw_w := tw (tb_4 (List.mem_of_getElem? (i := 27) rfl)) rfl
theorem hM_L_97 : Cond.methodLink RL 97 yX10_best ∈ lw_w := tw (tb_4 (List.mem_of_getElem? (i := 28) rfl)) rfl
theorem hI_X10_best : Cond.instanceMethod yX10_best ∈ lw_w := tw (tb_4 (List.mem_of_getElem? (i := 29) rfl)) rfl
theorem hS_X10_best : Cond.selects RX10 yX10_best yX10_best ∈ lw_w := tw (tb_4 (List.mem_of_getElem? (i := 30) rfl)) rfl
theorem hC_X10_best : Cond.code yX10_best cX10_best 3 (some .int) ∈ lw_w := tw (tb_4 (List.mem_of_getElem? (i := 31) rfl)) rfl
theorem hM_X10_214 : Cond.methodLink RX10 214 yX0_choose ∈ lw_w := tw (tb_4 (List.mem_of_getElem? (i := 32) rfl)) rfl
theorem hI_X0_choose : Cond.instanceMethod yX0_choose ∈ lw_w := tw (tb_4 (List.mem_of_getElem? (i := 33) rfl)) rfl
theorem hS_X0_choose : Cond.selects RX0 yX0_choose yX0_choose ∈ lw_w := tw (tb_4 (List.mem_of_getElem? (i := 34) rfl)) rfl
theorem hC_X0_choose : Cond.code yX0_choose cX0_choose 4 none ∈ lw_w := tw (tb_4 (List.mem_of_getElem? (i := 35) rfl)) rfl
theorem hM_X0_79 : Cond.methodLink RX0 79 yX0_weigh ∈ lw_w := tw (tb_4 (List.mem_of_getElem? (i := 36) rfl)) rfl
theorem hM_X0_85 : Cond.methodLink RX0 85 yX0_bringsAt ∈ lw_w := tw (tb_4 (List.mem_of_getElem? (i := 37) rfl)) rfl
theorem hM_L_101 : Cond.methodLink RL 101 yX10_settle ∈ lw_w := tw (tb_4 (List.mem_of_getElem? (i := 38) rfl)) rfl
theorem hI_X10_settle : Cond.instanceMethod yX10_settle ∈ lw_w := tw (tb_4 (List.mem_of_getElem? (i := 39) rfl)) rfl
theorem hS_X10_settle : Cond.selects RX10 yX10_settle yX10_settle ∈ lw_w := tw (tb_4 (List.mem_of_getElem? (i := 40) rfl)) rfl
theorem hC_X10_settle : Cond.code yX10_settle cX10_settle 3 (some .int) ∈ lw_w := tw (tb_4 (List.mem_of_getElem? (i := 41) rfl)) rfl
theorem hM_X10_223 : Cond.methodLink RX10 223 yX0_changeInRound ∈ lw_w := tw (tb_4 (List.mem_of_getElem? (i := 42) rfl)) rfl
theorem hI_X0_changeInRound : Cond.instanceMethod yX0_changeInRound ∈ lw_w := tw (tb_4 (List.mem_of_getElem? (i := 43) rfl)) rfl
theorem hS_X0_changeInRound : Cond.selects RX0 yX0_changeInRound yX0_changeInRound ∈ lw_w := tw (tb_4 (List.mem_of_getElem? (i := 44) rfl)) rfl
theorem hC_X0_changeInRound : Cond.code yX0_changeInRound cX0_changeInRound 3 (some .boolean) ∈ lw_w := tw (tb_4 (List.mem_of_getElem? (i := 45) rfl)) rfl
theorem hM_X0_101 : Cond.methodLink RX0 101 yX0_wantsOther ∈ lw_w := tw (tb_4 (List.mem_of_getElem? (i := 46) rfl)) rfl
theorem hI_X0_wantsOther : Cond.instanceMethod yX0_wantsOther ∈ lw_w := tw (tb_4 (List.mem_of_getElem? (i := 47) rfl)) rfl
theorem hS_X0_wantsOther : Cond.selects RX0 yX0_wantsOther yX0_wantsOther ∈ lw_w := tw (tb_4 (List.mem_of_getElem? (i := 48) rfl)) rfl
theorem hC_X0_wantsOther : Cond.code yX0_wantsOther cX0_wantsOther 2 (some .boolean) ∈ lw_w := tw (tb_4 (List.mem_of_getElem? (i := 49) rfl)) rfl
theorem hM_X0_92 : Cond.methodLink RX0 92 yX0_choose ∈ lw_w := tw (tb_4 (List.mem_of_getElem? (i := 50) rfl)) rfl
theorem hM_X0_95 : Cond.methodLink RX0 95 yX6_wageOf ∈ lw_w := tw (tb_4 (List.mem_of_getElem? (i := 51) rfl)) rfl
theorem hM_X0_104 : Cond.methodLink RX0 104 yX0_setFees ∈ lw_w := tw (tb_4 (List.mem_of_getElem? (i := 52) rfl)) rfl
theorem hI_X0_setFees : Cond.instanceMethod yX0_setFees ∈ lw_w := tw (tb_4 (List.mem_of_getElem? (i := 54) rfl)) rfl
theorem hC_X0_setFees : Cond.code yX0_setFees cX0_setFees 4 none ∈ lw_w := tw (tb_4 (List.mem_of_getElem? (i := 55) rfl)) rfl
theorem hM_L_105 : Cond.methodLink RL 105 yX10_settled ∈ lw_w := tw (tb_4 (List.mem_of_getElem? (i := 56) rfl)) rfl
theorem hI_X10_settled : Cond.instanceMethod yX10_settled ∈ lw_w := tw (tb_4 (List.mem_of_getElem? (i := 57) rfl)) rfl
theorem hS_X10_settled : Cond.selects RX10 yX10_settled yX10_settled ∈ lw_w := tw (tb_4 (List.mem_of_getElem? (i := 58) rfl)) rfl
theorem hC_X10_settled : Cond.code yX10_settled cX10_settled 2 (some .int) ∈ lw_w := tw (tb_4 (List.mem_of_getElem? (i := 59) rfl)) rfl
theorem hM_X10_226 : Cond.methodLink RX10 226 yX0_wantsOther ∈ lw_w := tw (tb_4 (List.mem_of_getElem? (i := 60) rfl)) rfl
theorem hM_L_109 : Cond.methodLink RL 109 yX10_feast ∈ lw_w := tw (tb_4 (List.mem_of_getElem? (i := 61) rfl)) rfl
theorem hI_X10_feast : Cond.instanceMethod yX10_feast ∈ lw_w := tw (tb_4 (List.mem_of_getElem? (i := 62) rfl)) rfl
theorem hS_X10_feast : Cond.selects RX10 yX10_feast yX10_feast ∈ lw_w := tw (tb_4 (List.mem_of_getElem? (i := 63) rfl)) rfl
theorem hC_X10_feast : Cond.code yX10_feast cX10_feast 3 (some .int) ∈ lw_w := tw (tb_4 (List.mem_of_getElem? (i := 64) rfl)) rfl
theorem hM_X10_229 : Cond.methodLink RX10 229 yX10_fair ∈ lw_w := tw (tb_4 (List.mem_of_getElem? (i := 65) rfl)) rfl
theorem hI_X10_fair : Cond.instanceMethod yX10_fair ∈ lw_w := tw (tb_4 (List.mem_of_getElem? (i := 66) rfl)) rfl
theorem hS_X10_fair : Cond.selects RX10 yX10_fair yX10_fair ∈ lw_w := tw (tb_4 (List.mem_of_getElem? (i := 67) rfl)) rfl
theorem hC_X10_fair : Cond.code yX10_fair cX10_fair 4 (some .int) ∈ lw_w := tw (tb_4 (List.mem_of_getElem? (i := 68) rfl)) rfl
theorem hM_X10_233 : Cond.methodLink RX10 233 yX2_choose ∈ lw_w := tw (tb_4 (List.mem_of_getElem? (i := 69) rfl)) rfl
theorem hI_X2_choose : Cond.instanceMethod yX2_choose ∈ lw_w := tw (tb_4 (List.mem_of_getElem? (i := 70) rfl)) rfl
theorem hS_X2_choose : Cond.selects RX2 yX2_choose yX2_choose ∈ lw_w := tw (tb_4 (List.mem_of_getElem? (i := 71) rfl)) rfl
theorem hC_X2_choose : Cond.code yX2_choose cX2_choose 5 none ∈ lw_w := tw (tb_4 (List.mem_of_getElem? (i := 72) rfl)) rfl
theorem hM_X2_72 : Cond.methodLink RX2 72 yX2_ringAll ∈ lw_w := tw (tb_4 (List.mem_of_getElem? (i := 73) rfl)) rfl
theorem hI_X2_ringAll : Cond.instanceMethod yX2_ringAll ∈ lw_w := tw (tb_4 (List.mem_of_getElem? (i := 74) rfl)) rfl
theorem hS_X2_ringAll : Cond.selects RX2 yX2_ringAll yX2_ringAll ∈ lw_w := tw (tb_4 (List.mem_of_getElem? (i := 75) rfl)) rfl
theorem hC_X2_ringAll : Cond.code yX2_ringAll cX2_ringAll 3 none ∈ lw_w := tw (tb_4 (List.mem_of_getElem? (i := 76) rfl)) rfl
theorem hM_X2_34 : Cond.methodLink RX2 34 yX6_play ∈ lw_w := tw (tb_4 (List.mem_of_getElem? (i := 77) rfl)) rfl
theorem hM_X2_43 : Cond.methodLink RX2 43 yJ7_fill_53178 ∈ lw_w := tw (tb_4 (List.mem_of_getElem? (i := 78) rfl)) rfl
theorem hM_X2_52 : Cond.methodLink RX2 52 yX6_rang ∈ lw_w := tw (tb_4 (List.mem_of_getElem? (i := 79) rfl)) rfl
theorem hM_X2_76 : Cond.methodLink RX2 76 yJ6_bitCount_0f7a4 ∈ lw_w := tw (tb_4 (List.mem_of_getElem? (i := 80) rfl)) rfl
theorem hSt_J6_bitCount_0f7a4 : Cond.static yJ6_bitCount_0f7a4 ∈ lw_w := tw (tb_4 (List.mem_of_getElem? (i := 81) rfl)) rfl
theorem hC_J6_bitCount_0f7a4 : Cond.code yJ6_bitCount_0f7a4 cJ6_bitCount_0f7a4 1 (some .int) ∈ lw_w := tw (tb_4 (List.mem_of_getElem? (i := 82) rfl)) rfl
theorem hK_J6_265 : Cond.constant RJ6 265 (1431655765) ∈ lw_w := tw (tb_4 (List.mem_of_getElem? (i := 83) rfl)) rfl
theorem hK_J6_266 : Cond.constant RJ6 266 (858993459) ∈ lw_w := tw (tb_4 (List.mem_of_getElem? (i := 84) rfl)) rfl
theorem hK_J6_267 : Cond.constant RJ6 267 (252645135) ∈ lw_w := tw (tb_4 (List.mem_of_getElem? (i := 85) rfl)) rfl
theorem hM_X2_82 : Cond.methodLink RX2 82 yX2_isWithin ∈ lw_w := tw (tb_4 (List.mem_of_getElem? (i := 86) rfl)) rfl
theorem hI_X2_isWithin : Cond.instanceMethod yX2_isWithin ∈ lw_w := tw (tb_4 (List.mem_of_getElem? (i := 88) rfl)) rfl
theorem hC_X2_isWithin : Cond.code yX2_isWithin cX2_isWithin 4 (some .boolean) ∈ lw_w := tw (tb_4 (List.mem_of_getElem? (i := 89) rfl)) rfl
theorem hM_X2_68 : Cond.methodLink RX2 68 yX2_strokesIn ∈ lw_w := tw (tb_4 (List.mem_of_getElem? (i := 90) rfl)) rfl
theorem hI_X2_strokesIn : Cond.instanceMethod yX2_strokesIn ∈ lw_w := tw (tb_4 (List.mem_of_getElem? (i := 92) rfl)) rfl
theorem hC_X2_strokesIn : Cond.code yX2_strokesIn cX2_strokesIn 5 (some .int) ∈ lw_w := tw (tb_4 (List.mem_of_getElem? (i := 93) rfl)) rfl
theorem hM_X2_86 : Cond.methodLink RX2 86 yX2_costOf ∈ lw_w := tw (tb_4 (List.mem_of_getElem? (i := 94) rfl)) rfl
theorem hI_X2_costOf : Cond.instanceMethod yX2_costOf ∈ lw_w := tw (tb_4 (List.mem_of_getElem? (i := 96) rfl)) rfl
theorem hC_X2_costOf : Cond.code yX2_costOf cX2_costOf 4 (some .int) ∈ lw_w := tw (tb_4 (List.mem_of_getElem? (i := 97) rfl)) rfl
theorem hM_L_113 : Cond.methodLink RL 113 yX10_fair ∈ lw_w := tw (tb_4 (List.mem_of_getElem? (i := 98) rfl)) rfl
theorem hM_L_118 : Cond.methodLink RL 118 yX10_nearest ∈ lw_w := tw (tb_4 (List.mem_of_getElem? (i := 99) rfl)) rfl
theorem hI_X10_nearest : Cond.instanceMethod yX10_nearest ∈ lw_w := tw (tb_4 (List.mem_of_getElem? (i := 100) rfl)) rfl
theorem hS_X10_nearest : Cond.selects RX10 yX10_nearest yX10_nearest ∈ lw_w := tw (tb_4 (List.mem_of_getElem? (i := 101) rfl)) rfl
theorem hC_X10_nearest : Cond.code yX10_nearest cX10_nearest 4 (some .int) ∈ lw_w := tw (tb_4 (List.mem_of_getElem? (i := 102) rfl)) rfl
theorem hM_X10_240 : Cond.methodLink RX10 240 yX4_find ∈ lw_w := tw (tb_4 (List.mem_of_getElem? (i := 103) rfl)) rfl
theorem hI_X4_find : Cond.instanceMethod yX4_find ∈ lw_w := tw (tb_4 (List.mem_of_getElem? (i := 104) rfl)) rfl
theorem hS_X4_find : Cond.selects RX4 yX4_find yX4_find ∈ lw_w := tw (tb_4 (List.mem_of_getElem? (i := 105) rfl)) rfl
theorem hC_X4_find : Cond.code yX4_find cX4_find 6 none ∈ lw_w := tw (tb_4 (List.mem_of_getElem? (i := 106) rfl)) rfl
theorem hM_X4_40 : Cond.methodLink RX4 40 yX4_farFrom ∈ lw_w := tw (tb_4 (List.mem_of_getElem? (i := 107) rfl)) rfl
theorem hI_X4_farFrom : Cond.instanceMethod yX4_farFrom ∈ lw_w := tw (tb_4 (List.mem_of_getElem? (i := 109) rfl)) rfl
theorem hC_X4_farFrom : Cond.code yX4_farFrom cX4_farFrom 7 (some .int) ∈ lw_w := tw (tb_4 (List.mem_of_getElem? (i := 110) rfl)) rfl
theorem hK_X4_48 : Cond.constant RX4 48 (1000000) ∈ lw_w := tw (tb_4 (List.mem_of_getElem? (i := 111) rfl)) rfl
theorem hM_X4_58 : Cond.methodLink RX4 58 yJ9_abs_0f7a4 ∈ lw_w := tw (tb_4 (List.mem_of_getElem? (i := 112) rfl)) rfl
theorem hSt_J9_abs_0f7a4 : Cond.static yJ9_abs_0f7a4 ∈ lw_w := tw (tb_4 (List.mem_of_getElem? (i := 113) rfl)) rfl
theorem hC_J9_abs_0f7a4 : Cond.code yJ9_abs_0f7a4 cJ9_abs_0f7a4 1 (some .int) ∈ lw_w := tw (tb_4 (List.mem_of_getElem? (i := 114) rfl)) rfl
theorem hM_X4_44 : Cond.methodLink RX4 44 yX4_leastBehind ∈ lw_w := tw (tb_4 (List.mem_of_getElem? (i := 115) rfl)) rfl
theorem hI_X4_leastBehind : Cond.instanceMethod yX4_leastBehind ∈ lw_w := tw (tb_4 (List.mem_of_getElem? (i := 117) rfl)) rfl
theorem hC_X4_leastBehind : Cond.code yX4_leastBehind cX4_leastBehind 6 (some .int) ∈ lw_w := tw (tb_4 (List.mem_of_getElem? (i := 118) rfl)) rfl
theorem hM_X4_67 : Cond.methodLink RX4 67 yX1_areFoes ∈ lw_w := tw (tb_4 (List.mem_of_getElem? (i := 119) rfl)) rfl
theorem hK_X10_246 : Cond.constant RX10 246 (1000000) ∈ lw_w := tw (tb_4 (List.mem_of_getElem? (i := 120) rfl)) rfl
theorem hM_L_122 : Cond.methodLink RL 122 yX10_dear ∈ lw_w := tw (tb_4 (List.mem_of_getElem? (i := 121) rfl)) rfl
theorem hI_X10_dear : Cond.instanceMethod yX10_dear ∈ lw_w := tw (tb_4 (List.mem_of_getElem? (i := 122) rfl)) rfl
theorem hS_X10_dear : Cond.selects RX10 yX10_dear yX10_dear ∈ lw_w := tw (tb_4 (List.mem_of_getElem? (i := 123) rfl)) rfl
theorem hC_X10_dear : Cond.code yX10_dear cX10_dear 5 (some .int) ∈ lw_w := tw (tb_4 (List.mem_of_getElem? (i := 124) rfl)) rfl
theorem hM_L_126 : Cond.methodLink RL 126 yX10_storm ∈ lw_w := tw (tb_4 (List.mem_of_getElem? (i := 125) rfl)) rfl
theorem hI_X10_storm : Cond.instanceMethod yX10_storm ∈ lw_w := tw (tb_4 (List.mem_of_getElem? (i := 126) rfl)) rfl
theorem hS_X10_storm : Cond.selects RX10 yX10_storm yX10_storm ∈ lw_w := tw (tb_4 (List.mem_of_getElem? (i := 127) rfl)) rfl
theorem hC_X10_storm : Cond.code yX10_storm cX10_storm 7 (some .int) ∈ lw_w := tw (tb_4 (List.mem_of_getElem? (i := 128) rfl)) rfl
theorem hM_X10_253 : Cond.methodLink RX10 253 yX1_shareOf ∈ lw_w := tw (tb_4 (List.mem_of_getElem? (i := 129) rfl)) rfl
theorem hK_X10_254 : Cond.constant RX10 254 (100000) ∈ lw_w := tw (tb_4 (List.mem_of_getElem? (i := 130) rfl)) rfl
theorem hM_L_130 : Cond.methodLink RL 130 yX10_wine ∈ lw_w := tw (tb_4 (List.mem_of_getElem? (i := 131) rfl)) rfl
theorem hI_X10_wine : Cond.instanceMethod yX10_wine ∈ lw_w := tw (tb_4 (List.mem_of_getElem? (i := 132) rfl)) rfl
theorem hS_X10_wine : Cond.selects RX10 yX10_wine yX10_wine ∈ lw_w := tw (tb_4 (List.mem_of_getElem? (i := 133) rfl)) rfl
theorem hC_X10_wine : Cond.code yX10_wine cX10_wine 5 (some .int) ∈ lw_w := tw (tb_4 (List.mem_of_getElem? (i := 134) rfl)) rfl
theorem hM_X10_255 : Cond.methodLink RX10 255 yX2_ringAll ∈ lw_w := tw (tb_4 (List.mem_of_getElem? (i := 135) rfl)) rfl
theorem hM_X10_258 : Cond.methodLink RX10 258 yX2_strokesOf ∈ lw_w := tw (tb_4 (List.mem_of_getElem? (i := 136) rfl)) rfl
theorem hI_X2_strokesOf : Cond.instanceMethod yX2_strokesOf ∈ lw_w := tw (tb_4 (List.mem_of_getElem? (i := 137) rfl)) rfl
theorem hS_X2_strokesOf : Cond.selects RX2 yX2_strokesOf yX2_strokesOf ∈ lw_w := tw (tb_4 (List.mem_of_getElem? (i := 138) rfl)) rfl
theorem hC_X2_strokesOf : Cond.code yX2_strokesOf cX2_strokesOf 2 (some .int) ∈ lw_w := tw (tb_4 (List.mem_of_getElem? (i := 139) rfl)) rfl
theorem hM_X10_261 : Cond.methodLink RX10 261 yX10_pour ∈ lw_w := tw (tb_4 (List.mem_of_getElem? (i := 140) rfl)) rfl
theorem hI_X10_pour : Cond.instanceMethod yX10_pour ∈ lw_w := tw (tb_4 (List.mem_of_getElem? (i := 142) rfl)) rfl
theorem hC_X10_pour : Cond.code yX10_pour cX10_pour 11 (some .int) ∈ lw_w := tw (tb_4 (List.mem_of_getElem? (i := 143) rfl)) rfl
theorem hM_L_134 : Cond.methodLink RL 134 yX10_hear ∈ lw_w := tw (tb_4 (List.mem_of_getElem? (i := 144) rfl)) rfl
theorem hI_X10_hear : Cond.instanceMethod yX10_hear ∈ lw_w := tw (tb_4 (List.mem_of_getElem? (i := 145) rfl)) rfl
theorem hS_X10_hear : Cond.selects RX10 yX10_hear yX10_hear ∈ lw_w := tw (tb_4 (List.mem_of_getElem? (i := 146) rfl)) rfl
theorem hC_X10_hear : Cond.code yX10_hear cX10_hear 2 (some .int) ∈ lw_w := tw (tb_4 (List.mem_of_getElem? (i := 147) rfl)) rfl
theorem hM_X10_264 : Cond.methodLink RX10 264 yX1_canBeHeard ∈ lw_w := tw (tb_4 (List.mem_of_getElem? (i := 148) rfl)) rfl
theorem hI_X1_canBeHeard : Cond.instanceMethod yX1_canBeHeard ∈ lw_w := tw (tb_4 (List.mem_of_getElem? (i := 149) rfl)) rfl
theorem hS_X1_canBeHeard : Cond.selects RX1 yX1_canBeHeard yX1_canBeHeard ∈ lw_w := tw (tb_4 (List.mem_of_getElem? (i := 150) rfl)) rfl
theorem hC_X1_canBeHeard : Cond.code yX1_canBeHeard cX1_canBeHeard 2 (some .boolean) ∈ lw_w := tw (tb_4 (List.mem_of_getElem? (i := 151) rfl)) rfl
theorem hM_X1_62 : Cond.methodLink RX1 62 yX1_hasBell ∈ lw_w := tw (tb_4 (List.mem_of_getElem? (i := 152) rfl)) rfl
theorem hM_X10_270 : Cond.methodLink RX10 270 yX1_addHeard ∈ lw_w := tw (tb_4 (List.mem_of_getElem? (i := 153) rfl)) rfl
theorem hI_X1_addHeard : Cond.instanceMethod yX1_addHeard ∈ lw_w := tw (tb_4 (List.mem_of_getElem? (i := 154) rfl)) rfl
theorem hS_X1_addHeard : Cond.selects RX1 yX1_addHeard yX1_addHeard ∈ lw_w := tw (tb_4 (List.mem_of_getElem? (i := 155) rfl)) rfl
theorem hC_X1_addHeard : Cond.code yX1_addHeard cX1_addHeard 2 none ∈ lw_w := tw (tb_4 (List.mem_of_getElem? (i := 156) rfl)) rfl
theorem hM_L_138 : Cond.methodLink RL 138 yX10_hush ∈ lw_w := tw (tb_4 (List.mem_of_getElem? (i := 157) rfl)) rfl
theorem hI_X10_hush : Cond.instanceMethod yX10_hush ∈ lw_w := tw (tb_4 (List.mem_of_getElem? (i := 158) rfl)) rfl
theorem hS_X10_hush : Cond.selects RX10 yX10_hush yX10_hush ∈ lw_w := tw (tb_4 (List.mem_of_getElem? (i := 159) rfl)) rfl
theorem hC_X10_hush : Cond.code yX10_hush cX10_hush 2 (some .int) ∈ lw_w := tw (tb_4 (List.mem_of_getElem? (i := 160) rfl)) rfl
theorem hM_L_142 : Cond.methodLink RL 142 yX10_fits ∈ lw_w := tw (tb_4 (List.mem_of_getElem? (i := 161) rfl)) rfl
theorem hI_X10_fits : Cond.instanceMethod yX10_fits ∈ lw_w := tw (tb_4 (List.mem_of_getElem? (i := 162) rfl)) rfl
theorem hS_X10_fits : Cond.selects RX10 yX10_fits yX10_fits ∈ lw_w := tw (tb_4 (List.mem_of_getElem? (i := 163) rfl)) rfl
theorem hC_X10_fits : Cond.code yX10_fits cX10_fits 2 (some .int) ∈ lw_w := tw (tb_4 (List.mem_of_getElem? (i := 164) rfl)) rfl
theorem hM_X10_273 : Cond.methodLink RX10 273 yX3_canBe ∈ lw_w := tw (tb_4 (List.mem_of_getElem? (i := 165) rfl)) rfl
theorem hI_X3_canBe : Cond.instanceMethod yX3_canBe ∈ lw_w := tw (tb_4 (List.mem_of_getElem? (i := 166) rfl)) rfl
theorem hS_X3_canBe : Cond.selects RX3 yX3_canBe yX3_canBe ∈ lw_w := tw (tb_4 (List.mem_of_getElem? (i := 167) rfl)) rfl
theorem hC_X3_canBe : Cond.code yX3_canBe cX3_canBe 5 (some .boolean) ∈ lw_w := tw (tb_4 (List.mem_of_getElem? (i := 168) rfl)) rfl
theorem hM_X3_41 : Cond.methodLink RX3 41 yX3_refusedBy ∈ lw_w := tw (tb_4 (List.mem_of_getElem? (i := 169) rfl)) rfl
theorem hI_X3_refusedBy : Cond.instanceMethod yX3_refusedBy ∈ lw_w := tw (tb_4 (List.mem_of_getElem? (i := 171) rfl)) rfl
theorem hC_X3_refusedBy : Cond.code yX3_refusedBy cX3_refusedBy 4 (some .int) ∈ lw_w := tw (tb_4 (List.mem_of_getElem? (i := 172) rfl)) rfl
theorem hM_L_146 : Cond.methodLink RL 146 yX10_which ∈ lw_w := tw (tb_4 (List.mem_of_getElem? (i := 173) rfl)) rfl
theorem hI_X10_which : Cond.instanceMethod yX10_which ∈ lw_w := tw (tb_4 (List.mem_of_getElem? (i := 174) rfl)) rfl
theorem hS_X10_which : Cond.selects RX10 yX10_which yX10_which ∈ lw_w := tw (tb_4 (List.mem_of_getElem? (i := 175) rfl)) rfl
theorem hC_X10_which : Cond.code yX10_which cX10_which 2 (some .int) ∈ lw_w := tw (tb_4 (List.mem_of_getElem? (i := 176) rfl)) rfl
theorem hM_X10_276 : Cond.methodLink RX10 276 yX3_compareAll ∈ lw_w := tw (tb_4 (List.mem_of_getElem? (i := 177) rfl)) rfl
theorem hI_X3_compareAll : Cond.instanceMethod yX3_compareAll ∈ lw_w := tw (tb_4 (List.mem_of_getElem? (i := 178) rfl)) rfl
theorem hS_X3_compareAll : Cond.selects RX3 yX3_compareAll yX3_compareAll ∈ lw_w := tw (tb_4 (List.mem_of_getElem? (i := 179) rfl)) rfl
theorem hC_X3_compareAll : Cond.code yX3_compareAll cX3_compareAll 2 none ∈ lw_w := tw (tb_4 (List.mem_of_getElem? (i := 180) rfl)) rfl
theorem hM_X3_51 : Cond.methodLink RX3 51 yX3_canBe ∈ lw_w := tw (tb_4 (List.mem_of_getElem? (i := 181) rfl)) rfl
theorem hM_X3_55 : Cond.methodLink RX3 55 yX3_addFitting ∈ lw_w := tw (tb_4 (List.mem_of_getElem? (i := 182) rfl)) rfl
theorem hI_X3_addFitting : Cond.instanceMethod yX3_addFitting ∈ lw_w := tw (tb_4 (List.mem_of_getElem? (i := 184) rfl)) rfl
theorem hC_X3_addFitting : Cond.code yX3_addFitting cX3_addFitting 3 none ∈ lw_w := tw (tb_4 (List.mem_of_getElem? (i := 185) rfl)) rfl
theorem hM_L_150 : Cond.methodLink RL 150 yX10_keep ∈ lw_w := tw (tb_4 (List.mem_of_getElem? (i := 186) rfl)) rfl
theorem hI_X10_keep : Cond.instanceMethod yX10_keep ∈ lw_w := tw (tb_4 (List.mem_of_getElem? (i := 187) rfl)) rfl
theorem hS_X10_keep : Cond.selects RX10 yX10_keep yX10_keep ∈ lw_w := tw (tb_4 (List.mem_of_getElem? (i := 188) rfl)) rfl
theorem hC_X10_keep : Cond.code yX10_keep cX10_keep 3 (some .int) ∈ lw_w := tw (tb_4 (List.mem_of_getElem? (i := 189) rfl)) rfl
theorem hM_X10_291 : Cond.methodLink RX10 291 yX10_isImage ∈ lw_w := tw (tb_4 (List.mem_of_getElem? (i := 190) rfl)) rfl
theorem hSt_X10_isImage : Cond.static yX10_isImage ∈ lw_w := tw (tb_4 (List.mem_of_getElem? (i := 191) rfl)) rfl
theorem hC_X10_isImage : Cond.code yX10_isImage cX10_isImage 1 (some .boolean) ∈ lw_w := tw (tb_4 (List.mem_of_getElem? (i := 192) rfl)) rfl
theorem hM_X10_294 : Cond.methodLink RX10 294 yX1_copyFrom ∈ lw_w := tw (tb_4 (List.mem_of_getElem? (i := 193) rfl)) rfl
theorem hM_L_154 : Cond.methodLink RL 154 yX10_back ∈ lw_w := tw (tb_4 (List.mem_of_getElem? (i := 194) rfl)) rfl
theorem hI_X10_back : Cond.instanceMethod yX10_back ∈ lw_w := tw (tb_4 (List.mem_of_getElem? (i := 195) rfl)) rfl
theorem hS_X10_back : Cond.selects RX10 yX10_back yX10_back ∈ lw_w := tw (tb_4 (List.mem_of_getElem? (i := 196) rfl)) rfl
theorem hC_X10_back : Cond.code yX10_back cX10_back 2 (some .int) ∈ lw_w := tw (tb_4 (List.mem_of_getElem? (i := 197) rfl)) rfl
theorem hM_L_158 : Cond.methodLink RL 158 yX10_sheet ∈ lw_w := tw (tb_4 (List.mem_of_getElem? (i := 198) rfl)) rfl
theorem hI_X10_sheet : Cond.instanceMethod yX10_sheet ∈ lw_w := tw (tb_4 (List.mem_of_getElem? (i := 199) rfl)) rfl
theorem hS_X10_sheet : Cond.selects RX10 yX10_sheet yX10_sheet ∈ lw_w := tw (tb_4 (List.mem_of_getElem? (i := 200) rfl)) rfl
theorem hC_X10_sheet : Cond.code yX10_sheet cX10_sheet 4 (some .int) ∈ lw_w := tw (tb_4 (List.mem_of_getElem? (i := 201) rfl)) rfl
theorem hM_X10_297 : Cond.methodLink RX10 297 yX10_isSheet ∈ lw_w := tw (tb_4 (List.mem_of_getElem? (i := 202) rfl)) rfl
theorem hSt_X10_isSheet : Cond.static yX10_isSheet ∈ lw_w := tw (tb_4 (List.mem_of_getElem? (i := 203) rfl)) rfl
theorem hC_X10_isSheet : Cond.code yX10_isSheet cX10_isSheet 1 (some .boolean) ∈ lw_w := tw (tb_4 (List.mem_of_getElem? (i := 204) rfl)) rfl
theorem hM_X10_300 : Cond.methodLink RX10 300 yX10_isLane ∈ lw_w := tw (tb_4 (List.mem_of_getElem? (i := 205) rfl)) rfl
theorem hSt_X10_isLane : Cond.static yX10_isLane ∈ lw_w := tw (tb_4 (List.mem_of_getElem? (i := 206) rfl)) rfl
theorem hC_X10_isLane : Cond.code yX10_isLane cX10_isLane 1 (some .boolean) ∈ lw_w := tw (tb_4 (List.mem_of_getElem? (i := 207) rfl)) rfl
theorem hM_X10_303 : Cond.methodLink RX10 303 yX7_renew ∈ lw_w := tw (tb_4 (List.mem_of_getElem? (i := 208) rfl)) rfl
theorem hI_X7_renew : Cond.instanceMethod yX7_renew ∈ lw_w := tw (tb_4 (List.mem_of_getElem? (i := 209) rfl)) rfl
theorem hS_X7_renew : Cond.selects RX7 yX7_renew yX7_renew ∈ lw_w := tw (tb_4 (List.mem_of_getElem? (i := 210) rfl)) rfl
theorem hC_X7_renew : Cond.code yX7_renew cX7_renew 3 none ∈ lw_w := tw (tb_4 (List.mem_of_getElem? (i := 211) rfl)) rfl
theorem hM_X7_22 : Cond.methodLink RX7 22 yJ7_fill_53178 ∈ lw_w := tw (tb_4 (List.mem_of_getElem? (i := 212) rfl)) rfl
theorem hM_L_162 : Cond.methodLink RL 162 yX10_lay ∈ lw_w := tw (tb_4 (List.mem_of_getElem? (i := 213) rfl)) rfl
theorem hI_X10_lay : Cond.instanceMethod yX10_lay ∈ lw_w := tw (tb_4 (List.mem_of_getElem? (i := 214) rfl)) rfl
theorem hS_X10_lay : Cond.selects RX10 yX10_lay yX10_lay ∈ lw_w := tw (tb_4 (List.mem_of_getElem? (i := 215) rfl)) rfl
theorem hC_X10_lay : Cond.code yX10_lay cX10_lay 6 (some .int) ∈ lw_w := tw (tb_4 (List.mem_of_getElem? (i := 216) rfl)) rfl
theorem hM_X10_309 : Cond.methodLink RX10 309 yX7_faultAt ∈ lw_w := tw (tb_4 (List.mem_of_getElem? (i := 217) rfl)) rfl
theorem hI_X7_faultAt : Cond.instanceMethod yX7_faultAt ∈ lw_w := tw (tb_4 (List.mem_of_getElem? (i := 218) rfl)) rfl
theorem hS_X7_faultAt : Cond.selects RX7 yX7_faultAt yX7_faultAt ∈ lw_w := tw (tb_4 (List.mem_of_getElem? (i := 219) rfl)) rfl
theorem hC_X7_faultAt : Cond.code yX7_faultAt cX7_faultAt 3 (some .int) ∈ lw_w := tw (tb_4 (List.mem_of_getElem? (i := 220) rfl)) rfl
theorem hM_X7_28 : Cond.methodLink RX7 28 yX7_isNothing ∈ lw_w := tw (tb_4 (List.mem_of_getElem? (i := 221) rfl)) rfl
theorem hI_X7_isNothing : Cond.instanceMethod yX7_isNothing ∈ lw_w := tw (tb_4 (List.mem_of_getElem? (i := 222) rfl)) rfl
theorem hS_X7_isNothing : Cond.selects RX7 yX7_isNothing yX7_isNothing ∈ lw_w := tw (tb_4 (List.mem_of_getElem? (i := 223) rfl)) rfl
theorem hC_X7_isNothing : Cond.code yX7_isNothing cX7_isNothing 1 (some .boolean) ∈ lw_w := tw (tb_4 (List.mem_of_getElem? (i := 224) rfl)) rfl
theorem hM_X10_312 : Cond.methodLink RX10 312 yX7_put ∈ lw_w := tw (tb_4 (List.mem_of_getElem? (i := 225) rfl)) rfl
theorem hI_X7_put : Cond.instanceMethod yX7_put ∈ lw_w := tw (tb_4 (List.mem_of_getElem? (i := 226) rfl)) rfl
theorem hS_X7_put : Cond.selects RX7 yX7_put yX7_put ∈ lw_w := tw (tb_4 (List.mem_of_getElem? (i := 227) rfl)) rfl
theorem hC_X7_put : Cond.code yX7_put cX7_put 3 none ∈ lw_w := tw (tb_4 (List.mem_of_getElem? (i := 228) rfl)) rfl
theorem hM_L_166 : Cond.methodLink RL 166 yX10_read ∈ lw_w := tw (tb_4 (List.mem_of_getElem? (i := 229) rfl)) rfl
theorem hI_X10_read : Cond.instanceMethod yX10_read ∈ lw_w := tw (tb_4 (List.mem_of_getElem? (i := 230) rfl)) rfl
theorem hS_X10_read : Cond.selects RX10 yX10_read yX10_read ∈ lw_w := tw (tb_4 (List.mem_of_getElem? (i := 231) rfl)) rfl
theorem hC_X10_read : Cond.code yX10_read cX10_read 9 (some .int) ∈ lw_w := tw (tb_4 (List.mem_of_getElem? (i := 232) rfl)) rfl
theorem hM_L_171 : Cond.methodLink RL 171 yX10_torn ∈ lw_w := tw (tb_4 (List.mem_of_getElem? (i := 233) rfl)) rfl
theorem hI_X10_torn : Cond.instanceMethod yX10_torn ∈ lw_w := tw (tb_4 (List.mem_of_getElem? (i := 234) rfl)) rfl
theorem hS_X10_torn : Cond.selects RX10 yX10_torn yX10_torn ∈ lw_w := tw (tb_4 (List.mem_of_getElem? (i := 235) rfl)) rfl
theorem hC_X10_torn : Cond.code yX10_torn cX10_torn 1 (some .int) ∈ lw_w := tw (tb_4 (List.mem_of_getElem? (i := 236) rfl)) rfl
theorem hM_L_175 : Cond.methodLink RL 175 yX10_count ∈ lw_w := tw (tb_4 (List.mem_of_getElem? (i := 237) rfl)) rfl
theorem hI_X10_count : Cond.instanceMethod yX10_count ∈ lw_w := tw (tb_4 (List.mem_of_getElem? (i := 238) rfl)) rfl
theorem hS_X10_count : Cond.selects RX10 yX10_count yX10_count ∈ lw_w := tw (tb_4 (List.mem_of_getElem? (i := 239) rfl)) rfl
theorem hC_X10_count : Cond.code yX10_count cX10_count 2 (some .int) ∈ lw_w := tw (tb_5 (List.mem_of_getElem? (i := 0) rfl)) rfl
theorem hM_X10_322 : Cond.methodLink RX10 322 yX1_feudPairs ∈ lw_w := tw (tb_5 (List.mem_of_getElem? (i := 1) rfl)) rfl
theorem hI_X1_feudPairs : Cond.instanceMethod yX1_feudPairs ∈ lw_w := tw (tb_5 (List.mem_of_getElem? (i := 2) rfl)) rfl
theorem hS_X1_feudPairs : Cond.selects RX1 yX1_feudPairs yX1_feudPairs ∈ lw_w := tw (tb_5 (List.mem_of_getElem? (i := 3) rfl)) rfl
theorem hC_X1_feudPairs : Cond.code yX1_feudPairs cX1_feudPairs 3 (some .int) ∈ lw_w := tw (tb_5 (List.mem_of_getElem? (i := 4) rfl)) rfl
theorem hM_X1_52 : Cond.methodLink RX1 52 yJ6_bitCount_0f7a4 ∈ lw_w := tw (tb_5 (List.mem_of_getElem? (i := 5) rfl)) rfl
theorem hM_X10_325 : Cond.methodLink RX10 325 yX7_isNothing ∈ lw_w := tw (tb_5 (List.mem_of_getElem? (i := 6) rfl)) rfl
theorem hCL_L_10 : Cond.classLink RL 10 RX11 ∈ lw_w := tw (tb_5 (List.mem_of_getElem? (i := 7) rfl)) rfl
theorem hIn_X11 : Cond.instantiable RX11 40 ∈ lw_w := tw (tb_5 (List.mem_of_getElem? (i := 8) rfl)) rfl
theorem hM_L_12 : Cond.methodLink RL 12 yX11_init ∈ lw_w := tw (tb_5 (List.mem_of_getElem? (i := 9) rfl)) rfl
theorem hI_X11_init : Cond.instanceMethod yX11_init ∈ lw_w := tw (tb_5 (List.mem_of_getElem? (i := 10) rfl)) rfl
theorem hC_X11_init : Cond.code yX11_init cX11_init 2 none ∈ lw_w := tw (tb_5 (List.mem_of_getElem? (i := 11) rfl)) rfl
theorem hM_X11_1 : Cond.methodLink RX11 1 objectInit ∈ lw_w := tw (tb_5 (List.mem_of_getElem? (i := 12) rfl)) rfl
theorem hM_X11_47 : Cond.methodLink RX11 47 yX11_firstDraft ∈ lw_w := tw (tb_5 (List.mem_of_getElem? (i := 13) rfl)) rfl
theorem hI_X11_firstDraft : Cond.instanceMethod yX11_firstDraft ∈ lw_w := tw (tb_5 (List.mem_of_getElem? (i := 15) rfl)) rfl
theorem hC_X11_firstDraft : Cond.code yX11_firstDraft cX11_firstDraft 2 none ∈ lw_w := tw (tb_5 (List.mem_of_getElem? (i := 16) rfl)) rfl
theorem hM_X11_50 : Cond.methodLink RX11 50 yX11_keepDraft ∈ lw_w := tw (tb_5 (List.mem_of_getElem? (i := 17) rfl)) rfl
theorem hI_X11_keepDraft : Cond.instanceMethod yX11_keepDraft ∈ lw_w := tw (tb_5 (List.mem_of_getElem? (i := 19) rfl)) rfl
theorem hC_X11_keepDraft : Cond.code yX11_keepDraft cX11_keepDraft 2 none ∈ lw_w := tw (tb_5 (List.mem_of_getElem? (i := 20) rfl)) rfl
theorem hF_X11_7 : Cond.fieldLink RX11 7 "ChimeSharesModel" "st" "[I" ∈ lw_w := tw (tb_5 (List.mem_of_getElem? (i := 21) rfl)) rfl
theorem hF_X11_13 : Cond.fieldLink RX11 13 "ChimeSharesModel" "isKept" "[Z" ∈ lw_w := tw (tb_5 (List.mem_of_getElem? (i := 22) rfl)) rfl
theorem hF_X11_75 : Cond.fieldLink RX11 75 "ChimeSharesModel" "houses" "I" ∈ lw_w := tw (tb_5 (List.mem_of_getElem? (i := 23) rfl)) rfl
theorem hF_X11_78 : Cond.fieldLink RX11 78 "ChimeSharesModel" "gap" "I" ∈ lw_w := tw (tb_5 (List.mem_of_getElem? (i := 24) rfl)) rfl
theorem hF_X11_81 : Cond.fieldLink RX11 81 "ChimeSharesModel" "bells" "I" ∈ lw_w := tw (tb_5 (List.mem_of_getElem? (i := 25) rfl)) rfl
theorem hF_X11_84 : Cond.fieldLink RX11 84 "ChimeSharesModel" "tunes" "I" ∈ lw_w := tw (tb_5 (List.mem_of_getElem? (i := 26) rfl)) rfl
theorem hF_X11_17 : Cond.fieldLink RX11 17 "ChimeSharesModel" "tune" "[I" ∈ lw_w := tw (tb_5 (List.mem_of_getElem? (i := 27) rfl)) rfl
theorem hF_X11_20 : Cond.fieldLink RX11 20 "ChimeSharesModel" "draft" "[I" ∈ lw_w := tw (tb_5 (List.mem_of_getElem? (i := 28) rfl)) rfl
theorem hF_X11_23 : Cond.fieldLink RX11 23 "ChimeSharesModel" "dTune" "[I" ∈ lw_w := tw (tb_5 (List.mem_of_getElem? (i := 29) rfl)) rfl
theorem hF_X11_53 : Cond.fieldLink RX11 53 "ChimeSharesModel" "dHouses" "I" ∈ lw_w := tw (tb_5 (List.mem_of_getElem? (i := 30) rfl)) rfl
theorem hF_X11_57 : Cond.fieldLink RX11 57 "ChimeSharesModel" "dGap" "I" ∈ lw_w := tw (tb_5 (List.mem_of_getElem? (i := 31) rfl)) rfl
theorem hF_X11_60 : Cond.fieldLink RX11 60 "ChimeSharesModel" "dBells" "I" ∈ lw_w := tw (tb_5 (List.mem_of_getElem? (i := 32) rfl)) rfl
theorem hF_X11_63 : Cond.fieldLink RX11 63 "ChimeSharesModel" "dTunes" "I" ∈ lw_w := tw (tb_5 (List.mem_of_getElem? (i := 33) rfl)) rfl
theorem hF_X11_66 : Cond.fieldLink RX11 66 "ChimeSharesModel" "highestHouse" "I" ∈ lw_w := tw (tb_5 (List.mem_of_getElem? (i := 34) rfl)) rfl
theorem hF_X11_69 : Cond.fieldLink RX11 69 "ChimeSharesModel" "highestBell" "I" ∈ lw_w := tw (tb_5 (List.mem_of_getElem? (i := 35) rfl)) rfl
theorem hF_X11_72 : Cond.fieldLink RX11 72 "ChimeSharesModel" "toldLines" "I" ∈ lw_w := tw (tb_5 (List.mem_of_getElem? (i := 36) rfl)) rfl
theorem hF_X11_26 : Cond.fieldLink RX11 26 "ChimeSharesModel" "tape" "[I" ∈ lw_w := tw (tb_5 (List.mem_of_getElem? (i := 37) rfl)) rfl
theorem hF_X11_87 : Cond.fieldLink RX11 87 "ChimeSharesModel" "taped" "I" ∈ lw_w := tw (tb_5 (List.mem_of_getElem? (i := 38) rfl)) rfl
theorem hF_X11_105 : Cond.fieldLink RX11 105 "ChimeSharesModel" "pos" "I" ∈ lw_w := tw (tb_5 (List.mem_of_getElem? (i := 39) rfl)) rfl
theorem hF_X11_99 : Cond.fieldLink RX11 99 "ChimeSharesModel" "from" "I" ∈ lw_w := tw (tb_5 (List.mem_of_getElem? (i := 40) rfl)) rfl
theorem hF_X11_116 : Cond.fieldLink RX11 116 "ChimeSharesModel" "sort" "I" ∈ lw_w := tw (tb_5 (List.mem_of_getElem? (i := 41) rfl)) rfl
theorem hF_X11_127 : Cond.fieldLink RX11 127 "ChimeSharesModel" "value" "I" ∈ lw_w := tw (tb_5 (List.mem_of_getElem? (i := 42) rfl)) rfl
theorem hF_X11_96 : Cond.fieldLink RX11 96 "ChimeSharesModel" "fault" "I" ∈ lw_w := tw (tb_5 (List.mem_of_getElem? (i := 43) rfl)) rfl
theorem hF_X11_102 : Cond.fieldLink RX11 102 "ChimeSharesModel" "wrongAt" "I" ∈ lw_w := tw (tb_5 (List.mem_of_getElem? (i := 44) rfl)) rfl
theorem hF_X11_204 : Cond.fieldLink RX11 204 "ChimeSharesModel" "cost" "I" ∈ lw_w := tw (tb_5 (List.mem_of_getElem? (i := 45) rfl)) rfl
theorem hF_X11_207 : Cond.fieldLink RX11 207 "ChimeSharesModel" "flats" "I" ∈ lw_w := tw (tb_5 (List.mem_of_getElem? (i := 46) rfl)) rfl
theorem hF_X11_210 : Cond.fieldLink RX11 210 "ChimeSharesModel" "silent" "I" ∈ lw_w := tw (tb_5 (List.mem_of_getElem? (i := 47) rfl)) rfl
theorem hF_X11_213 : Cond.fieldLink RX11 213 "ChimeSharesModel" "silentMany" "I" ∈ lw_w := tw (tb_5 (List.mem_of_getElem? (i := 48) rfl)) rfl
theorem hF_X11_29 : Cond.fieldLink RX11 29 "ChimeSharesModel" "rung" "[I" ∈ lw_w := tw (tb_5 (List.mem_of_getElem? (i := 49) rfl)) rfl
theorem hF_X11_32 : Cond.fieldLink RX11 32 "ChimeSharesModel" "fees" "[I" ∈ lw_w := tw (tb_5 (List.mem_of_getElem? (i := 50) rfl)) rfl
theorem hF_X11_242 : Cond.fieldLink RX11 242 "ChimeSharesModel" "bestFee" "I" ∈ lw_w := tw (tb_5 (List.mem_of_getElem? (i := 51) rfl)) rfl
theorem hF_X11_245 : Cond.fieldLink RX11 245 "ChimeSharesModel" "bestGets" "I" ∈ lw_w := tw (tb_5 (List.mem_of_getElem? (i := 52) rfl)) rfl
theorem hF_X11_259 : Cond.fieldLink RX11 259 "ChimeSharesModel" "feastCost" "I" ∈ lw_w := tw (tb_5 (List.mem_of_getElem? (i := 53) rfl)) rfl
theorem hF_X11_263 : Cond.fieldLink RX11 263 "ChimeSharesModel" "feastTunes" "I" ∈ lw_w := tw (tb_5 (List.mem_of_getElem? (i := 54) rfl)) rfl
theorem hF_X11_35 : Cond.fieldLink RX11 35 "ChimeSharesModel" "sums" "[I" ∈ lw_w := tw (tb_5 (List.mem_of_getElem? (i := 55) rfl)) rfl
theorem hF_X11_297 : Cond.fieldLink RX11 297 "ChimeSharesModel" "refused" "I" ∈ lw_w := tw (tb_5 (List.mem_of_getElem? (i := 56) rfl)) rfl
theorem hF_X11_38 : Cond.fieldLink RX11 38 "ChimeSharesModel" "lanes" "[I" ∈ lw_w := tw (tb_5 (List.mem_of_getElem? (i := 57) rfl)) rfl
theorem hF_X11_41 : Cond.fieldLink RX11 41 "ChimeSharesModel" "sizes" "[I" ∈ lw_w := tw (tb_5 (List.mem_of_getElem? (i := 58) rfl)) rfl
theorem hF_X11_44 : Cond.fieldLink RX11 44 "ChimeSharesModel" "cells" "[I" ∈ lw_w := tw (tb_5 (List.mem_of_getElem? (i := 59) rfl)) rfl
theorem hF_X11_318 : Cond.fieldLink RX11 318 "ChimeSharesModel" "torn" "I" ∈ lw_w := tw (tb_5 (List.mem_of_getElem? (i := 60) rfl)) rfl
theorem hM_L_19 : Cond.methodLink RL 19 yX11_feed ∈ lw_w := tw (tb_5 (List.mem_of_getElem? (i := 142) rfl)) rfl
theorem hI_X11_feed : Cond.instanceMethod yX11_feed ∈ lw_w := tw (tb_5 (List.mem_of_getElem? (i := 143) rfl)) rfl
theorem hS_X11_feed : Cond.selects RX11 yX11_feed yX11_feed ∈ lw_w := tw (tb_5 (List.mem_of_getElem? (i := 144) rfl)) rfl
theorem hC_X11_feed : Cond.code yX11_feed cX11_feed 4 (some .int) ∈ lw_w := tw (tb_5 (List.mem_of_getElem? (i := 145) rfl)) rfl
theorem hK_X11_90 : Cond.constantLong RX11 90 (255) ∈ lw_w := tw (tb_5 (List.mem_of_getElem? (i := 146) rfl)) rfl
theorem hM_L_24 : Cond.methodLink RL 24 yX11_end ∈ lw_w := tw (tb_5 (List.mem_of_getElem? (i := 147) rfl)) rfl
theorem hI_X11_end : Cond.instanceMethod yX11_end ∈ lw_w := tw (tb_5 (List.mem_of_getElem? (i := 148) rfl)) rfl
theorem hS_X11_end : Cond.selects RX11 yX11_end yX11_end ∈ lw_w := tw (tb_5 (List.mem_of_getElem? (i := 149) rfl)) rfl
theorem hC_X11_end : Cond.code yX11_end cX11_end 3 (some .int) ∈ lw_w := tw (tb_5 (List.mem_of_getElem? (i := 150) rfl)) rfl
theorem hM_X11_92 : Cond.methodLink RX11 92 yX11_in ∈ lw_w := tw (tb_5 (List.mem_of_getElem? (i := 151) rfl)) rfl
theorem hSt_X11_in : Cond.static yX11_in ∈ lw_w := tw (tb_5 (List.mem_of_getElem? (i := 152) rfl)) rfl
theorem hC_X11_in : Cond.code yX11_in cX11_in 6 (some .boolean) ∈ lw_w := tw (tb_5 (List.mem_of_getElem? (i := 153) rfl)) rfl
theorem hM_L_29 : Cond.methodLink RL 29 yX11_text ∈ lw_w := tw (tb_5 (List.mem_of_getElem? (i := 154) rfl)) rfl
theorem hI_X11_text : Cond.instanceMethod yX11_text ∈ lw_w := tw (tb_5 (List.mem_of_getElem? (i := 155) rfl)) rfl
theorem hS_X11_text : Cond.selects RX11 yX11_text yX11_text ∈ lw_w := tw (tb_5 (List.mem_of_getElem? (i := 156) rfl)) rfl
theorem hC_X11_text : Cond.code yX11_text cX11_text 2 (some .int) ∈ lw_w := tw (tb_5 (List.mem_of_getElem? (i := 157) rfl)) rfl
theorem hM_X11_138 : Cond.methodLink RX11 138 yX11_next ∈ lw_w := tw (tb_5 (List.mem_of_getElem? (i := 158) rfl)) rfl
theorem hI_X11_next : Cond.instanceMethod yX11_next ∈ lw_w := tw (tb_5 (List.mem_of_getElem? (i := 160) rfl)) rfl
theorem hC_X11_next : Cond.code yX11_next cX11_next 2 none ∈ lw_w := tw (tb_5 (List.mem_of_getElem? (i := 161) rfl)) rfl
theorem hM_X11_108 : Cond.methodLink RX11 108 yX11_look ∈ lw_w := tw (tb_5 (List.mem_of_getElem? (i := 162) rfl)) rfl
theorem hI_X11_look : Cond.instanceMethod yX11_look ∈ lw_w := tw (tb_5 (List.mem_of_getElem? (i := 164) rfl)) rfl
theorem hC_X11_look : Cond.code yX11_look cX11_look 2 (some .int) ∈ lw_w := tw (tb_5 (List.mem_of_getElem? (i := 165) rfl)) rfl
theorem hK_X11_119 : Cond.constantLong RX11 119 (97) ∈ lw_w := tw (tb_5 (List.mem_of_getElem? (i := 166) rfl)) rfl
theorem hK_X11_121 : Cond.constantLong RX11 121 (122) ∈ lw_w := tw (tb_5 (List.mem_of_getElem? (i := 167) rfl)) rfl
theorem hK_X11_123 : Cond.constantLong RX11 123 (48) ∈ lw_w := tw (tb_5 (List.mem_of_getElem? (i := 168) rfl)) rfl
theorem hK_X11_125 : Cond.constantLong RX11 125 (57) ∈ lw_w := tw (tb_5 (List.mem_of_getElem? (i := 169) rfl)) rfl
theorem hM_X11_130 : Cond.methodLink RX11 130 yX11_needs ∈ lw_w := tw (tb_5 (List.mem_of_getElem? (i := 170) rfl)) rfl
theorem hI_X11_needs : Cond.instanceMethod yX11_needs ∈ lw_w := tw (tb_5 (List.mem_of_getElem? (i := 172) rfl)) rfl
theorem hC_X11_needs : Cond.code yX11_needs cX11_needs 3 none ∈ lw_w := tw (tb_5 (List.mem_of_getElem? (i := 173) rfl)) rfl
theorem hM_X11_163 : Cond.methodLink RX11 163 yX11_readLine ∈ lw_w := tw (tb_5 (List.mem_of_getElem? (i := 174) rfl)) rfl
theorem hI_X11_readLine : Cond.instanceMethod yX11_readLine ∈ lw_w := tw (tb_5 (List.mem_of_getElem? (i := 176) rfl)) rfl
theorem hC_X11_readLine : Cond.code yX11_readLine cX11_readLine 2 none ∈ lw_w := tw (tb_5 (List.mem_of_getElem? (i := 177) rfl)) rfl
theorem hM_X11_151 : Cond.methodLink RX11 151 yX11_nameNow ∈ lw_w := tw (tb_5 (List.mem_of_getElem? (i := 178) rfl)) rfl
theorem hI_X11_nameNow : Cond.instanceMethod yX11_nameNow ∈ lw_w := tw (tb_5 (List.mem_of_getElem? (i := 180) rfl)) rfl
theorem hC_X11_nameNow : Cond.code yX11_nameNow cX11_nameNow 1 (some .int) ∈ lw_w := tw (tb_5 (List.mem_of_getElem? (i := 181) rfl)) rfl
theorem hM_X11_112 : Cond.methodLink RX11 112 yX11_is ∈ lw_w := tw (tb_5 (List.mem_of_getElem? (i := 182) rfl)) rfl
theorem hI_X11_is : Cond.instanceMethod yX11_is ∈ lw_w := tw (tb_5 (List.mem_of_getElem? (i := 184) rfl)) rfl
theorem hC_X11_is : Cond.code yX11_is cX11_is 6 (some .boolean) ∈ lw_w := tw (tb_5 (List.mem_of_getElem? (i := 185) rfl)) rfl
theorem hM_X11_144 : Cond.methodLink RX11 144 yX11_readNumber ∈ lw_w := tw (tb_5 (List.mem_of_getElem? (i := 186) rfl)) rfl
theorem hI_X11_readNumber : Cond.instanceMethod yX11_readNumber ∈ lw_w := tw (tb_5 (List.mem_of_getElem? (i := 188) rfl)) rfl
theorem hC_X11_readNumber : Cond.code yX11_readNumber cX11_readNumber 4 (some .int) ∈ lw_w := tw (tb_5 (List.mem_of_getElem? (i := 189) rfl)) rfl
theorem hM_X11_134 : Cond.methodLink RX11 134 yX11_looked ∈ lw_w := tw (tb_5 (List.mem_of_getElem? (i := 190) rfl)) rfl
theorem hI_X11_looked : Cond.instanceMethod yX11_looked ∈ lw_w := tw (tb_5 (List.mem_of_getElem? (i := 192) rfl)) rfl
theorem hC_X11_looked : Cond.code yX11_looked cX11_looked 3 (some .int) ∈ lw_w := tw (tb_5 (List.mem_of_getElem? (i := 193) rfl)) rfl
theorem hM_X11_154 : Cond.methodLink RX11 154 yX11_readBell ∈ lw_w := tw (tb_5 (List.mem_of_getElem? (i := 194) rfl)) rfl
theorem hI_X11_readBell : Cond.instanceMethod yX11_readBell ∈ lw_w := tw (tb_5 (List.mem_of_getElem? (i := 196) rfl)) rfl
theorem hC_X11_readBell : Cond.code yX11_readBell cX11_readBell 4 none ∈ lw_w := tw (tb_5 (List.mem_of_getElem? (i := 197) rfl)) rfl
theorem hM_X11_141 : Cond.methodLink RX11 141 yX11_readHouse ∈ lw_w := tw (tb_5 (List.mem_of_getElem? (i := 198) rfl)) rfl
theorem hI_X11_readHouse : Cond.instanceMethod yX11_readHouse ∈ lw_w := tw (tb_5 (List.mem_of_getElem? (i := 200) rfl)) rfl
theorem hC_X11_readHouse : Cond.code yX11_readHouse cX11_readHouse 3 (some .int) ∈ lw_w := tw (tb_5 (List.mem_of_getElem? (i := 201) rfl)) rfl
theorem hM_X11_147 : Cond.methodLink RX11 147 yX11_withNow ∈ lw_w := tw (tb_5 (List.mem_of_getElem? (i := 202) rfl)) rfl
theorem hI_X11_withNow : Cond.instanceMethod yX11_withNow ∈ lw_w := tw (tb_5 (List.mem_of_getElem? (i := 204) rfl)) rfl
theorem hC_X11_withNow : Cond.code yX11_withNow cX11_withNow 1 (some .int) ∈ lw_w := tw (tb_5 (List.mem_of_getElem? (i := 205) rfl)) rfl
theorem hM_X11_157 : Cond.methodLink RX11 157 yX11_readTune ∈ lw_w := tw (tb_5 (List.mem_of_getElem? (i := 206) rfl)) rfl
theorem hI_X11_readTune : Cond.instanceMethod yX11_readTune ∈ lw_w := tw (tb_5 (List.mem_of_getElem? (i := 208) rfl)) rfl
theorem hC_X11_readTune : Cond.code yX11_readTune cX11_readTune 5 none ∈ lw_w := tw (tb_5 (List.mem_of_getElem? (i := 209) rfl)) rfl
theorem hM_X11_160 : Cond.methodLink RX11 160 yX11_readFeud ∈ lw_w := tw (tb_5 (List.mem_of_getElem? (i := 210) rfl)) rfl
theorem hI_X11_readFeud : Cond.instanceMethod yX11_readFeud ∈ lw_w := tw (tb_5 (List.mem_of_getElem? (i := 212) rfl)) rfl
theorem hC_X11_readFeud : Cond.code yX11_readFeud cX11_readFeud 3 none ∈ lw_w := tw (tb_5 (List.mem_of_getElem? (i := 213) rfl)) rfl
theorem hM_L_33 : Cond.methodLink RL 33 yX11_fault ∈ lw_w := tw (tb_5 (List.mem_of_getElem? (i := 214) rfl)) rfl
theorem hI_X11_fault : Cond.instanceMethod yX11_fault ∈ lw_w := tw (tb_5 (List.mem_of_getElem? (i := 215) rfl)) rfl
theorem hS_X11_fault : Cond.selects RX11 yX11_fault yX11_fault ∈ lw_w := tw (tb_5 (List.mem_of_getElem? (i := 216) rfl)) rfl
theorem hC_X11_fault : Cond.code yX11_fault cX11_fault 1 (some .int) ∈ lw_w := tw (tb_5 (List.mem_of_getElem? (i := 217) rfl)) rfl
theorem hM_L_37 : Cond.methodLink RL 37 yX11_rule ∈ lw_w := tw (tb_5 (List.mem_of_getElem? (i := 218) rfl)) rfl
theorem hI_X11_rule : Cond.instanceMethod yX11_rule ∈ lw_w := tw (tb_5 (List.mem_of_getElem? (i := 219) rfl)) rfl
theorem hS_X11_rule : Cond.selects RX11 yX11_rule yX11_rule ∈ lw_w := tw (tb_5 (List.mem_of_getElem? (i := 220) rfl)) rfl
theorem hC_X11_rule : Cond.code yX11_rule cX11_rule 2 (some .int) ∈ lw_w := tw (tb_5 (List.mem_of_getElem? (i := 221) rfl)) rfl
theorem hM_L_42 : Cond.methodLink RL 42 yX11_bell ∈ lw_w := tw (tb_5 (List.mem_of_getElem? (i := 222) rfl)) rfl
theorem hI_X11_bell : Cond.instanceMethod yX11_bell ∈ lw_w := tw (tb_5 (List.mem_of_getElem? (i := 223) rfl)) rfl
theorem hS_X11_bell : Cond.selects RX11 yX11_bell yX11_bell ∈ lw_w := tw (tb_5 (List.mem_of_getElem? (i := 224) rfl)) rfl
theorem hC_X11_bell : Cond.code yX11_bell cX11_bell 3 (some .int) ∈ lw_w := tw (tb_5 (List.mem_of_getElem? (i := 225) rfl)) rfl
theorem hM_X11_166 : Cond.methodLink RX11 166 yX11_isBell ∈ lw_w := tw (tb_5 (List.mem_of_getElem? (i := 226) rfl)) rfl
theorem hI_X11_isBell : Cond.instanceMethod yX11_isBell ∈ lw_w := tw (tb_5 (List.mem_of_getElem? (i := 228) rfl)) rfl
theorem hC_X11_isBell : Cond.code yX11_isBell cX11_isBell 2 (some .boolean) ∈ lw_w := tw (tb_5 (List.mem_of_getElem? (i := 229) rfl)) rfl
theorem hK_X11_170 : Cond.constantLong RX11 170 (4) ∈ lw_w := tw (tb_5 (List.mem_of_getElem? (i := 230) rfl)) rfl
theorem hM_X11_172 : Cond.methodLink RX11 172 yX11_of ∈ lw_w := tw (tb_5 (List.mem_of_getElem? (i := 231) rfl)) rfl
theorem hI_X11_of : Cond.instanceMethod yX11_of ∈ lw_w := tw (tb_5 (List.mem_of_getElem? (i := 233) rfl)) rfl
theorem hC_X11_of : Cond.code yX11_of cX11_of 3 (some .int) ∈ lw_w := tw (tb_5 (List.mem_of_getElem? (i := 234) rfl)) rfl
theorem hM_L_46 : Cond.methodLink RL 46 yX11_tune ∈ lw_w := tw (tb_5 (List.mem_of_getElem? (i := 235) rfl)) rfl
theorem hI_X11_tune : Cond.instanceMethod yX11_tune ∈ lw_w := tw (tb_5 (List.mem_of_getElem? (i := 236) rfl)) rfl
theorem hS_X11_tune : Cond.selects RX11 yX11_tune yX11_tune ∈ lw_w := tw (tb_5 (List.mem_of_getElem? (i := 237) rfl)) rfl
theorem hC_X11_tune : Cond.code yX11_tune cX11_tune 3 (some .int) ∈ lw_w := tw (tb_5 (List.mem_of_getElem? (i := 238) rfl)) rfl
theorem hM_X11_175 : Cond.methodLink RX11 175 yX11_isTune ∈ lw_w := tw (tb_5 (List.mem_of_getElem? (i := 239) rfl)) rfl
theorem hI_X11_isTune : Cond.instanceMethod yX11_isTune ∈ lw_w := tw (tb_6 (List.mem_of_getElem? (i := 1) rfl)) rfl
theorem hC_X11_isTune : Cond.code yX11_isTune cX11_isTune 2 (some .boolean) ∈ lw_w := tw (tb_6 (List.mem_of_getElem? (i := 2) rfl)) rfl
theorem hK_X11_178 : Cond.constantLong RX11 178 (10) ∈ lw_w := tw (tb_6 (List.mem_of_getElem? (i := 3) rfl)) rfl
theorem hM_X11_180 : Cond.methodLink RX11 180 yX11_strokes ∈ lw_w := tw (tb_6 (List.mem_of_getElem? (i := 4) rfl)) rfl
theorem hI_X11_strokes : Cond.instanceMethod yX11_strokes ∈ lw_w := tw (tb_6 (List.mem_of_getElem? (i := 6) rfl)) rfl
theorem hC_X11_strokes : Cond.code yX11_strokes cX11_strokes 2 (some .int) ∈ lw_w := tw (tb_6 (List.mem_of_getElem? (i := 7) rfl)) rfl
theorem hM_X11_183 : Cond.methodLink RX11 183 yX11_stroke ∈ lw_w := tw (tb_6 (List.mem_of_getElem? (i := 8) rfl)) rfl
theorem hI_X11_stroke : Cond.instanceMethod yX11_stroke ∈ lw_w := tw (tb_6 (List.mem_of_getElem? (i := 10) rfl)) rfl
theorem hC_X11_stroke : Cond.code yX11_stroke cX11_stroke 3 (some .int) ∈ lw_w := tw (tb_6 (List.mem_of_getElem? (i := 11) rfl)) rfl
theorem hM_L_50 : Cond.methodLink RL 50 yX11_feuds ∈ lw_w := tw (tb_6 (List.mem_of_getElem? (i := 12) rfl)) rfl
theorem hI_X11_feuds : Cond.instanceMethod yX11_feuds ∈ lw_w := tw (tb_6 (List.mem_of_getElem? (i := 13) rfl)) rfl
theorem hS_X11_feuds : Cond.selects RX11 yX11_feuds yX11_feuds ∈ lw_w := tw (tb_6 (List.mem_of_getElem? (i := 14) rfl)) rfl
theorem hC_X11_feuds : Cond.code yX11_feuds cX11_feuds 2 (some .int) ∈ lw_w := tw (tb_6 (List.mem_of_getElem? (i := 15) rfl)) rfl
theorem hM_X11_186 : Cond.methodLink RX11 186 yX11_isHouse ∈ lw_w := tw (tb_6 (List.mem_of_getElem? (i := 16) rfl)) rfl
theorem hI_X11_isHouse : Cond.instanceMethod yX11_isHouse ∈ lw_w := tw (tb_6 (List.mem_of_getElem? (i := 18) rfl)) rfl
theorem hC_X11_isHouse : Cond.code yX11_isHouse cX11_isHouse 2 (some .boolean) ∈ lw_w := tw (tb_6 (List.mem_of_getElem? (i := 19) rfl)) rfl
theorem hM_L_54 : Cond.methodLink RL 54 yX11_fee ∈ lw_w := tw (tb_6 (List.mem_of_getElem? (i := 20) rfl)) rfl
theorem hI_X11_fee : Cond.instanceMethod yX11_fee ∈ lw_w := tw (tb_6 (List.mem_of_getElem? (i := 21) rfl)) rfl
theorem hS_X11_fee : Cond.selects RX11 yX11_fee yX11_fee ∈ lw_w := tw (tb_6 (List.mem_of_getElem? (i := 22) rfl)) rfl
theorem hC_X11_fee : Cond.code yX11_fee cX11_fee 4 (some .int) ∈ lw_w := tw (tb_6 (List.mem_of_getElem? (i := 23) rfl)) rfl
theorem hK_X11_189 : Cond.constantLong RX11 189 (20) ∈ lw_w := tw (tb_6 (List.mem_of_getElem? (i := 24) rfl)) rfl
theorem hM_L_59 : Cond.methodLink RL 59 yX11_shut ∈ lw_w := tw (tb_6 (List.mem_of_getElem? (i := 25) rfl)) rfl
theorem hI_X11_shut : Cond.instanceMethod yX11_shut ∈ lw_w := tw (tb_6 (List.mem_of_getElem? (i := 26) rfl)) rfl
theorem hS_X11_shut : Cond.selects RX11 yX11_shut yX11_shut ∈ lw_w := tw (tb_6 (List.mem_of_getElem? (i := 27) rfl)) rfl
theorem hC_X11_shut : Cond.code yX11_shut cX11_shut 4 (some .int) ∈ lw_w := tw (tb_6 (List.mem_of_getElem? (i := 28) rfl)) rfl
theorem hM_X11_191 : Cond.methodLink RX11 191 yX11_flag ∈ lw_w := tw (tb_6 (List.mem_of_getElem? (i := 29) rfl)) rfl
theorem hSt_X11_flag : Cond.static yX11_flag ∈ lw_w := tw (tb_6 (List.mem_of_getElem? (i := 30) rfl)) rfl
theorem hC_X11_flag : Cond.code yX11_flag cX11_flag 1 (some .int) ∈ lw_w := tw (tb_6 (List.mem_of_getElem? (i := 31) rfl)) rfl
theorem hM_L_63 : Cond.methodLink RL 63 yX11_sell ∈ lw_w := tw (tb_6 (List.mem_of_getElem? (i := 32) rfl)) rfl
theorem hI_X11_sell : Cond.instanceMethod yX11_sell ∈ lw_w := tw (tb_6 (List.mem_of_getElem? (i := 33) rfl)) rfl
theorem hS_X11_sell : Cond.selects RX11 yX11_sell yX11_sell ∈ lw_w := tw (tb_6 (List.mem_of_getElem? (i := 34) rfl)) rfl
theorem hC_X11_sell : Cond.code yX11_sell cX11_sell 4 (some .int) ∈ lw_w := tw (tb_6 (List.mem_of_getElem? (i := 35) rfl)) rfl
theorem hM_L_67 : Cond.methodLink RL 67 yX11_half ∈ lw_w := tw (tb_6 (List.mem_of_getElem? (i := 36) rfl)) rfl
theorem hI_X11_half : Cond.instanceMethod yX11_half ∈ lw_w := tw (tb_6 (List.mem_of_getElem? (i := 37) rfl)) rfl
theorem hS_X11_half : Cond.selects RX11 yX11_half yX11_half ∈ lw_w := tw (tb_6 (List.mem_of_getElem? (i := 38) rfl)) rfl
theorem hC_X11_half : Cond.code yX11_half cX11_half 4 (some .int) ∈ lw_w := tw (tb_6 (List.mem_of_getElem? (i := 39) rfl)) rfl
theorem hM_L_72 : Cond.methodLink RL 72 yX11_feud ∈ lw_w := tw (tb_6 (List.mem_of_getElem? (i := 40) rfl)) rfl
theorem hI_X11_feud : Cond.instanceMethod yX11_feud ∈ lw_w := tw (tb_6 (List.mem_of_getElem? (i := 41) rfl)) rfl
theorem hS_X11_feud : Cond.selects RX11 yX11_feud yX11_feud ∈ lw_w := tw (tb_6 (List.mem_of_getElem? (i := 42) rfl)) rfl
theorem hC_X11_feud : Cond.code yX11_feud cX11_feud 5 (some .int) ∈ lw_w := tw (tb_6 (List.mem_of_getElem? (i := 43) rfl)) rfl
theorem hM_X11_195 : Cond.methodLink RX11 195 yX11_isFeud ∈ lw_w := tw (tb_6 (List.mem_of_getElem? (i := 44) rfl)) rfl
theorem hI_X11_isFeud : Cond.instanceMethod yX11_isFeud ∈ lw_w := tw (tb_6 (List.mem_of_getElem? (i := 46) rfl)) rfl
theorem hC_X11_isFeud : Cond.code yX11_isFeud cX11_isFeud 3 (some .boolean) ∈ lw_w := tw (tb_6 (List.mem_of_getElem? (i := 47) rfl)) rfl
theorem hM_X11_199 : Cond.methodLink RX11 199 yX11_setsFeud ∈ lw_w := tw (tb_6 (List.mem_of_getElem? (i := 48) rfl)) rfl
theorem hI_X11_setsFeud : Cond.instanceMethod yX11_setsFeud ∈ lw_w := tw (tb_6 (List.mem_of_getElem? (i := 50) rfl)) rfl
theorem hC_X11_setsFeud : Cond.code yX11_setsFeud cX11_setsFeud 4 none ∈ lw_w := tw (tb_6 (List.mem_of_getElem? (i := 51) rfl)) rfl
theorem hM_L_76 : Cond.methodLink RL 76 yX11_feuding ∈ lw_w := tw (tb_6 (List.mem_of_getElem? (i := 52) rfl)) rfl
theorem hI_X11_feuding : Cond.instanceMethod yX11_feuding ∈ lw_w := tw (tb_6 (List.mem_of_getElem? (i := 53) rfl)) rfl
theorem hS_X11_feuding : Cond.selects RX11 yX11_feuding yX11_feuding ∈ lw_w := tw (tb_6 (List.mem_of_getElem? (i := 54) rfl)) rfl
theorem hC_X11_feuding : Cond.code yX11_feuding cX11_feuding 7 (some .int) ∈ lw_w := tw (tb_6 (List.mem_of_getElem? (i := 55) rfl)) rfl
theorem hK_X11_203 : Cond.constant RX11 203 (1103515245) ∈ lw_w := tw (tb_6 (List.mem_of_getElem? (i := 56) rfl)) rfl
theorem hM_L_80 : Cond.methodLink RL 80 yX11_ring ∈ lw_w := tw (tb_6 (List.mem_of_getElem? (i := 57) rfl)) rfl
theorem hI_X11_ring : Cond.instanceMethod yX11_ring ∈ lw_w := tw (tb_6 (List.mem_of_getElem? (i := 58) rfl)) rfl
theorem hS_X11_ring : Cond.selects RX11 yX11_ring yX11_ring ∈ lw_w := tw (tb_6 (List.mem_of_getElem? (i := 59) rfl)) rfl
theorem hC_X11_ring : Cond.code yX11_ring cX11_ring 4 (some .int) ∈ lw_w := tw (tb_6 (List.mem_of_getElem? (i := 60) rfl)) rfl
theorem hM_X11_220 : Cond.methodLink RX11 220 yX11_valueOf ∈ lw_w := tw (tb_6 (List.mem_of_getElem? (i := 61) rfl)) rfl
theorem hI_X11_valueOf : Cond.instanceMethod yX11_valueOf ∈ lw_w := tw (tb_6 (List.mem_of_getElem? (i := 63) rfl)) rfl
theorem hC_X11_valueOf : Cond.code yX11_valueOf cX11_valueOf 2 (some .int) ∈ lw_w := tw (tb_6 (List.mem_of_getElem? (i := 64) rfl)) rfl
theorem hM_X11_216 : Cond.methodLink RX11 216 yX11_rings ∈ lw_w := tw (tb_6 (List.mem_of_getElem? (i := 65) rfl)) rfl
theorem hI_X11_rings : Cond.instanceMethod yX11_rings ∈ lw_w := tw (tb_6 (List.mem_of_getElem? (i := 67) rfl)) rfl
theorem hC_X11_rings : Cond.code yX11_rings cX11_rings 6 none ∈ lw_w := tw (tb_6 (List.mem_of_getElem? (i := 68) rfl)) rfl
theorem hM_L_84 : Cond.methodLink RL 84 yX11_taken ∈ lw_w := tw (tb_6 (List.mem_of_getElem? (i := 69) rfl)) rfl
theorem hI_X11_taken : Cond.instanceMethod yX11_taken ∈ lw_w := tw (tb_6 (List.mem_of_getElem? (i := 70) rfl)) rfl
theorem hS_X11_taken : Cond.selects RX11 yX11_taken yX11_taken ∈ lw_w := tw (tb_6 (List.mem_of_getElem? (i := 71) rfl)) rfl
theorem hC_X11_taken : Cond.code yX11_taken cX11_taken 1 (some .int) ∈ lw_w := tw (tb_6 (List.mem_of_getElem? (i := 72) rfl)) rfl
theorem hM_X11_223 : Cond.methodLink RX11 223 yX11_takenNow ∈ lw_w := tw (tb_6 (List.mem_of_getElem? (i := 73) rfl)) rfl
theorem hI_X11_takenNow : Cond.instanceMethod yX11_takenNow ∈ lw_w := tw (tb_6 (List.mem_of_getElem? (i := 75) rfl)) rfl
theorem hC_X11_takenNow : Cond.code yX11_takenNow cX11_takenNow 5 (some .int) ∈ lw_w := tw (tb_6 (List.mem_of_getElem? (i := 76) rfl)) rfl
theorem hM_L_88 : Cond.methodLink RL 88 yX11_gets ∈ lw_w := tw (tb_6 (List.mem_of_getElem? (i := 77) rfl)) rfl
theorem hI_X11_gets : Cond.instanceMethod yX11_gets ∈ lw_w := tw (tb_6 (List.mem_of_getElem? (i := 78) rfl)) rfl
theorem hS_X11_gets : Cond.selects RX11 yX11_gets yX11_gets ∈ lw_w := tw (tb_6 (List.mem_of_getElem? (i := 79) rfl)) rfl
theorem hC_X11_gets : Cond.code yX11_gets cX11_gets 3 (some .int) ∈ lw_w := tw (tb_6 (List.mem_of_getElem? (i := 80) rfl)) rfl
theorem hM_X11_229 : Cond.methodLink RX11 229 yX11_getsNow ∈ lw_w := tw (tb_6 (List.mem_of_getElem? (i := 81) rfl)) rfl
theorem hI_X11_getsNow : Cond.instanceMethod yX11_getsNow ∈ lw_w := tw (tb_6 (List.mem_of_getElem? (i := 83) rfl)) rfl
theorem hC_X11_getsNow : Cond.code yX11_getsNow cX11_getsNow 5 (some .int) ∈ lw_w := tw (tb_6 (List.mem_of_getElem? (i := 84) rfl)) rfl
theorem hM_X11_226 : Cond.methodLink RX11 226 yX11_getsOf ∈ lw_w := tw (tb_6 (List.mem_of_getElem? (i := 85) rfl)) rfl
theorem hI_X11_getsOf : Cond.instanceMethod yX11_getsOf ∈ lw_w := tw (tb_6 (List.mem_of_getElem? (i := 87) rfl)) rfl
theorem hC_X11_getsOf : Cond.code yX11_getsOf cX11_getsOf 4 (some .int) ∈ lw_w := tw (tb_6 (List.mem_of_getElem? (i := 88) rfl)) rfl
theorem hM_L_92 : Cond.methodLink RL 92 yX11_wage ∈ lw_w := tw (tb_6 (List.mem_of_getElem? (i := 89) rfl)) rfl
theorem hI_X11_wage : Cond.instanceMethod yX11_wage ∈ lw_w := tw (tb_6 (List.mem_of_getElem? (i := 90) rfl)) rfl
theorem hS_X11_wage : Cond.selects RX11 yX11_wage yX11_wage ∈ lw_w := tw (tb_6 (List.mem_of_getElem? (i := 91) rfl)) rfl
theorem hC_X11_wage : Cond.code yX11_wage cX11_wage 2 (some .int) ∈ lw_w := tw (tb_6 (List.mem_of_getElem? (i := 92) rfl)) rfl
theorem hM_X11_232 : Cond.methodLink RX11 232 yX11_wageOf ∈ lw_w := tw (tb_6 (List.mem_of_getElem? (i := 93) rfl)) rfl
theorem hI_X11_wageOf : Cond.instanceMethod yX11_wageOf ∈ lw_w := tw (tb_6 (List.mem_of_getElem? (i := 95) rfl)) rfl
theorem hC_X11_wageOf : Cond.code yX11_wageOf cX11_wageOf 3 (some .int) ∈ lw_w := tw (tb_6 (List.mem_of_getElem? (i := 96) rfl)) rfl
theorem hM_L_96 : Cond.methodLink RL 96 yX11_ask ∈ lw_w := tw (tb_6 (List.mem_of_getElem? (i := 97) rfl)) rfl
theorem hI_X11_ask : Cond.instanceMethod yX11_ask ∈ lw_w := tw (tb_6 (List.mem_of_getElem? (i := 98) rfl)) rfl
theorem hS_X11_ask : Cond.selects RX11 yX11_ask yX11_ask ∈ lw_w := tw (tb_6 (List.mem_of_getElem? (i := 99) rfl)) rfl
theorem hC_X11_ask : Cond.code yX11_ask cX11_ask 3 (some .int) ∈ lw_w := tw (tb_6 (List.mem_of_getElem? (i := 100) rfl)) rfl
theorem hM_X11_239 : Cond.methodLink RX11 239 yX11_askOf ∈ lw_w := tw (tb_6 (List.mem_of_getElem? (i := 101) rfl)) rfl
theorem hI_X11_askOf : Cond.instanceMethod yX11_askOf ∈ lw_w := tw (tb_6 (List.mem_of_getElem? (i := 103) rfl)) rfl
theorem hC_X11_askOf : Cond.code yX11_askOf cX11_askOf 5 (some .int) ∈ lw_w := tw (tb_6 (List.mem_of_getElem? (i := 104) rfl)) rfl
theorem hM_X11_235 : Cond.methodLink RX11 235 yX11_asks ∈ lw_w := tw (tb_6 (List.mem_of_getElem? (i := 105) rfl)) rfl
theorem hI_X11_asks : Cond.instanceMethod yX11_asks ∈ lw_w := tw (tb_6 (List.mem_of_getElem? (i := 107) rfl)) rfl
theorem hC_X11_asks : Cond.code yX11_asks cX11_asks 4 none ∈ lw_w := tw (tb_6 (List.mem_of_getElem? (i := 108) rfl)) rfl
theorem hM_L_100 : Cond.methodLink RL 100 yX11_best ∈ lw_w := tw (tb_6 (List.mem_of_getElem? (i := 109) rfl)) rfl
theorem hI_X11_best : Cond.instanceMethod yX11_best ∈ lw_w := tw (tb_6 (List.mem_of_getElem? (i := 110) rfl)) rfl
theorem hS_X11_best : Cond.selects RX11 yX11_best yX11_best ∈ lw_w := tw (tb_6 (List.mem_of_getElem? (i := 111) rfl)) rfl
theorem hC_X11_best : Cond.code yX11_best cX11_best 3 (some .int) ∈ lw_w := tw (tb_6 (List.mem_of_getElem? (i := 112) rfl)) rfl
theorem hM_X11_248 : Cond.methodLink RX11 248 yX11_findBest ∈ lw_w := tw (tb_6 (List.mem_of_getElem? (i := 113) rfl)) rfl
theorem hI_X11_findBest : Cond.instanceMethod yX11_findBest ∈ lw_w := tw (tb_6 (List.mem_of_getElem? (i := 115) rfl)) rfl
theorem hC_X11_findBest : Cond.code yX11_findBest cX11_findBest 5 none ∈ lw_w := tw (tb_6 (List.mem_of_getElem? (i := 116) rfl)) rfl
theorem hM_L_104 : Cond.methodLink RL 104 yX11_settle ∈ lw_w := tw (tb_6 (List.mem_of_getElem? (i := 117) rfl)) rfl
theorem hI_X11_settle : Cond.instanceMethod yX11_settle ∈ lw_w := tw (tb_6 (List.mem_of_getElem? (i := 118) rfl)) rfl
theorem hS_X11_settle : Cond.selects RX11 yX11_settle yX11_settle ∈ lw_w := tw (tb_6 (List.mem_of_getElem? (i := 119) rfl)) rfl
theorem hC_X11_settle : Cond.code yX11_settle cX11_settle 5 (some .int) ∈ lw_w := tw (tb_6 (List.mem_of_getElem? (i := 120) rfl)) rfl
theorem hK_X11_251 : Cond.constantLong RX11 251 (30) ∈ lw_w := tw (tb_6 (List.mem_of_getElem? (i := 121) rfl)) rfl
theorem hM_X11_253 : Cond.methodLink RX11 253 yX11_changes ∈ lw_w := tw (tb_6 (List.mem_of_getElem? (i := 122) rfl)) rfl
theorem hI_X11_changes : Cond.instanceMethod yX11_changes ∈ lw_w := tw (tb_6 (List.mem_of_getElem? (i := 124) rfl)) rfl
theorem hC_X11_changes : Cond.code yX11_changes cX11_changes 2 (some .boolean) ∈ lw_w := tw (tb_6 (List.mem_of_getElem? (i := 125) rfl)) rfl
theorem hM_L_108 : Cond.methodLink RL 108 yX11_settled ∈ lw_w := tw (tb_6 (List.mem_of_getElem? (i := 126) rfl)) rfl
theorem hI_X11_settled : Cond.instanceMethod yX11_settled ∈ lw_w := tw (tb_6 (List.mem_of_getElem? (i := 127) rfl)) rfl
theorem hS_X11_settled : Cond.selects RX11 yX11_settled yX11_settled ∈ lw_w := tw (tb_6 (List.mem_of_getElem? (i := 128) rfl)) rfl
theorem hC_X11_settled : Cond.code yX11_settled cX11_settled 3 (some .int) ∈ lw_w := tw (tb_6 (List.mem_of_getElem? (i := 129) rfl)) rfl
theorem hM_L_112 : Cond.methodLink RL 112 yX11_feast ∈ lw_w := tw (tb_6 (List.mem_of_getElem? (i := 130) rfl)) rfl
theorem hI_X11_feast : Cond.instanceMethod yX11_feast ∈ lw_w := tw (tb_6 (List.mem_of_getElem? (i := 131) rfl)) rfl
theorem hS_X11_feast : Cond.selects RX11 yX11_feast yX11_feast ∈ lw_w := tw (tb_6 (List.mem_of_getElem? (i := 132) rfl)) rfl
theorem hC_X11_feast : Cond.code yX11_feast cX11_feast 4 (some .int) ∈ lw_w := tw (tb_6 (List.mem_of_getElem? (i := 133) rfl)) rfl
theorem hK_X11_272 : Cond.constantLong RX11 272 (6) ∈ lw_w := tw (tb_6 (List.mem_of_getElem? (i := 134) rfl)) rfl
theorem hK_X11_262 : Cond.constant RX11 262 (99999) ∈ lw_w := tw (tb_6 (List.mem_of_getElem? (i := 135) rfl)) rfl
theorem hM_X11_274 : Cond.methodLink RX11 274 yX11_cheapest ∈ lw_w := tw (tb_6 (List.mem_of_getElem? (i := 136) rfl)) rfl
theorem hI_X11_cheapest : Cond.instanceMethod yX11_cheapest ∈ lw_w := tw (tb_6 (List.mem_of_getElem? (i := 138) rfl)) rfl
theorem hC_X11_cheapest : Cond.code yX11_cheapest cX11_cheapest 5 (some .int) ∈ lw_w := tw (tb_6 (List.mem_of_getElem? (i := 139) rfl)) rfl
theorem hM_X11_266 : Cond.methodLink RX11 266 yX11_bitsOf ∈ lw_w := tw (tb_6 (List.mem_of_getElem? (i := 140) rfl)) rfl
theorem hSt_X11_bitsOf : Cond.static yX11_bitsOf ∈ lw_w := tw (tb_6 (List.mem_of_getElem? (i := 141) rfl)) rfl
theorem hC_X11_bitsOf : Cond.code yX11_bitsOf cX11_bitsOf 3 (some .int) ∈ lw_w := tw (tb_6 (List.mem_of_getElem? (i := 142) rfl)) rfl
theorem hM_X11_269 : Cond.methodLink RX11 269 yX11_isFair ∈ lw_w := tw (tb_6 (List.mem_of_getElem? (i := 143) rfl)) rfl
theorem hI_X11_isFair : Cond.instanceMethod yX11_isFair ∈ lw_w := tw (tb_6 (List.mem_of_getElem? (i := 145) rfl)) rfl
theorem hC_X11_isFair : Cond.code yX11_isFair cX11_isFair 5 (some .boolean) ∈ lw_w := tw (tb_6 (List.mem_of_getElem? (i := 146) rfl)) rfl
theorem hM_X11_256 : Cond.methodLink RX11 256 yX11_noRung ∈ lw_w := tw (tb_6 (List.mem_of_getElem? (i := 147) rfl)) rfl
theorem hI_X11_noRung : Cond.instanceMethod yX11_noRung ∈ lw_w := tw (tb_6 (List.mem_of_getElem? (i := 149) rfl)) rfl
theorem hC_X11_noRung : Cond.code yX11_noRung cX11_noRung 2 none ∈ lw_w := tw (tb_6 (List.mem_of_getElem? (i := 150) rfl)) rfl
theorem hM_L_117 : Cond.methodLink RL 117 yX11_fair ∈ lw_w := tw (tb_6 (List.mem_of_getElem? (i := 151) rfl)) rfl
theorem hI_X11_fair : Cond.instanceMethod yX11_fair ∈ lw_w := tw (tb_6 (List.mem_of_getElem? (i := 152) rfl)) rfl
theorem hS_X11_fair : Cond.selects RX11 yX11_fair yX11_fair ∈ lw_w := tw (tb_6 (List.mem_of_getElem? (i := 153) rfl)) rfl
theorem hC_X11_fair : Cond.code yX11_fair cX11_fair 5 (some .int) ∈ lw_w := tw (tb_6 (List.mem_of_getElem? (i := 154) rfl)) rfl
theorem hK_X11_277 : Cond.constantLong RX11 277 (72) ∈ lw_w := tw (tb_6 (List.mem_of_getElem? (i := 155) rfl)) rfl
theorem hM_L_121 : Cond.methodLink RL 121 yX11_nearest ∈ lw_w := tw (tb_6 (List.mem_of_getElem? (i := 156) rfl)) rfl
theorem hI_X11_nearest : Cond.instanceMethod yX11_nearest ∈ lw_w := tw (tb_6 (List.mem_of_getElem? (i := 157) rfl)) rfl
theorem hS_X11_nearest : Cond.selects RX11 yX11_nearest yX11_nearest ∈ lw_w := tw (tb_6 (List.mem_of_getElem? (i := 158) rfl)) rfl
theorem hC_X11_nearest : Cond.code yX11_nearest cX11_nearest 5 (some .int) ∈ lw_w := tw (tb_6 (List.mem_of_getElem? (i := 159) rfl)) rfl
theorem hM_X11_288 : Cond.methodLink RX11 288 yX11_nearestSum ∈ lw_w := tw (tb_6 (List.mem_of_getElem? (i := 160) rfl)) rfl
theorem hI_X11_nearestSum : Cond.instanceMethod yX11_nearestSum ∈ lw_w := tw (tb_6 (List.mem_of_getElem? (i := 162) rfl)) rfl
theorem hC_X11_nearestSum : Cond.code yX11_nearestSum cX11_nearestSum 8 (some .int) ∈ lw_w := tw (tb_6 (List.mem_of_getElem? (i := 163) rfl)) rfl
theorem hM_X11_282 : Cond.methodLink RX11 282 yX11_restOf ∈ lw_w := tw (tb_6 (List.mem_of_getElem? (i := 164) rfl)) rfl
theorem hI_X11_restOf : Cond.instanceMethod yX11_restOf ∈ lw_w := tw (tb_6 (List.mem_of_getElem? (i := 166) rfl)) rfl
theorem hC_X11_restOf : Cond.code yX11_restOf cX11_restOf 5 (some .int) ∈ lw_w := tw (tb_6 (List.mem_of_getElem? (i := 167) rfl)) rfl
theorem hM_X11_279 : Cond.methodLink RX11 279 yX11_canFollow ∈ lw_w := tw (tb_6 (List.mem_of_getElem? (i := 168) rfl)) rfl
theorem hI_X11_canFollow : Cond.instanceMethod yX11_canFollow ∈ lw_w := tw (tb_6 (List.mem_of_getElem? (i := 170) rfl)) rfl
theorem hC_X11_canFollow : Cond.code yX11_canFollow cX11_canFollow 3 (some .boolean) ∈ lw_w := tw (tb_6 (List.mem_of_getElem? (i := 171) rfl)) rfl
theorem hM_X11_285 : Cond.methodLink RX11 285 yX11_size ∈ lw_w := tw (tb_6 (List.mem_of_getElem? (i := 172) rfl)) rfl
theorem hSt_X11_size : Cond.static yX11_size ∈ lw_w := tw (tb_6 (List.mem_of_getElem? (i := 173) rfl)) rfl
theorem hC_X11_size : Cond.code yX11_size cX11_size 1 (some .int) ∈ lw_w := tw (tb_6 (List.mem_of_getElem? (i := 174) rfl)) rfl
theorem hM_X11_291 : Cond.methodLink RX11 291 yX11_nearestStroke ∈ lw_w := tw (tb_6 (List.mem_of_getElem? (i := 175) rfl)) rfl
theorem hI_X11_nearestStroke : Cond.instanceMethod yX11_nearestStroke ∈ lw_w := tw (tb_6 (List.mem_of_getElem? (i := 177) rfl)) rfl
theorem hC_X11_nearestStroke : Cond.code yX11_nearestStroke cX11_nearestStroke 8 (some .int) ∈ lw_w := tw (tb_6 (List.mem_of_getElem? (i := 178) rfl)) rfl
theorem hM_L_125 : Cond.methodLink RL 125 yX11_dear ∈ lw_w := tw (tb_6 (List.mem_of_getElem? (i := 179) rfl)) rfl
theorem hI_X11_dear : Cond.instanceMethod yX11_dear ∈ lw_w := tw (tb_6 (List.mem_of_getElem? (i := 180) rfl)) rfl
theorem hS_X11_dear : Cond.selects RX11 yX11_dear yX11_dear ∈ lw_w := tw (tb_6 (List.mem_of_getElem? (i := 181) rfl)) rfl
theorem hC_X11_dear : Cond.code yX11_dear cX11_dear 7 (some .int) ∈ lw_w := tw (tb_6 (List.mem_of_getElem? (i := 182) rfl)) rfl
theorem hM_L_129 : Cond.methodLink RL 129 yX11_storm ∈ lw_w := tw (tb_6 (List.mem_of_getElem? (i := 183) rfl)) rfl
theorem hI_X11_storm : Cond.instanceMethod yX11_storm ∈ lw_w := tw (tb_6 (List.mem_of_getElem? (i := 184) rfl)) rfl
theorem hS_X11_storm : Cond.selects RX11 yX11_storm yX11_storm ∈ lw_w := tw (tb_6 (List.mem_of_getElem? (i := 185) rfl)) rfl
theorem hC_X11_storm : Cond.code yX11_storm cX11_storm 7 (some .int) ∈ lw_w := tw (tb_6 (List.mem_of_getElem? (i := 186) rfl)) rfl
theorem hK_X11_294 : Cond.constant RX11 294 (100000) ∈ lw_w := tw (tb_6 (List.mem_of_getElem? (i := 187) rfl)) rfl
theorem hM_L_133 : Cond.methodLink RL 133 yX11_wine ∈ lw_w := tw (tb_6 (List.mem_of_getElem? (i := 188) rfl)) rfl
theorem hI_X11_wine : Cond.instanceMethod yX11_wine ∈ lw_w := tw (tb_6 (List.mem_of_getElem? (i := 189) rfl)) rfl
theorem hS_X11_wine : Cond.selects RX11 yX11_wine yX11_wine ∈ lw_w := tw (tb_6 (List.mem_of_getElem? (i := 190) rfl)) rfl
theorem hC_X11_wine : Cond.code yX11_wine cX11_wine 9 (some .int) ∈ lw_w := tw (tb_6 (List.mem_of_getElem? (i := 191) rfl)) rfl
theorem hK_X11_295 : Cond.constantLong RX11 295 (999) ∈ lw_w := tw (tb_6 (List.mem_of_getElem? (i := 192) rfl)) rfl
theorem hM_L_137 : Cond.methodLink RL 137 yX11_hear ∈ lw_w := tw (tb_6 (List.mem_of_getElem? (i := 193) rfl)) rfl
theorem hI_X11_hear : Cond.instanceMethod yX11_hear ∈ lw_w := tw (tb_6 (List.mem_of_getElem? (i := 194) rfl)) rfl
theorem hS_X11_hear : Cond.selects RX11 yX11_hear yX11_hear ∈ lw_w := tw (tb_6 (List.mem_of_getElem? (i := 195) rfl)) rfl
theorem hC_X11_hear : Cond.code yX11_hear cX11_hear 2 (some .int) ∈ lw_w := tw (tb_6 (List.mem_of_getElem? (i := 196) rfl)) rfl
theorem hM_L_141 : Cond.methodLink RL 141 yX11_hush ∈ lw_w := tw (tb_6 (List.mem_of_getElem? (i := 197) rfl)) rfl
theorem hI_X11_hush : Cond.instanceMethod yX11_hush ∈ lw_w := tw (tb_6 (List.mem_of_getElem? (i := 198) rfl)) rfl
theorem hS_X11_hush : Cond.selects RX11 yX11_hush yX11_hush ∈ lw_w := tw (tb_6 (List.mem_of_getElem? (i := 199) rfl)) rfl
theorem hC_X11_hush : Cond.code yX11_hush cX11_hush 2 (some .int) ∈ lw_w := tw (tb_6 (List.mem_of_getElem? (i := 200) rfl)) rfl
theorem hM_L_145 : Cond.methodLink RL 145 yX11_fits ∈ lw_w := tw (tb_6 (List.mem_of_getElem? (i := 201) rfl)) rfl
theorem hI_X11_fits : Cond.instanceMethod yX11_fits ∈ lw_w := tw (tb_6 (List.mem_of_getElem? (i := 202) rfl)) rfl
theorem hS_X11_fits : Cond.selects RX11 yX11_fits yX11_fits ∈ lw_w := tw (tb_6 (List.mem_of_getElem? (i := 203) rfl)) rfl
theorem hC_X11_fits : Cond.code yX11_fits cX11_fits 2 (some .int) ∈ lw_w := tw (tb_6 (List.mem_of_getElem? (i := 204) rfl)) rfl
theorem hM_X11_300 : Cond.methodLink RX11 300 yX11_isFit ∈ lw_w := tw (tb_6 (List.mem_of_getElem? (i := 205) rfl)) rfl
theorem hI_X11_isFit : Cond.instanceMethod yX11_isFit ∈ lw_w := tw (tb_6 (List.mem_of_getElem? (i := 207) rfl)) rfl
theorem hC_X11_isFit : Cond.code yX11_isFit cX11_isFit 7 (some .boolean) ∈ lw_w := tw (tb_6 (List.mem_of_getElem? (i := 208) rfl)) rfl
theorem hM_L_149 : Cond.methodLink RL 149 yX11_which ∈ lw_w := tw (tb_6 (List.mem_of_getElem? (i := 209) rfl)) rfl
theorem hI_X11_which : Cond.instanceMethod yX11_which ∈ lw_w := tw (tb_6 (List.mem_of_getElem? (i := 210) rfl)) rfl
theorem hS_X11_which : Cond.selects RX11 yX11_which yX11_which ∈ lw_w := tw (tb_6 (List.mem_of_getElem? (i := 211) rfl)) rfl
theorem hC_X11_which : Cond.code yX11_which cX11_which 7 (some .int) ∈ lw_w := tw (tb_6 (List.mem_of_getElem? (i := 212) rfl)) rfl
theorem hK_X11_303 : Cond.constantLong RX11 303 (3) ∈ lw_w := tw (tb_6 (List.mem_of_getElem? (i := 213) rfl)) rfl
theorem hM_L_153 : Cond.methodLink RL 153 yX11_keep ∈ lw_w := tw (tb_6 (List.mem_of_getElem? (i := 214) rfl)) rfl
theorem hI_X11_keep : Cond.instanceMethod yX11_keep ∈ lw_w := tw (tb_6 (List.mem_of_getElem? (i := 215) rfl)) rfl
theorem hS_X11_keep : Cond.selects RX11 yX11_keep yX11_keep ∈ lw_w := tw (tb_6 (List.mem_of_getElem? (i := 216) rfl)) rfl
theorem hC_X11_keep : Cond.code yX11_keep cX11_keep 3 (some .int) ∈ lw_w := tw (tb_6 (List.mem_of_getElem? (i := 217) rfl)) rfl
theorem hM_X11_305 : Cond.methodLink RX11 305 yX11_copies ∈ lw_w := tw (tb_6 (List.mem_of_getElem? (i := 218) rfl)) rfl
theorem hI_X11_copies : Cond.instanceMethod yX11_copies ∈ lw_w := tw (tb_6 (List.mem_of_getElem? (i := 220) rfl)) rfl
theorem hC_X11_copies : Cond.code yX11_copies cX11_copies 4 none ∈ lw_w := tw (tb_6 (List.mem_of_getElem? (i := 221) rfl)) rfl
theorem hM_L_157 : Cond.methodLink RL 157 yX11_back ∈ lw_w := tw (tb_6 (List.mem_of_getElem? (i := 222) rfl)) rfl
theorem hI_X11_back : Cond.instanceMethod yX11_back ∈ lw_w := tw (tb_6 (List.mem_of_getElem? (i := 223) rfl)) rfl
theorem hS_X11_back : Cond.selects RX11 yX11_back yX11_back ∈ lw_w := tw (tb_6 (List.mem_of_getElem? (i := 224) rfl)) rfl
theorem hC_X11_back : Cond.code yX11_back cX11_back 2 (some .int) ∈ lw_w := tw (tb_6 (List.mem_of_getElem? (i := 225) rfl)) rfl
theorem hM_L_161 : Cond.methodLink RL 161 yX11_sheet ∈ lw_w := tw (tb_6 (List.mem_of_getElem? (i := 226) rfl)) rfl
theorem hI_X11_sheet : Cond.instanceMethod yX11_sheet ∈ lw_w := tw (tb_6 (List.mem_of_getElem? (i := 227) rfl)) rfl
theorem hS_X11_sheet : Cond.selects RX11 yX11_sheet yX11_sheet ∈ lw_w := tw (tb_6 (List.mem_of_getElem? (i := 228) rfl)) rfl
theorem hC_X11_sheet : Cond.code yX11_sheet cX11_sheet 5 (some .int) ∈ lw_w := tw (tb_6 (List.mem_of_getElem? (i := 229) rfl)) rfl
theorem hM_X11_310 : Cond.methodLink RX11 310 yX11_isSheet ∈ lw_w := tw (tb_6 (List.mem_of_getElem? (i := 230) rfl)) rfl
theorem hSt_X11_isSheet : Cond.static yX11_isSheet ∈ lw_w := tw (tb_6 (List.mem_of_getElem? (i := 231) rfl)) rfl
theorem hC_X11_isSheet : Cond.code yX11_isSheet cX11_isSheet 2 (some .boolean) ∈ lw_w := tw (tb_6 (List.mem_of_getElem? (i := 232) rfl)) rfl
theorem hK_X11_308 : Cond.constantLong RX11 308 (2) ∈ lw_w := tw (tb_6 (List.mem_of_getElem? (i := 233) rfl)) rfl
theorem hM_L_165 : Cond.methodLink RL 165 yX11_lay ∈ lw_w := tw (tb_6 (List.mem_of_getElem? (i := 234) rfl)) rfl
theorem hI_X11_lay : Cond.instanceMethod yX11_lay ∈ lw_w := tw (tb_6 (List.mem_of_getElem? (i := 235) rfl)) rfl
theorem hS_X11_lay : Cond.selects RX11 yX11_lay yX11_lay ∈ lw_w := tw (tb_6 (List.mem_of_getElem? (i := 236) rfl)) rfl
theorem hC_X11_lay : Cond.code yX11_lay cX11_lay 4 (some .int) ∈ lw_w := tw (tb_6 (List.mem_of_getElem? (i := 237) rfl)) rfl
theorem hM_L_170 : Cond.methodLink RL 170 yX11_read ∈ lw_w := tw (tb_6 (List.mem_of_getElem? (i := 238) rfl)) rfl
theorem hI_X11_read : Cond.instanceMethod yX11_read ∈ lw_w := tw (tb_6 (List.mem_of_getElem? (i := 239) rfl)) rfl
theorem hS_X11_read : Cond.selects RX11 yX11_read yX11_read ∈ lw_w := tw (tb_7 (List.mem_of_getElem? (i := 0) rfl)) rfl
theorem hC_X11_read : Cond.code yX11_read cX11_read 12 (some .int) ∈ lw_w := tw (tb_7 (List.mem_of_getElem? (i := 1) rfl)) rfl
theorem hK_X11_313 : Cond.constantLong RX11 313 (12) ∈ lw_w := tw (tb_7 (List.mem_of_getElem? (i := 2) rfl)) rfl
theorem hM_X11_315 : Cond.methodLink RX11 315 yX11_hear ∈ lw_w := tw (tb_7 (List.mem_of_getElem? (i := 3) rfl)) rfl
theorem hM_L_174 : Cond.methodLink RL 174 yX11_torn ∈ lw_w := tw (tb_7 (List.mem_of_getElem? (i := 4) rfl)) rfl
theorem hI_X11_torn : Cond.instanceMethod yX11_torn ∈ lw_w := tw (tb_7 (List.mem_of_getElem? (i := 5) rfl)) rfl
theorem hS_X11_torn : Cond.selects RX11 yX11_torn yX11_torn ∈ lw_w := tw (tb_7 (List.mem_of_getElem? (i := 6) rfl)) rfl
theorem hC_X11_torn : Cond.code yX11_torn cX11_torn 1 (some .int) ∈ lw_w := tw (tb_7 (List.mem_of_getElem? (i := 7) rfl)) rfl
theorem hM_L_178 : Cond.methodLink RL 178 yX11_count ∈ lw_w := tw (tb_7 (List.mem_of_getElem? (i := 8) rfl)) rfl
theorem hI_X11_count : Cond.instanceMethod yX11_count ∈ lw_w := tw (tb_7 (List.mem_of_getElem? (i := 9) rfl)) rfl
theorem hS_X11_count : Cond.selects RX11 yX11_count yX11_count ∈ lw_w := tw (tb_7 (List.mem_of_getElem? (i := 10) rfl)) rfl
theorem hC_X11_count : Cond.code yX11_count cX11_count 4 (some .int) ∈ lw_w := tw (tb_7 (List.mem_of_getElem? (i := 11) rfl)) rfl
theorem hK_L_13 : Cond.constantLong RL 13 (4294967295) ∈ lw_w := tw (tb_7 (List.mem_of_getElem? (i := 12) rfl)) rfl
theorem hF_J0_9 : Cond.fieldLink RJ0 9 "java/lang/String" "value" "[B" ∈ lw_w := tw (tb_7 (List.mem_of_getElem? (i := 13) rfl)) rfl
theorem hF_J0_15 : Cond.fieldLink RJ0 15 "java/lang/String" "coder" "B" ∈ lw_w := tw (tb_7 (List.mem_of_getElem? (i := 14) rfl)) rfl
theorem hS_X5_advance : Cond.selects RX5 yX5_advance yX5_advance ∈ lw_w := tw (List.mem_append_left _ (List.mem_of_getElem? (i := 0) rfl)) rfl
theorem hS_X5_refuse : Cond.selects RX5 yX5_refuse yX5_refuse ∈ lw_w := tw (List.mem_append_left _ (List.mem_of_getElem? (i := 1) rfl)) rfl
theorem hS_X5_readLine : Cond.selects RX5 yX5_readLine yX5_readLine ∈ lw_w := tw (List.mem_append_left _ (List.mem_of_getElem? (i := 2) rfl)) rfl
theorem hS_X5_readHouses : Cond.selects RX5 yX5_readHouses yX5_readHouses ∈ lw_w := tw (List.mem_append_left _ (List.mem_of_getElem? (i := 3) rfl)) rfl
theorem hS_X5_nextNumber : Cond.selects RX5 yX5_nextNumber yX5_nextNumber ∈ lw_w := tw (List.mem_append_left _ (List.mem_of_getElem? (i := 4) rfl)) rfl
theorem hS_X5_faultOfNumber : Cond.selects RX5 yX5_faultOfNumber yX5_faultOfNumber ∈ lw_w := tw (List.mem_append_left _ (List.mem_of_getElem? (i := 5) rfl)) rfl
theorem hS_X5_endLine : Cond.selects RX5 yX5_endLine yX5_endLine ∈ lw_w := tw (List.mem_append_left _ (List.mem_of_getElem? (i := 6) rfl)) rfl
theorem hS_X5_readGap : Cond.selects RX5 yX5_readGap yX5_readGap ∈ lw_w := tw (List.mem_append_left _ (List.mem_of_getElem? (i := 7) rfl)) rfl
theorem hS_X5_readBell : Cond.selects RX5 yX5_readBell yX5_readBell ∈ lw_w := tw (List.mem_append_left _ (List.mem_of_getElem? (i := 8) rfl)) rfl
theorem hS_X5_readWiths : Cond.selects RX5 yX5_readWiths yX5_readWiths ∈ lw_w := tw (List.mem_append_left _ (List.mem_of_getElem? (i := 9) rfl)) rfl
theorem hS_X5_readTune : Cond.selects RX5 yX5_readTune yX5_readTune ∈ lw_w := tw (List.mem_append_left _ (List.mem_of_getElem? (i := 10) rfl)) rfl
theorem hS_X5_readStrokes : Cond.selects RX5 yX5_readStrokes yX5_readStrokes ∈ lw_w := tw (List.mem_append_left _ (List.mem_of_getElem? (i := 11) rfl)) rfl
theorem hS_X5_readFeud : Cond.selects RX5 yX5_readFeud yX5_readFeud ∈ lw_w := tw (List.mem_append_left _ (List.mem_of_getElem? (i := 12) rfl)) rfl
theorem hS_X0_weighTune : Cond.selects RX0 yX0_weighTune yX0_weighTune ∈ lw_w := tw (List.mem_append_left _ (List.mem_of_getElem? (i := 13) rfl)) rfl
theorem hS_X0_setFees : Cond.selects RX0 yX0_setFees yX0_setFees ∈ lw_w := tw (List.mem_append_left _ (List.mem_of_getElem? (i := 14) rfl)) rfl
theorem hS_X2_isWithin : Cond.selects RX2 yX2_isWithin yX2_isWithin ∈ lw_w := tw (List.mem_append_left _ (List.mem_of_getElem? (i := 15) rfl)) rfl
theorem hS_X2_strokesIn : Cond.selects RX2 yX2_strokesIn yX2_strokesIn ∈ lw_w := tw (List.mem_append_left _ (List.mem_of_getElem? (i := 16) rfl)) rfl
theorem hS_X2_costOf : Cond.selects RX2 yX2_costOf yX2_costOf ∈ lw_w := tw (List.mem_append_left _ (List.mem_of_getElem? (i := 17) rfl)) rfl
theorem hS_X4_farFrom : Cond.selects RX4 yX4_farFrom yX4_farFrom ∈ lw_w := tw (List.mem_append_left _ (List.mem_of_getElem? (i := 18) rfl)) rfl
theorem hS_X4_leastBehind : Cond.selects RX4 yX4_leastBehind yX4_leastBehind ∈ lw_w := tw (List.mem_append_left _ (List.mem_of_getElem? (i := 19) rfl)) rfl
theorem hS_X10_pour : Cond.selects RX10 yX10_pour yX10_pour ∈ lw_w := tw (List.mem_append_left _ (List.mem_of_getElem? (i := 20) rfl)) rfl
theorem hS_X3_refusedBy : Cond.selects RX3 yX3_refusedBy yX3_refusedBy ∈ lw_w := tw (List.mem_append_left _ (List.mem_of_getElem? (i := 21) rfl)) rfl
theorem hS_X3_addFitting : Cond.selects RX3 yX3_addFitting yX3_addFitting ∈ lw_w := tw (List.mem_append_left _ (List.mem_of_getElem? (i := 22) rfl)) rfl
theorem hS_X11_firstDraft : Cond.selects RX11 yX11_firstDraft yX11_firstDraft ∈ lw_w := tw (List.mem_append_left _ (List.mem_of_getElem? (i := 23) rfl)) rfl
theorem hS_X11_keepDraft : Cond.selects RX11 yX11_keepDraft yX11_keepDraft ∈ lw_w := tw (List.mem_append_left _ (List.mem_of_getElem? (i := 24) rfl)) rfl
theorem hS_X11_next : Cond.selects RX11 yX11_next yX11_next ∈ lw_w := tw (List.mem_append_left _ (List.mem_of_getElem? (i := 25) rfl)) rfl
theorem hS_X11_look : Cond.selects RX11 yX11_look yX11_look ∈ lw_w := tw (List.mem_append_left _ (List.mem_of_getElem? (i := 26) rfl)) rfl
theorem hS_X11_needs : Cond.selects RX11 yX11_needs yX11_needs ∈ lw_w := tw (List.mem_append_left _ (List.mem_of_getElem? (i := 27) rfl)) rfl
theorem hS_X11_readLine : Cond.selects RX11 yX11_readLine yX11_readLine ∈ lw_w := tw (List.mem_append_left _ (List.mem_of_getElem? (i := 28) rfl)) rfl
theorem hS_X11_nameNow : Cond.selects RX11 yX11_nameNow yX11_nameNow ∈ lw_w := tw (List.mem_append_left _ (List.mem_of_getElem? (i := 29) rfl)) rfl
theorem hS_X11_is : Cond.selects RX11 yX11_is yX11_is ∈ lw_w := tw (List.mem_append_left _ (List.mem_of_getElem? (i := 30) rfl)) rfl
theorem hS_X11_readNumber : Cond.selects RX11 yX11_readNumber yX11_readNumber ∈ lw_w := tw (List.mem_append_left _ (List.mem_of_getElem? (i := 31) rfl)) rfl
theorem hS_X11_looked : Cond.selects RX11 yX11_looked yX11_looked ∈ lw_w := tw (List.mem_append_left _ (List.mem_of_getElem? (i := 32) rfl)) rfl
theorem hS_X11_readBell : Cond.selects RX11 yX11_readBell yX11_readBell ∈ lw_w := tw (List.mem_append_left _ (List.mem_of_getElem? (i := 33) rfl)) rfl
theorem hS_X11_readHouse : Cond.selects RX11 yX11_readHouse yX11_readHouse ∈ lw_w := tw (List.mem_append_left _ (List.mem_of_getElem? (i := 34) rfl)) rfl
theorem hS_X11_withNow : Cond.selects RX11 yX11_withNow yX11_withNow ∈ lw_w := tw (List.mem_append_left _ (List.mem_of_getElem? (i := 35) rfl)) rfl
theorem hS_X11_readTune : Cond.selects RX11 yX11_readTune yX11_readTune ∈ lw_w := tw (List.mem_append_left _ (List.mem_of_getElem? (i := 36) rfl)) rfl
theorem hS_X11_readFeud : Cond.selects RX11 yX11_readFeud yX11_readFeud ∈ lw_w := tw (List.mem_append_left _ (List.mem_of_getElem? (i := 37) rfl)) rfl
theorem hS_X11_isBell : Cond.selects RX11 yX11_isBell yX11_isBell ∈ lw_w := tw (List.mem_append_left _ (List.mem_of_getElem? (i := 38) rfl)) rfl
theorem hS_X11_of : Cond.selects RX11 yX11_of yX11_of ∈ lw_w := tw (List.mem_append_left _ (List.mem_of_getElem? (i := 39) rfl)) rfl
theorem hS_X11_isTune : Cond.selects RX11 yX11_isTune yX11_isTune ∈ lw_w := tw (List.mem_append_left _ (List.mem_of_getElem? (i := 40) rfl)) rfl
theorem hS_X11_strokes : Cond.selects RX11 yX11_strokes yX11_strokes ∈ lw_w := tw (List.mem_append_left _ (List.mem_of_getElem? (i := 41) rfl)) rfl
theorem hS_X11_stroke : Cond.selects RX11 yX11_stroke yX11_stroke ∈ lw_w := tw (List.mem_append_left _ (List.mem_of_getElem? (i := 42) rfl)) rfl
theorem hS_X11_isHouse : Cond.selects RX11 yX11_isHouse yX11_isHouse ∈ lw_w := tw (List.mem_append_left _ (List.mem_of_getElem? (i := 43) rfl)) rfl
theorem hS_X11_isFeud : Cond.selects RX11 yX11_isFeud yX11_isFeud ∈ lw_w := tw (List.mem_append_left _ (List.mem_of_getElem? (i := 44) rfl)) rfl
theorem hS_X11_setsFeud : Cond.selects RX11 yX11_setsFeud yX11_setsFeud ∈ lw_w := tw (List.mem_append_left _ (List.mem_of_getElem? (i := 45) rfl)) rfl
theorem hS_X11_valueOf : Cond.selects RX11 yX11_valueOf yX11_valueOf ∈ lw_w := tw (List.mem_append_left _ (List.mem_of_getElem? (i := 46) rfl)) rfl
theorem hS_X11_rings : Cond.selects RX11 yX11_rings yX11_rings ∈ lw_w := tw (List.mem_append_left _ (List.mem_of_getElem? (i := 47) rfl)) rfl
theorem hS_X11_takenNow : Cond.selects RX11 yX11_takenNow yX11_takenNow ∈ lw_w := tw (List.mem_append_left _ (List.mem_of_getElem? (i := 48) rfl)) rfl
theorem hS_X11_getsNow : Cond.selects RX11 yX11_getsNow yX11_getsNow ∈ lw_w := tw (List.mem_append_left _ (List.mem_of_getElem? (i := 49) rfl)) rfl
theorem hS_X11_getsOf : Cond.selects RX11 yX11_getsOf yX11_getsOf ∈ lw_w := tw (List.mem_append_left _ (List.mem_of_getElem? (i := 50) rfl)) rfl
theorem hS_X11_wageOf : Cond.selects RX11 yX11_wageOf yX11_wageOf ∈ lw_w := tw (List.mem_append_left _ (List.mem_of_getElem? (i := 51) rfl)) rfl
theorem hS_X11_askOf : Cond.selects RX11 yX11_askOf yX11_askOf ∈ lw_w := tw (List.mem_append_left _ (List.mem_of_getElem? (i := 52) rfl)) rfl
theorem hS_X11_asks : Cond.selects RX11 yX11_asks yX11_asks ∈ lw_w := tw (List.mem_append_left _ (List.mem_of_getElem? (i := 53) rfl)) rfl
theorem hS_X11_findBest : Cond.selects RX11 yX11_findBest yX11_findBest ∈ lw_w := tw (List.mem_append_left _ (List.mem_of_getElem? (i := 54) rfl)) rfl
theorem hS_X11_changes : Cond.selects RX11 yX11_changes yX11_changes ∈ lw_w := tw (List.mem_append_left _ (List.mem_of_getElem? (i := 55) rfl)) rfl
theorem hS_X11_cheapest : Cond.selects RX11 yX11_cheapest yX11_cheapest ∈ lw_w := tw (List.mem_append_left _ (List.mem_of_getElem? (i := 56) rfl)) rfl
theorem hS_X11_isFair : Cond.selects RX11 yX11_isFair yX11_isFair ∈ lw_w := tw (List.mem_append_left _ (List.mem_of_getElem? (i := 57) rfl)) rfl
theorem hS_X11_noRung : Cond.selects RX11 yX11_noRung yX11_noRung ∈ lw_w := tw (List.mem_append_left _ (List.mem_of_getElem? (i := 58) rfl)) rfl
theorem hS_X11_nearestSum : Cond.selects RX11 yX11_nearestSum yX11_nearestSum ∈ lw_w := tw (List.mem_append_left _ (List.mem_of_getElem? (i := 59) rfl)) rfl
theorem hS_X11_restOf : Cond.selects RX11 yX11_restOf yX11_restOf ∈ lw_w := tw (List.mem_append_left _ (List.mem_of_getElem? (i := 60) rfl)) rfl
theorem hS_X11_canFollow : Cond.selects RX11 yX11_canFollow yX11_canFollow ∈ lw_w := tw (List.mem_append_left _ (List.mem_of_getElem? (i := 61) rfl)) rfl
theorem hS_X11_nearestStroke : Cond.selects RX11 yX11_nearestStroke yX11_nearestStroke ∈ lw_w := tw (List.mem_append_left _ (List.mem_of_getElem? (i := 62) rfl)) rfl
theorem hS_X11_isFit : Cond.selects RX11 yX11_isFit yX11_isFit ∈ lw_w := tw (List.mem_append_left _ (List.mem_of_getElem? (i := 63) rfl)) rfl
theorem hS_X11_copies : Cond.selects RX11 yX11_copies yX11_copies ∈ lw_w := tw (List.mem_append_left _ (List.mem_of_getElem? (i := 64) rfl)) rfl
theorem hin_X0 : ∀ w ∈ u_ws RX0 TX0 9, w ∈ lw_w := by
  intro w hw
  obtain ⟨k, hk, rfl⟩ := List.mem_map.mp hw
  have hk := List.mem_range.mp hk
  match k, hk with
  | 0, _ => exact tw (tb_2 (List.mem_of_getElem? (i := 36) rfl)) rfl
  | 1, _ => exact tw (tb_2 (List.mem_of_getElem? (i := 38) rfl)) rfl
  | 2, _ => exact tw (tb_2 (List.mem_of_getElem? (i := 40) rfl)) rfl
  | 3, _ => exact tw (tb_2 (List.mem_of_getElem? (i := 42) rfl)) rfl
  | 4, _ => exact tw (tb_2 (List.mem_of_getElem? (i := 44) rfl)) rfl
  | 5, _ => exact tw (tb_2 (List.mem_of_getElem? (i := 46) rfl)) rfl
  | 6, _ => exact tw (tb_2 (List.mem_of_getElem? (i := 48) rfl)) rfl
  | 7, _ => exact tw (tb_2 (List.mem_of_getElem? (i := 50) rfl)) rfl
  | 8, _ => exact tw (tb_2 (List.mem_of_getElem? (i := 52) rfl)) rfl
  | k + 9, hk => exact absurd hk (by omega)
theorem hin_X1 : ∀ w ∈ u_ws RX1 TX1 9, w ∈ lw_w := by
  intro w hw
  obtain ⟨k, hk, rfl⟩ := List.mem_map.mp hw
  have hk := List.mem_range.mp hk
  match k, hk with
  | 0, _ => exact tw (tb_1 (List.mem_of_getElem? (i := 121) rfl)) rfl
  | 1, _ => exact tw (tb_1 (List.mem_of_getElem? (i := 123) rfl)) rfl
  | 2, _ => exact tw (tb_1 (List.mem_of_getElem? (i := 125) rfl)) rfl
  | 3, _ => exact tw (tb_1 (List.mem_of_getElem? (i := 127) rfl)) rfl
  | 4, _ => exact tw (tb_1 (List.mem_of_getElem? (i := 129) rfl)) rfl
  | 5, _ => exact tw (tb_1 (List.mem_of_getElem? (i := 131) rfl)) rfl
  | 6, _ => exact tw (tb_1 (List.mem_of_getElem? (i := 133) rfl)) rfl
  | 7, _ => exact tw (tb_1 (List.mem_of_getElem? (i := 135) rfl)) rfl
  | 8, _ => exact tw (tb_1 (List.mem_of_getElem? (i := 137) rfl)) rfl
  | k + 9, hk => exact absurd hk (by omega)
theorem hin_X2 : ∀ w ∈ u_ws RX2 TX2 6, w ∈ lw_w := by
  intro w hw
  obtain ⟨k, hk, rfl⟩ := List.mem_map.mp hw
  have hk := List.mem_range.mp hk
  match k, hk with
  | 0, _ => exact tw (tb_2 (List.mem_of_getElem? (i := 70) rfl)) rfl
  | 1, _ => exact tw (tb_2 (List.mem_of_getElem? (i := 72) rfl)) rfl
  | 2, _ => exact tw (tb_2 (List.mem_of_getElem? (i := 74) rfl)) rfl
  | 3, _ => exact tw (tb_2 (List.mem_of_getElem? (i := 76) rfl)) rfl
  | 4, _ => exact tw (tb_2 (List.mem_of_getElem? (i := 78) rfl)) rfl
  | 5, _ => exact tw (tb_2 (List.mem_of_getElem? (i := 80) rfl)) rfl
  | k + 6, hk => exact absurd hk (by omega)
theorem hin_X3 : ∀ w ∈ u_ws RX3 TX3 6, w ∈ lw_w := by
  intro w hw
  obtain ⟨k, hk, rfl⟩ := List.mem_map.mp hw
  have hk := List.mem_range.mp hk
  match k, hk with
  | 0, _ => exact tw (tb_2 (List.mem_of_getElem? (i := 124) rfl)) rfl
  | 1, _ => exact tw (tb_2 (List.mem_of_getElem? (i := 126) rfl)) rfl
  | 2, _ => exact tw (tb_2 (List.mem_of_getElem? (i := 128) rfl)) rfl
  | 3, _ => exact tw (tb_2 (List.mem_of_getElem? (i := 130) rfl)) rfl
  | 4, _ => exact tw (tb_2 (List.mem_of_getElem? (i := 132) rfl)) rfl
  | 5, _ => exact tw (tb_2 (List.mem_of_getElem? (i := 134) rfl)) rfl
  | k + 6, hk => exact absurd hk (by omega)
theorem hin_X4 : ∀ w ∈ u_ws RX4 TX4 5, w ∈ lw_w := by
  intro w hw
  obtain ⟨k, hk, rfl⟩ := List.mem_map.mp hw
  have hk := List.mem_range.mp hk
  match k, hk with
  | 0, _ => exact tw (tb_2 (List.mem_of_getElem? (i := 97) rfl)) rfl
  | 1, _ => exact tw (tb_2 (List.mem_of_getElem? (i := 99) rfl)) rfl
  | 2, _ => exact tw (tb_2 (List.mem_of_getElem? (i := 101) rfl)) rfl
  | 3, _ => exact tw (tb_2 (List.mem_of_getElem? (i := 103) rfl)) rfl
  | 4, _ => exact tw (tb_2 (List.mem_of_getElem? (i := 105) rfl)) rfl
  | k + 5, hk => exact absurd hk (by omega)
theorem hin_X5 : ∀ w ∈ u_ws RX5 TX5 7, w ∈ lw_w := by
  intro w hw
  obtain ⟨k, hk, rfl⟩ := List.mem_map.mp hw
  have hk := List.mem_range.mp hk
  match k, hk with
  | 0, _ => exact tw (tb_1 (List.mem_of_getElem? (i := 211) rfl)) rfl
  | 1, _ => exact tw (tb_1 (List.mem_of_getElem? (i := 213) rfl)) rfl
  | 2, _ => exact tw (tb_1 (List.mem_of_getElem? (i := 215) rfl)) rfl
  | 3, _ => exact tw (tb_1 (List.mem_of_getElem? (i := 217) rfl)) rfl
  | 4, _ => exact tw (tb_1 (List.mem_of_getElem? (i := 219) rfl)) rfl
  | 5, _ => exact tw (tb_1 (List.mem_of_getElem? (i := 221) rfl)) rfl
  | 6, _ => exact tw (tb_1 (List.mem_of_getElem? (i := 223) rfl)) rfl
  | k + 7, hk => exact absurd hk (by omega)
theorem hin_X6 : ∀ w ∈ u_ws RX6 TX6 6, w ∈ lw_w := by
  intro w hw
  obtain ⟨k, hk, rfl⟩ := List.mem_map.mp hw
  have hk := List.mem_range.mp hk
  match k, hk with
  | 0, _ => exact tw (tb_2 (List.mem_of_getElem? (i := 6) rfl)) rfl
  | 1, _ => exact tw (tb_2 (List.mem_of_getElem? (i := 8) rfl)) rfl
  | 2, _ => exact tw (tb_2 (List.mem_of_getElem? (i := 10) rfl)) rfl
  | 3, _ => exact tw (tb_2 (List.mem_of_getElem? (i := 12) rfl)) rfl
  | 4, _ => exact tw (tb_2 (List.mem_of_getElem? (i := 14) rfl)) rfl
  | 5, _ => exact tw (tb_2 (List.mem_of_getElem? (i := 16) rfl)) rfl
  | k + 6, hk => exact absurd hk (by omega)
theorem hin_X7 : ∀ w ∈ u_ws RX7 TX7 3, w ∈ lw_w := by
  intro w hw
  obtain ⟨k, hk, rfl⟩ := List.mem_map.mp hw
  have hk := List.mem_range.mp hk
  match k, hk with
  | 0, _ => exact tw (tb_2 (List.mem_of_getElem? (i := 153) rfl)) rfl
  | 1, _ => exact tw (tb_2 (List.mem_of_getElem? (i := 155) rfl)) rfl
  | 2, _ => exact tw (tb_2 (List.mem_of_getElem? (i := 157) rfl)) rfl
  | k + 3, hk => exact absurd hk (by omega)
theorem hin_X8 : ∀ w ∈ u_ws RX8 TX8 6, w ∈ lw_w := by
  intro w hw
  obtain ⟨k, hk, rfl⟩ := List.mem_map.mp hw
  have hk := List.mem_range.mp hk
  match k, hk with
  | 0, _ => exact tw (tb_1 (List.mem_of_getElem? (i := 45) rfl)) rfl
  | 1, _ => exact tw (tb_1 (List.mem_of_getElem? (i := 47) rfl)) rfl
  | 2, _ => exact tw (tb_1 (List.mem_of_getElem? (i := 49) rfl)) rfl
  | 3, _ => exact tw (tb_1 (List.mem_of_getElem? (i := 51) rfl)) rfl
  | 4, _ => exact tw (tb_1 (List.mem_of_getElem? (i := 53) rfl)) rfl
  | 5, _ => exact tw (tb_1 (List.mem_of_getElem? (i := 55) rfl)) rfl
  | k + 6, hk => exact absurd hk (by omega)
theorem hin_X9 : ∀ w ∈ u_ws RX9 TX9 7, w ∈ lw_w := by
  intro w hw
  obtain ⟨k, hk, rfl⟩ := List.mem_map.mp hw
  have hk := List.mem_range.mp hk
  match k, hk with
  | 0, _ => exact tw (tb_1 (List.mem_of_getElem? (i := 185) rfl)) rfl
  | 1, _ => exact tw (tb_1 (List.mem_of_getElem? (i := 187) rfl)) rfl
  | 2, _ => exact tw (tb_1 (List.mem_of_getElem? (i := 189) rfl)) rfl
  | 3, _ => exact tw (tb_1 (List.mem_of_getElem? (i := 191) rfl)) rfl
  | 4, _ => exact tw (tb_1 (List.mem_of_getElem? (i := 193) rfl)) rfl
  | 5, _ => exact tw (tb_1 (List.mem_of_getElem? (i := 195) rfl)) rfl
  | 6, _ => exact tw (tb_1 (List.mem_of_getElem? (i := 197) rfl)) rfl
  | k + 7, hk => exact absurd hk (by omega)
theorem hin_X10 : ∀ w ∈ u_ws RX10 TX10 13, w ∈ lw_w := by
  intro w hw
  obtain ⟨k, hk, rfl⟩ := List.mem_map.mp hw
  have hk := List.mem_range.mp hk
  match k, hk with
  | 0, _ => exact tw (tb_2 (List.mem_of_getElem? (i := 174) rfl)) rfl
  | 1, _ => exact tw (tb_2 (List.mem_of_getElem? (i := 176) rfl)) rfl
  | 2, _ => exact tw (tb_2 (List.mem_of_getElem? (i := 178) rfl)) rfl
  | 3, _ => exact tw (tb_2 (List.mem_of_getElem? (i := 180) rfl)) rfl
  | 4, _ => exact tw (tb_2 (List.mem_of_getElem? (i := 182) rfl)) rfl
  | 5, _ => exact tw (tb_2 (List.mem_of_getElem? (i := 184) rfl)) rfl
  | 6, _ => exact tw (tb_2 (List.mem_of_getElem? (i := 186) rfl)) rfl
  | 7, _ => exact tw (tb_2 (List.mem_of_getElem? (i := 188) rfl)) rfl
  | 8, _ => exact tw (tb_2 (List.mem_of_getElem? (i := 190) rfl)) rfl
  | 9, _ => exact tw (tb_2 (List.mem_of_getElem? (i := 192) rfl)) rfl
  | 10, _ => exact tw (tb_2 (List.mem_of_getElem? (i := 194) rfl)) rfl
  | 11, _ => exact tw (tb_2 (List.mem_of_getElem? (i := 196) rfl)) rfl
  | 12, _ => exact tw (tb_2 (List.mem_of_getElem? (i := 198) rfl)) rfl
  | k + 13, hk => exact absurd hk (by omega)
theorem hin_X11 : ∀ w ∈ u_ws RX11 TX11 40, w ∈ lw_w := by
  intro w hw
  obtain ⟨k, hk, rfl⟩ := List.mem_map.mp hw
  have hk := List.mem_range.mp hk
  match k, hk with
  | 0, _ => exact tw (tb_5 (List.mem_of_getElem? (i := 61) rfl)) rfl
  | 1, _ => exact tw (tb_5 (List.mem_of_getElem? (i := 63) rfl)) rfl
  | 2, _ => exact tw (tb_5 (List.mem_of_getElem? (i := 65) rfl)) rfl
  | 3, _ => exact tw (tb_5 (List.mem_of_getElem? (i := 67) rfl)) rfl
  | 4, _ => exact tw (tb_5 (List.mem_of_getElem? (i := 69) rfl)) rfl
  | 5, _ => exact tw (tb_5 (List.mem_of_getElem? (i := 71) rfl)) rfl
  | 6, _ => exact tw (tb_5 (List.mem_of_getElem? (i := 73) rfl)) rfl
  | 7, _ => exact tw (tb_5 (List.mem_of_getElem? (i := 75) rfl)) rfl
  | 8, _ => exact tw (tb_5 (List.mem_of_getElem? (i := 77) rfl)) rfl
  | 9, _ => exact tw (tb_5 (List.mem_of_getElem? (i := 79) rfl)) rfl
  | 10, _ => exact tw (tb_5 (List.mem_of_getElem? (i := 81) rfl)) rfl
  | 11, _ => exact tw (tb_5 (List.mem_of_getElem? (i := 83) rfl)) rfl
  | 12, _ => exact tw (tb_5 (List.mem_of_getElem? (i := 85) rfl)) rfl
  | 13, _ => exact tw (tb_5 (List.mem_of_getElem? (i := 87) rfl)) rfl
  | 14, _ => exact tw (tb_5 (List.mem_of_getElem? (i := 89) rfl)) rfl
  | 15, _ => exact tw (tb_5 (List.mem_of_getElem? (i := 91) rfl)) rfl
  | 16, _ => exact tw (tb_5 (List.mem_of_getElem? (i := 93) rfl)) rfl
  | 17, _ => exact tw (tb_5 (List.mem_of_getElem? (i := 95) rfl)) rfl
  | 18, _ => exact tw (tb_5 (List.mem_of_getElem? (i := 97) rfl)) rfl
  | 19, _ => exact tw (tb_5 (List.mem_of_getElem? (i := 99) rfl)) rfl
  | 20, _ => exact tw (tb_5 (List.mem_of_getElem? (i := 101) rfl)) rfl
  | 21, _ => exact tw (tb_5 (List.mem_of_getElem? (i := 103) rfl)) rfl
  | 22, _ => exact tw (tb_5 (List.mem_of_getElem? (i := 105) rfl)) rfl
  | 23, _ => exact tw (tb_5 (List.mem_of_getElem? (i := 107) rfl)) rfl
  | 24, _ => exact tw (tb_5 (List.mem_of_getElem? (i := 109) rfl)) rfl
  | 25, _ => exact tw (tb_5 (List.mem_of_getElem? (i := 111) rfl)) rfl
  | 26, _ => exact tw (tb_5 (List.mem_of_getElem? (i := 113) rfl)) rfl
  | 27, _ => exact tw (tb_5 (List.mem_of_getElem? (i := 115) rfl)) rfl
  | 28, _ => exact tw (tb_5 (List.mem_of_getElem? (i := 117) rfl)) rfl
  | 29, _ => exact tw (tb_5 (List.mem_of_getElem? (i := 119) rfl)) rfl
  | 30, _ => exact tw (tb_5 (List.mem_of_getElem? (i := 121) rfl)) rfl
  | 31, _ => exact tw (tb_5 (List.mem_of_getElem? (i := 123) rfl)) rfl
  | 32, _ => exact tw (tb_5 (List.mem_of_getElem? (i := 125) rfl)) rfl
  | 33, _ => exact tw (tb_5 (List.mem_of_getElem? (i := 127) rfl)) rfl
  | 34, _ => exact tw (tb_5 (List.mem_of_getElem? (i := 129) rfl)) rfl
  | 35, _ => exact tw (tb_5 (List.mem_of_getElem? (i := 131) rfl)) rfl
  | 36, _ => exact tw (tb_5 (List.mem_of_getElem? (i := 133) rfl)) rfl
  | 37, _ => exact tw (tb_5 (List.mem_of_getElem? (i := 135) rfl)) rfl
  | 38, _ => exact tw (tb_5 (List.mem_of_getElem? (i := 137) rfl)) rfl
  | 39, _ => exact tw (tb_5 (List.mem_of_getElem? (i := 139) rfl)) rfl
  | k + 40, hk => exact absurd hk (by omega)
