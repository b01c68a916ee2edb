set_option maxRecDepth 100000 in
theorem dg_cX11_init_0 : (decode cX11_init 0 = .ok (.aload_n 0, 1)) ∧ (decode cX11_init 1 = .ok (.invokespecial 1, 3)) ∧ (decode cX11_init 4 = .ok (.aload_n 0, 1)) ∧ (decode cX11_init 5 = .ok (.sipush 240, 3)) ∧ (decode cX11_init 8 = .ok (.newarray .int, 2)) ∧ (decode cX11_init 10 = .ok (.putfield 7, 3)) ∧ (decode cX11_init 13 = .ok (.aload_n 0, 1)) ∧ (decode cX11_init 14 = .ok (.iconst 2, 1)) ∧ (decode cX11_init 15 = .ok (.newarray .boolean, 2)) ∧ (decode cX11_init 17 = .ok (.putfield 13, 3)) ∧ (decode cX11_init 20 = .ok (.aload_n 0, 1)) ∧ (decode cX11_init 21 = .ok (.bipush 84, 2)) ∧ (decode cX11_init 23 = .ok (.newarray .int, 2)) ∧ (decode cX11_init 25 = .ok (.putfield 17, 3)) ∧ (decode cX11_init 28 = .ok (.aload_n 0, 1)) ∧ (decode cX11_init 29 = .ok (.bipush 80, 2)) := by decide +kernel
theorem dX11_init_0 : decode cX11_init 0 = .ok (.aload_n 0, 1) := dg_cX11_init_0.1
theorem dX11_init_1 : decode cX11_init 1 = .ok (.invokespecial 1, 3) := dg_cX11_init_0.2.1
theorem dX11_init_4 : decode cX11_init 4 = .ok (.aload_n 0, 1) := dg_cX11_init_0.2.2.1
theorem dX11_init_5 : decode cX11_init 5 = .ok (.sipush 240, 3) := dg_cX11_init_0.2.2.2.1
theorem dX11_init_8 : decode cX11_init 8 = .ok (.newarray .int, 2) := dg_cX11_init_0.2.2.2.2.1
theorem dX11_init_10 : decode cX11_init 10 = .ok (.putfield 7, 3) := dg_cX11_init_0.2.2.2.2.2.1
theorem dX11_init_13 : decode cX11_init 13 = .ok (.aload_n 0, 1) := dg_cX11_init_0.2.2.2.2.2.2.1
theorem dX11_init_14 : decode cX11_init 14 = .ok (.iconst 2, 1) := dg_cX11_init_0.2.2.2.2.2.2.2.1
theorem dX11_init_15 : decode cX11_init 15 = .ok (.newarray .boolean, 2) := dg_cX11_init_0.2.2.2.2.2.2.2.2.1
theorem dX11_init_17 : decode cX11_init 17 = .ok (.putfield 13, 3) := dg_cX11_init_0.2.2.2.2.2.2.2.2.2.1
theorem dX11_init_20 : decode cX11_init 20 = .ok (.aload_n 0, 1) := dg_cX11_init_0.2.2.2.2.2.2.2.2.2.2.1
theorem dX11_init_21 : decode cX11_init 21 = .ok (.bipush 84, 2) := dg_cX11_init_0.2.2.2.2.2.2.2.2.2.2.2.1
theorem dX11_init_23 : decode cX11_init 23 = .ok (.newarray .int, 2) := dg_cX11_init_0.2.2.2.2.2.2.2.2.2.2.2.2.1
theorem dX11_init_25 : decode cX11_init 25 = .ok (.putfield 17, 3) := dg_cX11_init_0.2.2.2.2.2.2.2.2.2.2.2.2.2.1
theorem dX11_init_28 : decode cX11_init 28 = .ok (.aload_n 0, 1) := dg_cX11_init_0.2.2.2.2.2.2.2.2.2.2.2.2.2.2.1
theorem dX11_init_29 : decode cX11_init 29 = .ok (.bipush 80, 2) := dg_cX11_init_0.2.2.2.2.2.2.2.2.2.2.2.2.2.2.2
set_option maxRecDepth 100000 in
theorem dg_cX11_init_1 : (decode cX11_init 31 = .ok (.newarray .int, 2)) ∧ (decode cX11_init 33 = .ok (.putfield 20, 3)) ∧ (decode cX11_init 36 = .ok (.aload_n 0, 1)) ∧ (decode cX11_init 37 = .ok (.bipush 84, 2)) ∧ (decode cX11_init 39 = .ok (.newarray .int, 2)) ∧ (decode cX11_init 41 = .ok (.putfield 23, 3)) ∧ (decode cX11_init 44 = .ok (.aload_n 0, 1)) ∧ (decode cX11_init 45 = .ok (.sipush 320, 3)) ∧ (decode cX11_init 48 = .ok (.newarray .int, 2)) ∧ (decode cX11_init 50 = .ok (.putfield 26, 3)) ∧ (decode cX11_init 53 = .ok (.aload_n 0, 1)) ∧ (decode cX11_init 54 = .ok (.bipush 6, 2)) ∧ (decode cX11_init 56 = .ok (.newarray .int, 2)) ∧ (decode cX11_init 58 = .ok (.putfield 29, 3)) ∧ (decode cX11_init 61 = .ok (.aload_n 0, 1)) ∧ (decode cX11_init 62 = .ok (.bipush 12, 2)) := by decide +kernel
theorem dX11_init_31 : decode cX11_init 31 = .ok (.newarray .int, 2) := dg_cX11_init_1.1
theorem dX11_init_33 : decode cX11_init 33 = .ok (.putfield 20, 3) := dg_cX11_init_1.2.1
theorem dX11_init_36 : decode cX11_init 36 = .ok (.aload_n 0, 1) := dg_cX11_init_1.2.2.1
theorem dX11_init_37 : decode cX11_init 37 = .ok (.bipush 84, 2) := dg_cX11_init_1.2.2.2.1
theorem dX11_init_39 : decode cX11_init 39 = .ok (.newarray .int, 2) := dg_cX11_init_1.2.2.2.2.1
theorem dX11_init_41 : decode cX11_init 41 = .ok (.putfield 23, 3) := dg_cX11_init_1.2.2.2.2.2.1
theorem dX11_init_44 : decode cX11_init 44 = .ok (.aload_n 0, 1) := dg_cX11_init_1.2.2.2.2.2.2.1
theorem dX11_init_45 : decode cX11_init 45 = .ok (.sipush 320, 3) := dg_cX11_init_1.2.2.2.2.2.2.2.1
theorem dX11_init_48 : decode cX11_init 48 = .ok (.newarray .int, 2) := dg_cX11_init_1.2.2.2.2.2.2.2.2.1
theorem dX11_init_50 : decode cX11_init 50 = .ok (.putfield 26, 3) := dg_cX11_init_1.2.2.2.2.2.2.2.2.2.1
theorem dX11_init_53 : decode cX11_init 53 = .ok (.aload_n 0, 1) := dg_cX11_init_1.2.2.2.2.2.2.2.2.2.2.1
theorem dX11_init_54 : decode cX11_init 54 = .ok (.bipush 6, 2) := dg_cX11_init_1.2.2.2.2.2.2.2.2.2.2.2.1
theorem dX11_init_56 : decode cX11_init 56 = .ok (.newarray .int, 2) := dg_cX11_init_1.2.2.2.2.2.2.2.2.2.2.2.2.1
theorem dX11_init_58 : decode cX11_init 58 = .ok (.putfield 29, 3) := dg_cX11_init_1.2.2.2.2.2.2.2.2.2.2.2.2.2.1
theorem dX11_init_61 : decode cX11_init 61 = .ok (.aload_n 0, 1) := dg_cX11_init_1.2.2.2.2.2.2.2.2.2.2.2.2.2.2.1
theorem dX11_init_62 : decode cX11_init 62 = .ok (.bipush 12, 2) := dg_cX11_init_1.2.2.2.2.2.2.2.2.2.2.2.2.2.2.2
set_option maxRecDepth 100000 in
theorem dg_cX11_init_2 : (decode cX11_init 64 = .ok (.newarray .int, 2)) ∧ (decode cX11_init 66 = .ok (.putfield 32, 3)) ∧ (decode cX11_init 69 = .ok (.aload_n 0, 1)) ∧ (decode cX11_init 70 = .ok (.sipush 156, 3)) ∧ (decode cX11_init 73 = .ok (.newarray .int, 2)) ∧ (decode cX11_init 75 = .ok (.putfield 35, 3)) ∧ (decode cX11_init 78 = .ok (.aload_n 0, 1)) ∧ (decode cX11_init 79 = .ok (.iconst 4, 1)) ∧ (decode cX11_init 80 = .ok (.newarray .int, 2)) ∧ (decode cX11_init 82 = .ok (.putfield 38, 3)) ∧ (decode cX11_init 85 = .ok (.aload_n 0, 1)) ∧ (decode cX11_init 86 = .ok (.iconst 4, 1)) ∧ (decode cX11_init 87 = .ok (.newarray .int, 2)) ∧ (decode cX11_init 89 = .ok (.putfield 41, 3)) ∧ (decode cX11_init 92 = .ok (.aload_n 0, 1)) ∧ (decode cX11_init 93 = .ok (.sipush 160, 3)) := by decide +kernel
theorem dX11_init_64 : decode cX11_init 64 = .ok (.newarray .int, 2) := dg_cX11_init_2.1
theorem dX11_init_66 : decode cX11_init 66 = .ok (.putfield 32, 3) := dg_cX11_init_2.2.1
theorem dX11_init_69 : decode cX11_init 69 = .ok (.aload_n 0, 1) := dg_cX11_init_2.2.2.1
theorem dX11_init_70 : decode cX11_init 70 = .ok (.sipush 156, 3) := dg_cX11_init_2.2.2.2.1
theorem dX11_init_73 : decode cX11_init 73 = .ok (.newarray .int, 2) := dg_cX11_init_2.2.2.2.2.1
theorem dX11_init_75 : decode cX11_init 75 = .ok (.putfield 35, 3) := dg_cX11_init_2.2.2.2.2.2.1
theorem dX11_init_78 : decode cX11_init 78 = .ok (.aload_n 0, 1) := dg_cX11_init_2.2.2.2.2.2.2.1
theorem dX11_init_79 : decode cX11_init 79 = .ok (.iconst 4, 1) := dg_cX11_init_2.2.2.2.2.2.2.2.1
theorem dX11_init_80 : decode cX11_init 80 = .ok (.newarray .int, 2) := dg_cX11_init_2.2.2.2.2.2.2.2.2.1
theorem dX11_init_82 : decode cX11_init 82 = .ok (.putfield 38, 3) := dg_cX11_init_2.2.2.2.2.2.2.2.2.2.1
theorem dX11_init_85 : decode cX11_init 85 = .ok (.aload_n 0, 1) := dg_cX11_init_2.2.2.2.2.2.2.2.2.2.2.1
theorem dX11_init_86 : decode cX11_init 86 = .ok (.iconst 4, 1) := dg_cX11_init_2.2.2.2.2.2.2.2.2.2.2.2.1
theorem dX11_init_87 : decode cX11_init 87 = .ok (.newarray .int, 2) := dg_cX11_init_2.2.2.2.2.2.2.2.2.2.2.2.2.1
theorem dX11_init_89 : decode cX11_init 89 = .ok (.putfield 41, 3) := dg_cX11_init_2.2.2.2.2.2.2.2.2.2.2.2.2.2.1
theorem dX11_init_92 : decode cX11_init 92 = .ok (.aload_n 0, 1) := dg_cX11_init_2.2.2.2.2.2.2.2.2.2.2.2.2.2.2.1
theorem dX11_init_93 : decode cX11_init 93 = .ok (.sipush 160, 3) := dg_cX11_init_2.2.2.2.2.2.2.2.2.2.2.2.2.2.2.2
set_option maxRecDepth 100000 in
theorem dg_cX11_init_3 : (decode cX11_init 96 = .ok (.newarray .int, 2)) ∧ (decode cX11_init 98 = .ok (.putfield 44, 3)) ∧ (decode cX11_init 101 = .ok (.iconst 0, 1)) ∧ (decode cX11_init 102 = .ok (.istore_n 1, 1)) ∧ (decode cX11_init 103 = .ok (.iload_n 1, 1)) ∧ (decode cX11_init 104 = .ok (.iconst 4, 1)) ∧ (decode cX11_init 105 = .ok (.if_icmp .ge 17, 3)) ∧ (decode cX11_init 108 = .ok (.aload_n 0, 1)) ∧ (decode cX11_init 109 = .ok (.getfield 38, 3)) ∧ (decode cX11_init 112 = .ok (.iload_n 1, 1)) ∧ (decode cX11_init 113 = .ok (.bipush (-4), 2)) ∧ (decode cX11_init 115 = .ok (.iastore, 1)) ∧ (decode cX11_init 116 = .ok (.iinc 1 1, 3)) ∧ (decode cX11_init 119 = .ok (.goto (-16), 3)) ∧ (decode cX11_init 122 = .ok (.aload_n 0, 1)) ∧ (decode cX11_init 123 = .ok (.invokevirtual 47, 3)) := by decide +kernel
theorem dX11_init_96 : decode cX11_init 96 = .ok (.newarray .int, 2) := dg_cX11_init_3.1
theorem dX11_init_98 : decode cX11_init 98 = .ok (.putfield 44, 3) := dg_cX11_init_3.2.1
theorem dX11_init_101 : decode cX11_init 101 = .ok (.iconst 0, 1) := dg_cX11_init_3.2.2.1
theorem dX11_init_102 : decode cX11_init 102 = .ok (.istore_n 1, 1) := dg_cX11_init_3.2.2.2.1
theorem dX11_init_103 : decode cX11_init 103 = .ok (.iload_n 1, 1) := dg_cX11_init_3.2.2.2.2.1
theorem dX11_init_104 : decode cX11_init 104 = .ok (.iconst 4, 1) := dg_cX11_init_3.2.2.2.2.2.1
theorem dX11_init_105 : decode cX11_init 105 = .ok (.if_icmp .ge 17, 3) := dg_cX11_init_3.2.2.2.2.2.2.1
theorem dX11_init_108 : decode cX11_init 108 = .ok (.aload_n 0, 1) := dg_cX11_init_3.2.2.2.2.2.2.2.1
theorem dX11_init_109 : decode cX11_init 109 = .ok (.getfield 38, 3) := dg_cX11_init_3.2.2.2.2.2.2.2.2.1
theorem dX11_init_112 : decode cX11_init 112 = .ok (.iload_n 1, 1) := dg_cX11_init_3.2.2.2.2.2.2.2.2.2.1
theorem dX11_init_113 : decode cX11_init 113 = .ok (.bipush (-4), 2) := dg_cX11_init_3.2.2.2.2.2.2.2.2.2.2.1
theorem dX11_init_115 : decode cX11_init 115 = .ok (.iastore, 1) := dg_cX11_init_3.2.2.2.2.2.2.2.2.2.2.2.1
theorem dX11_init_116 : decode cX11_init 116 = .ok (.iinc 1 1, 3) := dg_cX11_init_3.2.2.2.2.2.2.2.2.2.2.2.2.1
theorem dX11_init_119 : decode cX11_init 119 = .ok (.goto (-16), 3) := dg_cX11_init_3.2.2.2.2.2.2.2.2.2.2.2.2.2.1
theorem dX11_init_122 : decode cX11_init 122 = .ok (.aload_n 0, 1) := dg_cX11_init_3.2.2.2.2.2.2.2.2.2.2.2.2.2.2.1
theorem dX11_init_123 : decode cX11_init 123 = .ok (.invokevirtual 47, 3) := dg_cX11_init_3.2.2.2.2.2.2.2.2.2.2.2.2.2.2.2
set_option maxRecDepth 100000 in
theorem dg_cX11_init_4 : (decode cX11_init 126 = .ok (.aload_n 0, 1)) ∧ (decode cX11_init 127 = .ok (.invokevirtual 50, 3)) ∧ (decode cX11_init 130 = .ok (.return_, 1)) := by decide +kernel
theorem dX11_init_126 : decode cX11_init 126 = .ok (.aload_n 0, 1) := dg_cX11_init_4.1
theorem dX11_init_127 : decode cX11_init 127 = .ok (.invokevirtual 50, 3) := dg_cX11_init_4.2.1
theorem dX11_init_130 : decode cX11_init 130 = .ok (.return_, 1) := dg_cX11_init_4.2.2
set_option maxRecDepth 100000 in
theorem dg_cX11_in_5 : (decode cX11_in 0 = .ok (.lload_n 0, 1)) ∧ (decode cX11_in 1 = .ok (.lload_n 2, 1)) ∧ (decode cX11_in 2 = .ok (.lcmp, 1)) ∧ (decode cX11_in 3 = .ok (.ifCond .lt 14, 3)) ∧ (decode cX11_in 6 = .ok (.lload_n 0, 1)) ∧ (decode cX11_in 7 = .ok (.lload 4, 2)) ∧ (decode cX11_in 9 = .ok (.lcmp, 1)) ∧ (decode cX11_in 10 = .ok (.ifCond .gt 7, 3)) ∧ (decode cX11_in 13 = .ok (.iconst 1, 1)) ∧ (decode cX11_in 14 = .ok (.goto 4, 3)) ∧ (decode cX11_in 17 = .ok (.iconst 0, 1)) ∧ (decode cX11_in 18 = .ok (.ireturn, 1)) := by decide +kernel
theorem dX11_in_0 : decode cX11_in 0 = .ok (.lload_n 0, 1) := dg_cX11_in_5.1
theorem dX11_in_1 : decode cX11_in 1 = .ok (.lload_n 2, 1) := dg_cX11_in_5.2.1
theorem dX11_in_2 : decode cX11_in 2 = .ok (.lcmp, 1) := dg_cX11_in_5.2.2.1
theorem dX11_in_3 : decode cX11_in 3 = .ok (.ifCond .lt 14, 3) := dg_cX11_in_5.2.2.2.1
theorem dX11_in_6 : decode cX11_in 6 = .ok (.lload_n 0, 1) := dg_cX11_in_5.2.2.2.2.1
theorem dX11_in_7 : decode cX11_in 7 = .ok (.lload 4, 2) := dg_cX11_in_5.2.2.2.2.2.1
theorem dX11_in_9 : decode cX11_in 9 = .ok (.lcmp, 1) := dg_cX11_in_5.2.2.2.2.2.2.1
theorem dX11_in_10 : decode cX11_in 10 = .ok (.ifCond .gt 7, 3) := dg_cX11_in_5.2.2.2.2.2.2.2.1
theorem dX11_in_13 : decode cX11_in 13 = .ok (.iconst 1, 1) := dg_cX11_in_5.2.2.2.2.2.2.2.2.1
theorem dX11_in_14 : decode cX11_in 14 = .ok (.goto 4, 3) := dg_cX11_in_5.2.2.2.2.2.2.2.2.2.1
theorem dX11_in_17 : decode cX11_in 17 = .ok (.iconst 0, 1) := dg_cX11_in_5.2.2.2.2.2.2.2.2.2.2.1
theorem dX11_in_18 : decode cX11_in 18 = .ok (.ireturn, 1) := dg_cX11_in_5.2.2.2.2.2.2.2.2.2.2.2
set_option maxRecDepth 100000 in
theorem dg_cX11_flag_6 : (decode cX11_flag 0 = .ok (.iload_n 0, 1)) ∧ (decode cX11_flag 1 = .ok (.ifCond .eq 7, 3)) ∧ (decode cX11_flag 4 = .ok (.iconst 1, 1)) ∧ (decode cX11_flag 5 = .ok (.goto 4, 3)) ∧ (decode cX11_flag 8 = .ok (.iconst 0, 1)) ∧ (decode cX11_flag 9 = .ok (.ireturn, 1)) := by decide +kernel
theorem dX11_flag_0 : decode cX11_flag 0 = .ok (.iload_n 0, 1) := dg_cX11_flag_6.1
theorem dX11_flag_1 : decode cX11_flag 1 = .ok (.ifCond .eq 7, 3) := dg_cX11_flag_6.2.1
theorem dX11_flag_4 : decode cX11_flag 4 = .ok (.iconst 1, 1) := dg_cX11_flag_6.2.2.1
theorem dX11_flag_5 : decode cX11_flag 5 = .ok (.goto 4, 3) := dg_cX11_flag_6.2.2.2.1
theorem dX11_flag_8 : decode cX11_flag 8 = .ok (.iconst 0, 1) := dg_cX11_flag_6.2.2.2.2.1
theorem dX11_flag_9 : decode cX11_flag 9 = .ok (.ireturn, 1) := dg_cX11_flag_6.2.2.2.2.2
set_option maxRecDepth 100000 in
theorem dg_cX11_size_7 : (decode cX11_size 0 = .ok (.iload_n 0, 1)) ∧ (decode cX11_size 1 = .ok (.ifCond .ge 8, 3)) ∧ (decode cX11_size 4 = .ok (.iload_n 0, 1)) ∧ (decode cX11_size 5 = .ok (.ineg, 1)) ∧ (decode cX11_size 6 = .ok (.goto 4, 3)) ∧ (decode cX11_size 9 = .ok (.iload_n 0, 1)) ∧ (decode cX11_size 10 = .ok (.ireturn, 1)) := by decide +kernel
theorem dX11_size_0 : decode cX11_size 0 = .ok (.iload_n 0, 1) := dg_cX11_size_7.1
theorem dX11_size_1 : decode cX11_size 1 = .ok (.ifCond .ge 8, 3) := dg_cX11_size_7.2.1
theorem dX11_size_4 : decode cX11_size 4 = .ok (.iload_n 0, 1) := dg_cX11_size_7.2.2.1
theorem dX11_size_5 : decode cX11_size 5 = .ok (.ineg, 1) := dg_cX11_size_7.2.2.2.1
theorem dX11_size_6 : decode cX11_size 6 = .ok (.goto 4, 3) := dg_cX11_size_7.2.2.2.2.1
theorem dX11_size_9 : decode cX11_size 9 = .ok (.iload_n 0, 1) := dg_cX11_size_7.2.2.2.2.2.1
theorem dX11_size_10 : decode cX11_size 10 = .ok (.ireturn, 1) := dg_cX11_size_7.2.2.2.2.2.2
set_option maxRecDepth 100000 in
theorem dg_cX11_firstDraft_8 : (decode cX11_firstDraft 0 = .ok (.iconst 0, 1)) ∧ (decode cX11_firstDraft 1 = .ok (.istore_n 1, 1)) ∧ (decode cX11_firstDraft 2 = .ok (.iload_n 1, 1)) ∧ (decode cX11_firstDraft 3 = .ok (.bipush 80, 2)) ∧ (decode cX11_firstDraft 5 = .ok (.if_icmp .ge 16, 3)) ∧ (decode cX11_firstDraft 8 = .ok (.aload_n 0, 1)) ∧ (decode cX11_firstDraft 9 = .ok (.getfield 20, 3)) ∧ (decode cX11_firstDraft 12 = .ok (.iload_n 1, 1)) ∧ (decode cX11_firstDraft 13 = .ok (.iconst 0, 1)) ∧ (decode cX11_firstDraft 14 = .ok (.iastore, 1)) ∧ (decode cX11_firstDraft 15 = .ok (.iinc 1 1, 3)) ∧ (decode cX11_firstDraft 18 = .ok (.goto (-16), 3)) ∧ (decode cX11_firstDraft 21 = .ok (.aload_n 0, 1)) ∧ (decode cX11_firstDraft 22 = .ok (.iconst 3, 1)) ∧ (decode cX11_firstDraft 23 = .ok (.putfield 53, 3)) ∧ (decode cX11_firstDraft 26 = .ok (.aload_n 0, 1)) := by decide +kernel
theorem dX11_firstDraft_0 : decode cX11_firstDraft 0 = .ok (.iconst 0, 1) := dg_cX11_firstDraft_8.1
theorem dX11_firstDraft_1 : decode cX11_firstDraft 1 = .ok (.istore_n 1, 1) := dg_cX11_firstDraft_8.2.1
theorem dX11_firstDraft_2 : decode cX11_firstDraft 2 = .ok (.iload_n 1, 1) := dg_cX11_firstDraft_8.2.2.1
theorem dX11_firstDraft_3 : decode cX11_firstDraft 3 = .ok (.bipush 80, 2) := dg_cX11_firstDraft_8.2.2.2.1
theorem dX11_firstDraft_5 : decode cX11_firstDraft 5 = .ok (.if_icmp .ge 16, 3) := dg_cX11_firstDraft_8.2.2.2.2.1
theorem dX11_firstDraft_8 : decode cX11_firstDraft 8 = .ok (.aload_n 0, 1) := dg_cX11_firstDraft_8.2.2.2.2.2.1
theorem dX11_firstDraft_9 : decode cX11_firstDraft 9 = .ok (.getfield 20, 3) := dg_cX11_firstDraft_8.2.2.2.2.2.2.1
theorem dX11_firstDraft_12 : decode cX11_firstDraft 12 = .ok (.iload_n 1, 1) := dg_cX11_firstDraft_8.2.2.2.2.2.2.2.1
theorem dX11_firstDraft_13 : decode cX11_firstDraft 13 = .ok (.iconst 0, 1) := dg_cX11_firstDraft_8.2.2.2.2.2.2.2.2.1
theorem dX11_firstDraft_14 : decode cX11_firstDraft 14 = .ok (.iastore, 1) := dg_cX11_firstDraft_8.2.2.2.2.2.2.2.2.2.1
theorem dX11_firstDraft_15 : decode cX11_firstDraft 15 = .ok (.iinc 1 1, 3) := dg_cX11_firstDraft_8.2.2.2.2.2.2.2.2.2.2.1
theorem dX11_firstDraft_18 : decode cX11_firstDraft 18 = .ok (.goto (-16), 3) := dg_cX11_firstDraft_8.2.2.2.2.2.2.2.2.2.2.2.1
theorem dX11_firstDraft_21 : decode cX11_firstDraft 21 = .ok (.aload_n 0, 1) := dg_cX11_firstDraft_8.2.2.2.2.2.2.2.2.2.2.2.2.1
theorem dX11_firstDraft_22 : decode cX11_firstDraft 22 = .ok (.iconst 3, 1) := dg_cX11_firstDraft_8.2.2.2.2.2.2.2.2.2.2.2.2.2.1
theorem dX11_firstDraft_23 : decode cX11_firstDraft 23 = .ok (.putfield 53, 3) := dg_cX11_firstDraft_8.2.2.2.2.2.2.2.2.2.2.2.2.2.2.1
theorem dX11_firstDraft_26 : decode cX11_firstDraft 26 = .ok (.aload_n 0, 1) := dg_cX11_firstDraft_8.2.2.2.2.2.2.2.2.2.2.2.2.2.2.2
set_option maxRecDepth 100000 in
theorem dg_cX11_firstDraft_9 : (decode cX11_firstDraft 27 = .ok (.iconst 3, 1)) ∧ (decode cX11_firstDraft 28 = .ok (.putfield 57, 3)) ∧ (decode cX11_firstDraft 31 = .ok (.aload_n 0, 1)) ∧ (decode cX11_firstDraft 32 = .ok (.iconst 0, 1)) ∧ (decode cX11_firstDraft 33 = .ok (.putfield 60, 3)) ∧ (decode cX11_firstDraft 36 = .ok (.aload_n 0, 1)) ∧ (decode cX11_firstDraft 37 = .ok (.iconst 0, 1)) ∧ (decode cX11_firstDraft 38 = .ok (.putfield 63, 3)) ∧ (decode cX11_firstDraft 41 = .ok (.aload_n 0, 1)) ∧ (decode cX11_firstDraft 42 = .ok (.bipush (-4), 2)) ∧ (decode cX11_firstDraft 44 = .ok (.putfield 66, 3)) ∧ (decode cX11_firstDraft 47 = .ok (.aload_n 0, 1)) ∧ (decode cX11_firstDraft 48 = .ok (.bipush (-4), 2)) ∧ (decode cX11_firstDraft 50 = .ok (.putfield 69, 3)) ∧ (decode cX11_firstDraft 53 = .ok (.aload_n 0, 1)) ∧ (decode cX11_firstDraft 54 = .ok (.iconst 0, 1)) := by decide +kernel
theorem dX11_firstDraft_27 : decode cX11_firstDraft 27 = .ok (.iconst 3, 1) := dg_cX11_firstDraft_9.1
theorem dX11_firstDraft_28 : decode cX11_firstDraft 28 = .ok (.putfield 57, 3) := dg_cX11_firstDraft_9.2.1
theorem dX11_firstDraft_31 : decode cX11_firstDraft 31 = .ok (.aload_n 0, 1) := dg_cX11_firstDraft_9.2.2.1
theorem dX11_firstDraft_32 : decode cX11_firstDraft 32 = .ok (.iconst 0, 1) := dg_cX11_firstDraft_9.2.2.2.1
theorem dX11_firstDraft_33 : decode cX11_firstDraft 33 = .ok (.putfield 60, 3) := dg_cX11_firstDraft_9.2.2.2.2.1
theorem dX11_firstDraft_36 : decode cX11_firstDraft 36 = .ok (.aload_n 0, 1) := dg_cX11_firstDraft_9.2.2.2.2.2.1
theorem dX11_firstDraft_37 : decode cX11_firstDraft 37 = .ok (.iconst 0, 1) := dg_cX11_firstDraft_9.2.2.2.2.2.2.1
theorem dX11_firstDraft_38 : decode cX11_firstDraft 38 = .ok (.putfield 63, 3) := dg_cX11_firstDraft_9.2.2.2.2.2.2.2.1
theorem dX11_firstDraft_41 : decode cX11_firstDraft 41 = .ok (.aload_n 0, 1) := dg_cX11_firstDraft_9.2.2.2.2.2.2.2.2.1
theorem dX11_firstDraft_42 : decode cX11_firstDraft 42 = .ok (.bipush (-4), 2) := dg_cX11_firstDraft_9.2.2.2.2.2.2.2.2.2.1
theorem dX11_firstDraft_44 : decode cX11_firstDraft 44 = .ok (.putfield 66, 3) := dg_cX11_firstDraft_9.2.2.2.2.2.2.2.2.2.2.1
theorem dX11_firstDraft_47 : decode cX11_firstDraft 47 = .ok (.aload_n 0, 1) := dg_cX11_firstDraft_9.2.2.2.2.2.2.2.2.2.2.2.1
theorem dX11_firstDraft_48 : decode cX11_firstDraft 48 = .ok (.bipush (-4), 2) := dg_cX11_firstDraft_9.2.2.2.2.2.2.2.2.2.2.2.2.1
theorem dX11_firstDraft_50 : decode cX11_firstDraft 50 = .ok (.putfield 69, 3) := dg_cX11_firstDraft_9.2.2.2.2.2.2.2.2.2.2.2.2.2.1
theorem dX11_firstDraft_53 : decode cX11_firstDraft 53 = .ok (.aload_n 0, 1) := dg_cX11_firstDraft_9.2.2.2.2.2.2.2.2.2.2.2.2.2.2.1
theorem dX11_firstDraft_54 : decode cX11_firstDraft 54 = .ok (.iconst 0, 1) := dg_cX11_firstDraft_9.2.2.2.2.2.2.2.2.2.2.2.2.2.2.2
set_option maxRecDepth 100000 in
theorem dg_cX11_firstDraft_10 : (decode cX11_firstDraft 55 = .ok (.putfield 72, 3)) ∧ (decode cX11_firstDraft 58 = .ok (.return_, 1)) := by decide +kernel
theorem dX11_firstDraft_55 : decode cX11_firstDraft 55 = .ok (.putfield 72, 3) := dg_cX11_firstDraft_10.1
theorem dX11_firstDraft_58 : decode cX11_firstDraft 58 = .ok (.return_, 1) := dg_cX11_firstDraft_10.2
set_option maxRecDepth 100000 in
theorem dg_cX11_keepDraft_11 : (decode cX11_keepDraft 0 = .ok (.iconst 0, 1)) ∧ (decode cX11_keepDraft 1 = .ok (.istore_n 1, 1)) ∧ (decode cX11_keepDraft 2 = .ok (.iload_n 1, 1)) ∧ (decode cX11_keepDraft 3 = .ok (.bipush 80, 2)) ∧ (decode cX11_keepDraft 5 = .ok (.if_icmp .ge 21, 3)) ∧ (decode cX11_keepDraft 8 = .ok (.aload_n 0, 1)) ∧ (decode cX11_keepDraft 9 = .ok (.getfield 7, 3)) ∧ (decode cX11_keepDraft 12 = .ok (.iload_n 1, 1)) ∧ (decode cX11_keepDraft 13 = .ok (.aload_n 0, 1)) ∧ (decode cX11_keepDraft 14 = .ok (.getfield 20, 3)) ∧ (decode cX11_keepDraft 17 = .ok (.iload_n 1, 1)) ∧ (decode cX11_keepDraft 18 = .ok (.iaload, 1)) ∧ (decode cX11_keepDraft 19 = .ok (.iastore, 1)) ∧ (decode cX11_keepDraft 20 = .ok (.iinc 1 1, 3)) ∧ (decode cX11_keepDraft 23 = .ok (.goto (-21), 3)) ∧ (decode cX11_keepDraft 26 = .ok (.iconst 0, 1)) := by decide +kernel
theorem dX11_keepDraft_0 : decode cX11_keepDraft 0 = .ok (.iconst 0, 1) := dg_cX11_keepDraft_11.1
theorem dX11_keepDraft_1 : decode cX11_keepDraft 1 = .ok (.istore_n 1, 1) := dg_cX11_keepDraft_11.2.1
theorem dX11_keepDraft_2 : decode cX11_keepDraft 2 = .ok (.iload_n 1, 1) := dg_cX11_keepDraft_11.2.2.1
theorem dX11_keepDraft_3 : decode cX11_keepDraft 3 = .ok (.bipush 80, 2) := dg_cX11_keepDraft_11.2.2.2.1
theorem dX11_keepDraft_5 : decode cX11_keepDraft 5 = .ok (.if_icmp .ge 21, 3) := dg_cX11_keepDraft_11.2.2.2.2.1
theorem dX11_keepDraft_8 : decode cX11_keepDraft 8 = .ok (.aload_n 0, 1) := dg_cX11_keepDraft_11.2.2.2.2.2.1
theorem dX11_keepDraft_9 : decode cX11_keepDraft 9 = .ok (.getfield 7, 3) := dg_cX11_keepDraft_11.2.2.2.2.2.2.1
theorem dX11_keepDraft_12 : decode cX11_keepDraft 12 = .ok (.iload_n 1, 1) := dg_cX11_keepDraft_11.2.2.2.2.2.2.2.1
theorem dX11_keepDraft_13 : decode cX11_keepDraft 13 = .ok (.aload_n 0, 1) := dg_cX11_keepDraft_11.2.2.2.2.2.2.2.2.1
theorem dX11_keepDraft_14 : decode cX11_keepDraft 14 = .ok (.getfield 20, 3) := dg_cX11_keepDraft_11.2.2.2.2.2.2.2.2.2.1
theorem dX11_keepDraft_17 : decode cX11_keepDraft 17 = .ok (.iload_n 1, 1) := dg_cX11_keepDraft_11.2.2.2.2.2.2.2.2.2.2.1
theorem dX11_keepDraft_18 : decode cX11_keepDraft 18 = .ok (.iaload, 1) := dg_cX11_keepDraft_11.2.2.2.2.2.2.2.2.2.2.2.1
theorem dX11_keepDraft_19 : decode cX11_keepDraft 19 = .ok (.iastore, 1) := dg_cX11_keepDraft_11.2.2.2.2.2.2.2.2.2.2.2.2.1
theorem dX11_keepDraft_20 : decode cX11_keepDraft 20 = .ok (.iinc 1 1, 3) := dg_cX11_keepDraft_11.2.2.2.2.2.2.2.2.2.2.2.2.2.1
theorem dX11_keepDraft_23 : decode cX11_keepDraft 23 = .ok (.goto (-21), 3) := dg_cX11_keepDraft_11.2.2.2.2.2.2.2.2.2.2.2.2.2.2.1
theorem dX11_keepDraft_26 : decode cX11_keepDraft 26 = .ok (.iconst 0, 1) := dg_cX11_keepDraft_11.2.2.2.2.2.2.2.2.2.2.2.2.2.2.2
set_option maxRecDepth 100000 in
theorem dg_cX11_keepDraft_12 : (decode cX11_keepDraft 27 = .ok (.istore_n 1, 1)) ∧ (decode cX11_keepDraft 28 = .ok (.iload_n 1, 1)) ∧ (decode cX11_keepDraft 29 = .ok (.bipush 84, 2)) ∧ (decode cX11_keepDraft 31 = .ok (.if_icmp .ge 21, 3)) ∧ (decode cX11_keepDraft 34 = .ok (.aload_n 0, 1)) ∧ (decode cX11_keepDraft 35 = .ok (.getfield 17, 3)) ∧ (decode cX11_keepDraft 38 = .ok (.iload_n 1, 1)) ∧ (decode cX11_keepDraft 39 = .ok (.aload_n 0, 1)) ∧ (decode cX11_keepDraft 40 = .ok (.getfield 23, 3)) ∧ (decode cX11_keepDraft 43 = .ok (.iload_n 1, 1)) ∧ (decode cX11_keepDraft 44 = .ok (.iaload, 1)) ∧ (decode cX11_keepDraft 45 = .ok (.iastore, 1)) ∧ (decode cX11_keepDraft 46 = .ok (.iinc 1 1, 3)) ∧ (decode cX11_keepDraft 49 = .ok (.goto (-21), 3)) ∧ (decode cX11_keepDraft 52 = .ok (.aload_n 0, 1)) ∧ (decode cX11_keepDraft 53 = .ok (.aload_n 0, 1)) := by decide +kernel
theorem dX11_keepDraft_27 : decode cX11_keepDraft 27 = .ok (.istore_n 1, 1) := dg_cX11_keepDraft_12.1
theorem dX11_keepDraft_28 : decode cX11_keepDraft 28 = .ok (.iload_n 1, 1) := dg_cX11_keepDraft_12.2.1
theorem dX11_keepDraft_29 : decode cX11_keepDraft 29 = .ok (.bipush 84, 2) := dg_cX11_keepDraft_12.2.2.1
theorem dX11_keepDraft_31 : decode cX11_keepDraft 31 = .ok (.if_icmp .ge 21, 3) := dg_cX11_keepDraft_12.2.2.2.1
theorem dX11_keepDraft_34 : decode cX11_keepDraft 34 = .ok (.aload_n 0, 1) := dg_cX11_keepDraft_12.2.2.2.2.1
theorem dX11_keepDraft_35 : decode cX11_keepDraft 35 = .ok (.getfield 17, 3) := dg_cX11_keepDraft_12.2.2.2.2.2.1
theorem dX11_keepDraft_38 : decode cX11_keepDraft 38 = .ok (.iload_n 1, 1) := dg_cX11_keepDraft_12.2.2.2.2.2.2.1
theorem dX11_keepDraft_39 : decode cX11_keepDraft 39 = .ok (.aload_n 0, 1) := dg_cX11_keepDraft_12.2.2.2.2.2.2.2.1
theorem dX11_keepDraft_40 : decode cX11_keepDraft 40 = .ok (.getfield 23, 3) := dg_cX11_keepDraft_12.2.2.2.2.2.2.2.2.1
theorem dX11_keepDraft_43 : decode cX11_keepDraft 43 = .ok (.iload_n 1, 1) := dg_cX11_keepDraft_12.2.2.2.2.2.2.2.2.2.1
theorem dX11_keepDraft_44 : decode cX11_keepDraft 44 = .ok (.iaload, 1) := dg_cX11_keepDraft_12.2.2.2.2.2.2.2.2.2.2.1
theorem dX11_keepDraft_45 : decode cX11_keepDraft 45 = .ok (.iastore, 1) := dg_cX11_keepDraft_12.2.2.2.2.2.2.2.2.2.2.2.1
theorem dX11_keepDraft_46 : decode cX11_keepDraft 46 = .ok (.iinc 1 1, 3) := dg_cX11_keepDraft_12.2.2.2.2.2.2.2.2.2.2.2.2.1
theorem dX11_keepDraft_49 : decode cX11_keepDraft 49 = .ok (.goto (-21), 3) := dg_cX11_keepDraft_12.2.2.2.2.2.2.2.2.2.2.2.2.2.1
theorem dX11_keepDraft_52 : decode cX11_keepDraft 52 = .ok (.aload_n 0, 1) := dg_cX11_keepDraft_12.2.2.2.2.2.2.2.2.2.2.2.2.2.2.1
theorem dX11_keepDraft_53 : decode cX11_keepDraft 53 = .ok (.aload_n 0, 1) := dg_cX11_keepDraft_12.2.2.2.2.2.2.2.2.2.2.2.2.2.2.2
set_option maxRecDepth 100000 in
theorem dg_cX11_keepDraft_13 : (decode cX11_keepDraft 54 = .ok (.getfield 53, 3)) ∧ (decode cX11_keepDraft 57 = .ok (.putfield 75, 3)) ∧ (decode cX11_keepDraft 60 = .ok (.aload_n 0, 1)) ∧ (decode cX11_keepDraft 61 = .ok (.aload_n 0, 1)) ∧ (decode cX11_keepDraft 62 = .ok (.getfield 57, 3)) ∧ (decode cX11_keepDraft 65 = .ok (.putfield 78, 3)) ∧ (decode cX11_keepDraft 68 = .ok (.aload_n 0, 1)) ∧ (decode cX11_keepDraft 69 = .ok (.aload_n 0, 1)) ∧ (decode cX11_keepDraft 70 = .ok (.getfield 60, 3)) ∧ (decode cX11_keepDraft 73 = .ok (.putfield 81, 3)) ∧ (decode cX11_keepDraft 76 = .ok (.aload_n 0, 1)) ∧ (decode cX11_keepDraft 77 = .ok (.aload_n 0, 1)) ∧ (decode cX11_keepDraft 78 = .ok (.getfield 63, 3)) ∧ (decode cX11_keepDraft 81 = .ok (.putfield 84, 3)) ∧ (decode cX11_keepDraft 84 = .ok (.aload_n 0, 1)) ∧ (decode cX11_keepDraft 85 = .ok (.getfield 13, 3)) := by decide +kernel
theorem dX11_keepDraft_54 : decode cX11_keepDraft 54 = .ok (.getfield 53, 3) := dg_cX11_keepDraft_13.1
theorem dX11_keepDraft_57 : decode cX11_keepDraft 57 = .ok (.putfield 75, 3) := dg_cX11_keepDraft_13.2.1
theorem dX11_keepDraft_60 : decode cX11_keepDraft 60 = .ok (.aload_n 0, 1) := dg_cX11_keepDraft_13.2.2.1
theorem dX11_keepDraft_61 : decode cX11_keepDraft 61 = .ok (.aload_n 0, 1) := dg_cX11_keepDraft_13.2.2.2.1
theorem dX11_keepDraft_62 : decode cX11_keepDraft 62 = .ok (.getfield 57, 3) := dg_cX11_keepDraft_13.2.2.2.2.1
theorem dX11_keepDraft_65 : decode cX11_keepDraft 65 = .ok (.putfield 78, 3) := dg_cX11_keepDraft_13.2.2.2.2.2.1
theorem dX11_keepDraft_68 : decode cX11_keepDraft 68 = .ok (.aload_n 0, 1) := dg_cX11_keepDraft_13.2.2.2.2.2.2.1
theorem dX11_keepDraft_69 : decode cX11_keepDraft 69 = .ok (.aload_n 0, 1) := dg_cX11_keepDraft_13.2.2.2.2.2.2.2.1
theorem dX11_keepDraft_70 : decode cX11_keepDraft 70 = .ok (.getfield 60, 3) := dg_cX11_keepDraft_13.2.2.2.2.2.2.2.2.1
theorem dX11_keepDraft_73 : decode cX11_keepDraft 73 = .ok (.putfield 81, 3) := dg_cX11_keepDraft_13.2.2.2.2.2.2.2.2.2.1
theorem dX11_keepDraft_76 : decode cX11_keepDraft 76 = .ok (.aload_n 0, 1) := dg_cX11_keepDraft_13.2.2.2.2.2.2.2.2.2.2.1
theorem dX11_keepDraft_77 : decode cX11_keepDraft 77 = .ok (.aload_n 0, 1) := dg_cX11_keepDraft_13.2.2.2.2.2.2.2.2.2.2.2.1
theorem dX11_keepDraft_78 : decode cX11_keepDraft 78 = .ok (.getfield 63, 3) := dg_cX11_keepDraft_13.2.2.2.2.2.2.2.2.2.2.2.2.1
theorem dX11_keepDraft_81 : decode cX11_keepDraft 81 = .ok (.putfield 84, 3) := dg_cX11_keepDraft_13.2.2.2.2.2.2.2.2.2.2.2.2.2.1
theorem dX11_keepDraft_84 : decode cX11_keepDraft 84 = .ok (.aload_n 0, 1) := dg_cX11_keepDraft_13.2.2.2.2.2.2.2.2.2.2.2.2.2.2.1
theorem dX11_keepDraft_85 : decode cX11_keepDraft 85 = .ok (.getfield 13, 3) := dg_cX11_keepDraft_13.2.2.2.2.2.2.2.2.2.2.2.2.2.2.2
set_option maxRecDepth 100000 in
theorem dg_cX11_keepDraft_14 : (decode cX11_keepDraft 88 = .ok (.iconst 0, 1)) ∧ (decode cX11_keepDraft 89 = .ok (.iconst 0, 1)) ∧ (decode cX11_keepDraft 90 = .ok (.bastore, 1)) ∧ (decode cX11_keepDraft 91 = .ok (.aload_n 0, 1)) ∧ (decode cX11_keepDraft 92 = .ok (.getfield 13, 3)) ∧ (decode cX11_keepDraft 95 = .ok (.iconst 1, 1)) ∧ (decode cX11_keepDraft 96 = .ok (.iconst 0, 1)) ∧ (decode cX11_keepDraft 97 = .ok (.bastore, 1)) ∧ (decode cX11_keepDraft 98 = .ok (.return_, 1)) := by decide +kernel
theorem dX11_keepDraft_88 : decode cX11_keepDraft 88 = .ok (.iconst 0, 1) := dg_cX11_keepDraft_14.1
theorem dX11_keepDraft_89 : decode cX11_keepDraft 89 = .ok (.iconst 0, 1) := dg_cX11_keepDraft_14.2.1
theorem dX11_keepDraft_90 : decode cX11_keepDraft 90 = .ok (.bastore, 1) := dg_cX11_keepDraft_14.2.2.1
theorem dX11_keepDraft_91 : decode cX11_keepDraft 91 = .ok (.aload_n 0, 1) := dg_cX11_keepDraft_14.2.2.2.1
theorem dX11_keepDraft_92 : decode cX11_keepDraft 92 = .ok (.getfield 13, 3) := dg_cX11_keepDraft_14.2.2.2.2.1
theorem dX11_keepDraft_95 : decode cX11_keepDraft 95 = .ok (.iconst 1, 1) := dg_cX11_keepDraft_14.2.2.2.2.2.1
theorem dX11_keepDraft_96 : decode cX11_keepDraft 96 = .ok (.iconst 0, 1) := dg_cX11_keepDraft_14.2.2.2.2.2.2.1
theorem dX11_keepDraft_97 : decode cX11_keepDraft 97 = .ok (.bastore, 1) := dg_cX11_keepDraft_14.2.2.2.2.2.2.2.1
theorem dX11_keepDraft_98 : decode cX11_keepDraft 98 = .ok (.return_, 1) := dg_cX11_keepDraft_14.2.2.2.2.2.2.2.2
set_option maxRecDepth 100000 in
theorem dg_cX11_feed_15 : (decode cX11_feed 0 = .ok (.aload_n 0, 1)) ∧ (decode cX11_feed 1 = .ok (.getfield 87, 3)) ∧ (decode cX11_feed 4 = .ok (.bipush 8, 2)) ∧ (decode cX11_feed 6 = .ok (.iadd, 1)) ∧ (decode cX11_feed 7 = .ok (.sipush 320, 3)) ∧ (decode cX11_feed 10 = .ok (.if_icmp .le 6, 3)) ∧ (decode cX11_feed 13 = .ok (.bipush (-3), 2)) ∧ (decode cX11_feed 15 = .ok (.ireturn, 1)) ∧ (decode cX11_feed 16 = .ok (.bipush 56, 2)) ∧ (decode cX11_feed 18 = .ok (.istore_n 3, 1)) ∧ (decode cX11_feed 19 = .ok (.iload_n 3, 1)) ∧ (decode cX11_feed 20 = .ok (.ifCond .lt 36, 3)) ∧ (decode cX11_feed 23 = .ok (.aload_n 0, 1)) ∧ (decode cX11_feed 24 = .ok (.getfield 26, 3)) ∧ (decode cX11_feed 27 = .ok (.aload_n 0, 1)) ∧ (decode cX11_feed 28 = .ok (.getfield 87, 3)) := by decide +kernel
theorem dX11_feed_0 : decode cX11_feed 0 = .ok (.aload_n 0, 1) := dg_cX11_feed_15.1
theorem dX11_feed_1 : decode cX11_feed 1 = .ok (.getfield 87, 3) := dg_cX11_feed_15.2.1
theorem dX11_feed_4 : decode cX11_feed 4 = .ok (.bipush 8, 2) := dg_cX11_feed_15.2.2.1
theorem dX11_feed_6 : decode cX11_feed 6 = .ok (.iadd, 1) := dg_cX11_feed_15.2.2.2.1
theorem dX11_feed_7 : decode cX11_feed 7 = .ok (.sipush 320, 3) := dg_cX11_feed_15.2.2.2.2.1
theorem dX11_feed_10 : decode cX11_feed 10 = .ok (.if_icmp .le 6, 3) := dg_cX11_feed_15.2.2.2.2.2.1
theorem dX11_feed_13 : decode cX11_feed 13 = .ok (.bipush (-3), 2) := dg_cX11_feed_15.2.2.2.2.2.2.1
theorem dX11_feed_15 : decode cX11_feed 15 = .ok (.ireturn, 1) := dg_cX11_feed_15.2.2.2.2.2.2.2.1
theorem dX11_feed_16 : decode cX11_feed 16 = .ok (.bipush 56, 2) := dg_cX11_feed_15.2.2.2.2.2.2.2.2.1
theorem dX11_feed_18 : decode cX11_feed 18 = .ok (.istore_n 3, 1) := dg_cX11_feed_15.2.2.2.2.2.2.2.2.2.1
theorem dX11_feed_19 : decode cX11_feed 19 = .ok (.iload_n 3, 1) := dg_cX11_feed_15.2.2.2.2.2.2.2.2.2.2.1
theorem dX11_feed_20 : decode cX11_feed 20 = .ok (.ifCond .lt 36, 3) := dg_cX11_feed_15.2.2.2.2.2.2.2.2.2.2.2.1
theorem dX11_feed_23 : decode cX11_feed 23 = .ok (.aload_n 0, 1) := dg_cX11_feed_15.2.2.2.2.2.2.2.2.2.2.2.2.1
theorem dX11_feed_24 : decode cX11_feed 24 = .ok (.getfield 26, 3) := dg_cX11_feed_15.2.2.2.2.2.2.2.2.2.2.2.2.2.1
theorem dX11_feed_27 : decode cX11_feed 27 = .ok (.aload_n 0, 1) := dg_cX11_feed_15.2.2.2.2.2.2.2.2.2.2.2.2.2.2.1
theorem dX11_feed_28 : decode cX11_feed 28 = .ok (.getfield 87, 3) := dg_cX11_feed_15.2.2.2.2.2.2.2.2.2.2.2.2.2.2.2
set_option maxRecDepth 100000 in
theorem dg_cX11_feed_16 : (decode cX11_feed 31 = .ok (.lload_n 1, 1)) ∧ (decode cX11_feed 32 = .ok (.iload_n 3, 1)) ∧ (decode cX11_feed 33 = .ok (.lshr, 1)) ∧ (decode cX11_feed 34 = .ok (.ldc2_w 90, 3)) ∧ (decode cX11_feed 37 = .ok (.land, 1)) ∧ (decode cX11_feed 38 = .ok (.l2i, 1)) ∧ (decode cX11_feed 39 = .ok (.iastore, 1)) ∧ (decode cX11_feed 40 = .ok (.aload_n 0, 1)) ∧ (decode cX11_feed 41 = .ok (.dup, 1)) ∧ (decode cX11_feed 42 = .ok (.getfield 87, 3)) ∧ (decode cX11_feed 45 = .ok (.iconst 1, 1)) ∧ (decode cX11_feed 46 = .ok (.iadd, 1)) ∧ (decode cX11_feed 47 = .ok (.putfield 87, 3)) ∧ (decode cX11_feed 50 = .ok (.iinc 3 (-8), 3)) ∧ (decode cX11_feed 53 = .ok (.goto (-34), 3)) ∧ (decode cX11_feed 56 = .ok (.aload_n 0, 1)) := by decide +kernel
theorem dX11_feed_31 : decode cX11_feed 31 = .ok (.lload_n 1, 1) := dg_cX11_feed_16.1
theorem dX11_feed_32 : decode cX11_feed 32 = .ok (.iload_n 3, 1) := dg_cX11_feed_16.2.1
theorem dX11_feed_33 : decode cX11_feed 33 = .ok (.lshr, 1) := dg_cX11_feed_16.2.2.1
theorem dX11_feed_34 : decode cX11_feed 34 = .ok (.ldc2_w 90, 3) := dg_cX11_feed_16.2.2.2.1
theorem dX11_feed_37 : decode cX11_feed 37 = .ok (.land, 1) := dg_cX11_feed_16.2.2.2.2.1
theorem dX11_feed_38 : decode cX11_feed 38 = .ok (.l2i, 1) := dg_cX11_feed_16.2.2.2.2.2.1
theorem dX11_feed_39 : decode cX11_feed 39 = .ok (.iastore, 1) := dg_cX11_feed_16.2.2.2.2.2.2.1
theorem dX11_feed_40 : decode cX11_feed 40 = .ok (.aload_n 0, 1) := dg_cX11_feed_16.2.2.2.2.2.2.2.1
theorem dX11_feed_41 : decode cX11_feed 41 = .ok (.dup, 1) := dg_cX11_feed_16.2.2.2.2.2.2.2.2.1
theorem dX11_feed_42 : decode cX11_feed 42 = .ok (.getfield 87, 3) := dg_cX11_feed_16.2.2.2.2.2.2.2.2.2.1
theorem dX11_feed_45 : decode cX11_feed 45 = .ok (.iconst 1, 1) := dg_cX11_feed_16.2.2.2.2.2.2.2.2.2.2.1
theorem dX11_feed_46 : decode cX11_feed 46 = .ok (.iadd, 1) := dg_cX11_feed_16.2.2.2.2.2.2.2.2.2.2.2.1
theorem dX11_feed_47 : decode cX11_feed 47 = .ok (.putfield 87, 3) := dg_cX11_feed_16.2.2.2.2.2.2.2.2.2.2.2.2.1
theorem dX11_feed_50 : decode cX11_feed 50 = .ok (.iinc 3 (-8), 3) := dg_cX11_feed_16.2.2.2.2.2.2.2.2.2.2.2.2.2.1
theorem dX11_feed_53 : decode cX11_feed 53 = .ok (.goto (-34), 3) := dg_cX11_feed_16.2.2.2.2.2.2.2.2.2.2.2.2.2.2.1
theorem dX11_feed_56 : decode cX11_feed 56 = .ok (.aload_n 0, 1) := dg_cX11_feed_16.2.2.2.2.2.2.2.2.2.2.2.2.2.2.2
set_option maxRecDepth 100000 in
theorem dg_cX11_feed_17 : (decode cX11_feed 57 = .ok (.getfield 87, 3)) ∧ (decode cX11_feed 60 = .ok (.ireturn, 1)) := by decide +kernel
theorem dX11_feed_57 : decode cX11_feed 57 = .ok (.getfield 87, 3) := dg_cX11_feed_17.1
theorem dX11_feed_60 : decode cX11_feed 60 = .ok (.ireturn, 1) := dg_cX11_feed_17.2
set_option maxRecDepth 100000 in
theorem dg_cX11_end_18 : (decode cX11_end 0 = .ok (.iload_n 1, 1)) ∧ (decode cX11_end 1 = .ok (.i2l, 1)) ∧ (decode cX11_end 2 = .ok (.lconst 0, 1)) ∧ (decode cX11_end 3 = .ok (.aload_n 0, 1)) ∧ (decode cX11_end 4 = .ok (.getfield 87, 3)) ∧ (decode cX11_end 7 = .ok (.i2l, 1)) ∧ (decode cX11_end 8 = .ok (.invokestatic 92, 3)) ∧ (decode cX11_end 11 = .ok (.ifCond .ne 5, 3)) ∧ (decode cX11_end 14 = .ok (.iconst (-1), 1)) ∧ (decode cX11_end 15 = .ok (.ireturn, 1)) ∧ (decode cX11_end 16 = .ok (.aload_n 0, 1)) ∧ (decode cX11_end 17 = .ok (.getfield 87, 3)) ∧ (decode cX11_end 20 = .ok (.istore_n 2, 1)) ∧ (decode cX11_end 21 = .ok (.aload_n 0, 1)) ∧ (decode cX11_end 22 = .ok (.iload_n 1, 1)) ∧ (decode cX11_end 23 = .ok (.putfield 87, 3)) := by decide +kernel
theorem dX11_end_0 : decode cX11_end 0 = .ok (.iload_n 1, 1) := dg_cX11_end_18.1
theorem dX11_end_1 : decode cX11_end 1 = .ok (.i2l, 1) := dg_cX11_end_18.2.1
theorem dX11_end_2 : decode cX11_end 2 = .ok (.lconst 0, 1) := dg_cX11_end_18.2.2.1
theorem dX11_end_3 : decode cX11_end 3 = .ok (.aload_n 0, 1) := dg_cX11_end_18.2.2.2.1
theorem dX11_end_4 : decode cX11_end 4 = .ok (.getfield 87, 3) := dg_cX11_end_18.2.2.2.2.1
theorem dX11_end_7 : decode cX11_end 7 = .ok (.i2l, 1) := dg_cX11_end_18.2.2.2.2.2.1
theorem dX11_end_8 : decode cX11_end 8 = .ok (.invokestatic 92, 3) := dg_cX11_end_18.2.2.2.2.2.2.1
theorem dX11_end_11 : decode cX11_end 11 = .ok (.ifCond .ne 5, 3) := dg_cX11_end_18.2.2.2.2.2.2.2.1
theorem dX11_end_14 : decode cX11_end 14 = .ok (.iconst (-1), 1) := dg_cX11_end_18.2.2.2.2.2.2.2.2.1
theorem dX11_end_15 : decode cX11_end 15 = .ok (.ireturn, 1) := dg_cX11_end_18.2.2.2.2.2.2.2.2.2.1
theorem dX11_end_16 : decode cX11_end 16 = .ok (.aload_n 0, 1) := dg_cX11_end_18.2.2.2.2.2.2.2.2.2.2.1
theorem dX11_end_17 : decode cX11_end 17 = .ok (.getfield 87, 3) := dg_cX11_end_18.2.2.2.2.2.2.2.2.2.2.2.1
theorem dX11_end_20 : decode cX11_end 20 = .ok (.istore_n 2, 1) := dg_cX11_end_18.2.2.2.2.2.2.2.2.2.2.2.2.1
theorem dX11_end_21 : decode cX11_end 21 = .ok (.aload_n 0, 1) := dg_cX11_end_18.2.2.2.2.2.2.2.2.2.2.2.2.2.1
theorem dX11_end_22 : decode cX11_end 22 = .ok (.iload_n 1, 1) := dg_cX11_end_18.2.2.2.2.2.2.2.2.2.2.2.2.2.2.1
theorem dX11_end_23 : decode cX11_end 23 = .ok (.putfield 87, 3) := dg_cX11_end_18.2.2.2.2.2.2.2.2.2.2.2.2.2.2.2
set_option maxRecDepth 100000 in
theorem dg_cX11_end_19 : (decode cX11_end 26 = .ok (.iload_n 2, 1)) ∧ (decode cX11_end 27 = .ok (.ireturn, 1)) := by decide +kernel
theorem dX11_end_26 : decode cX11_end 26 = .ok (.iload_n 2, 1) := dg_cX11_end_19.1
theorem dX11_end_27 : decode cX11_end 27 = .ok (.ireturn, 1) := dg_cX11_end_19.2
set_option maxRecDepth 100000 in
theorem dg_cX11_needs_20 : (decode cX11_needs 0 = .ok (.iload_n 1, 1)) ∧ (decode cX11_needs 1 = .ok (.ifCond .ne 23, 3)) ∧ (decode cX11_needs 4 = .ok (.aload_n 0, 1)) ∧ (decode cX11_needs 5 = .ok (.getfield 96, 3)) ∧ (decode cX11_needs 8 = .ok (.ifCond .ne 16, 3)) ∧ (decode cX11_needs 11 = .ok (.aload_n 0, 1)) ∧ (decode cX11_needs 12 = .ok (.iload_n 2, 1)) ∧ (decode cX11_needs 13 = .ok (.putfield 96, 3)) ∧ (decode cX11_needs 16 = .ok (.aload_n 0, 1)) ∧ (decode cX11_needs 17 = .ok (.aload_n 0, 1)) ∧ (decode cX11_needs 18 = .ok (.getfield 99, 3)) ∧ (decode cX11_needs 21 = .ok (.putfield 102, 3)) ∧ (decode cX11_needs 24 = .ok (.return_, 1)) := by decide +kernel
theorem dX11_needs_0 : decode cX11_needs 0 = .ok (.iload_n 1, 1) := dg_cX11_needs_20.1
theorem dX11_needs_1 : decode cX11_needs 1 = .ok (.ifCond .ne 23, 3) := dg_cX11_needs_20.2.1
theorem dX11_needs_4 : decode cX11_needs 4 = .ok (.aload_n 0, 1) := dg_cX11_needs_20.2.2.1
theorem dX11_needs_5 : decode cX11_needs 5 = .ok (.getfield 96, 3) := dg_cX11_needs_20.2.2.2.1
theorem dX11_needs_8 : decode cX11_needs 8 = .ok (.ifCond .ne 16, 3) := dg_cX11_needs_20.2.2.2.2.1
theorem dX11_needs_11 : decode cX11_needs 11 = .ok (.aload_n 0, 1) := dg_cX11_needs_20.2.2.2.2.2.1
theorem dX11_needs_12 : decode cX11_needs 12 = .ok (.iload_n 2, 1) := dg_cX11_needs_20.2.2.2.2.2.2.1
theorem dX11_needs_13 : decode cX11_needs 13 = .ok (.putfield 96, 3) := dg_cX11_needs_20.2.2.2.2.2.2.2.1
theorem dX11_needs_16 : decode cX11_needs 16 = .ok (.aload_n 0, 1) := dg_cX11_needs_20.2.2.2.2.2.2.2.2.1
theorem dX11_needs_17 : decode cX11_needs 17 = .ok (.aload_n 0, 1) := dg_cX11_needs_20.2.2.2.2.2.2.2.2.2.1
theorem dX11_needs_18 : decode cX11_needs 18 = .ok (.getfield 99, 3) := dg_cX11_needs_20.2.2.2.2.2.2.2.2.2.2.1
theorem dX11_needs_21 : decode cX11_needs 21 = .ok (.putfield 102, 3) := dg_cX11_needs_20.2.2.2.2.2.2.2.2.2.2.2.1
theorem dX11_needs_24 : decode cX11_needs 24 = .ok (.return_, 1) := dg_cX11_needs_20.2.2.2.2.2.2.2.2.2.2.2.2
set_option maxRecDepth 100000 in
theorem dg_cX11_look_21 : (decode cX11_look 0 = .ok (.iload_n 1, 1)) ∧ (decode cX11_look 1 = .ok (.aload_n 0, 1)) ∧ (decode cX11_look 2 = .ok (.getfield 87, 3)) ∧ (decode cX11_look 5 = .ok (.if_icmp .ge 12, 3)) ∧ (decode cX11_look 8 = .ok (.aload_n 0, 1)) ∧ (decode cX11_look 9 = .ok (.getfield 26, 3)) ∧ (decode cX11_look 12 = .ok (.iload_n 1, 1)) ∧ (decode cX11_look 13 = .ok (.iaload, 1)) ∧ (decode cX11_look 14 = .ok (.goto 4, 3)) ∧ (decode cX11_look 17 = .ok (.iconst (-1), 1)) ∧ (decode cX11_look 18 = .ok (.ireturn, 1)) := by decide +kernel
theorem dX11_look_0 : decode cX11_look 0 = .ok (.iload_n 1, 1) := dg_cX11_look_21.1
theorem dX11_look_1 : decode cX11_look 1 = .ok (.aload_n 0, 1) := dg_cX11_look_21.2.1
theorem dX11_look_2 : decode cX11_look 2 = .ok (.getfield 87, 3) := dg_cX11_look_21.2.2.1
theorem dX11_look_5 : decode cX11_look 5 = .ok (.if_icmp .ge 12, 3) := dg_cX11_look_21.2.2.2.1
theorem dX11_look_8 : decode cX11_look 8 = .ok (.aload_n 0, 1) := dg_cX11_look_21.2.2.2.2.1
theorem dX11_look_9 : decode cX11_look 9 = .ok (.getfield 26, 3) := dg_cX11_look_21.2.2.2.2.2.1
theorem dX11_look_12 : decode cX11_look 12 = .ok (.iload_n 1, 1) := dg_cX11_look_21.2.2.2.2.2.2.1
theorem dX11_look_13 : decode cX11_look 13 = .ok (.iaload, 1) := dg_cX11_look_21.2.2.2.2.2.2.2.1
theorem dX11_look_14 : decode cX11_look 14 = .ok (.goto 4, 3) := dg_cX11_look_21.2.2.2.2.2.2.2.2.1
theorem dX11_look_17 : decode cX11_look 17 = .ok (.iconst (-1), 1) := dg_cX11_look_21.2.2.2.2.2.2.2.2.2.1
theorem dX11_look_18 : decode cX11_look 18 = .ok (.ireturn, 1) := dg_cX11_look_21.2.2.2.2.2.2.2.2.2.2
set_option maxRecDepth 100000 in
theorem dg_cX11_is_22 : (decode cX11_is 0 = .ok (.aload_n 0, 1)) ∧ (decode cX11_is 1 = .ok (.getfield 105, 3)) ∧ (decode cX11_is 4 = .ok (.aload_n 0, 1)) ∧ (decode cX11_is 5 = .ok (.getfield 99, 3)) ∧ (decode cX11_is 8 = .ok (.isub, 1)) ∧ (decode cX11_is 9 = .ok (.iload_n 1, 1)) ∧ (decode cX11_is 10 = .ok (.if_icmp .ne 68, 3)) ∧ (decode cX11_is 13 = .ok (.aload_n 0, 1)) ∧ (decode cX11_is 14 = .ok (.aload_n 0, 1)) ∧ (decode cX11_is 15 = .ok (.getfield 99, 3)) ∧ (decode cX11_is 18 = .ok (.invokevirtual 108, 3)) ∧ (decode cX11_is 21 = .ok (.iload_n 2, 1)) ∧ (decode cX11_is 22 = .ok (.if_icmp .ne 56, 3)) ∧ (decode cX11_is 25 = .ok (.aload_n 0, 1)) ∧ (decode cX11_is 26 = .ok (.aload_n 0, 1)) ∧ (decode cX11_is 27 = .ok (.getfield 99, 3)) := by decide +kernel
theorem dX11_is_0 : decode cX11_is 0 = .ok (.aload_n 0, 1) := dg_cX11_is_22.1
theorem dX11_is_1 : decode cX11_is 1 = .ok (.getfield 105, 3) := dg_cX11_is_22.2.1
theorem dX11_is_4 : decode cX11_is 4 = .ok (.aload_n 0, 1) := dg_cX11_is_22.2.2.1
theorem dX11_is_5 : decode cX11_is 5 = .ok (.getfield 99, 3) := dg_cX11_is_22.2.2.2.1
theorem dX11_is_8 : decode cX11_is 8 = .ok (.isub, 1) := dg_cX11_is_22.2.2.2.2.1
theorem dX11_is_9 : decode cX11_is 9 = .ok (.iload_n 1, 1) := dg_cX11_is_22.2.2.2.2.2.1
theorem dX11_is_10 : decode cX11_is 10 = .ok (.if_icmp .ne 68, 3) := dg_cX11_is_22.2.2.2.2.2.2.1
theorem dX11_is_13 : decode cX11_is 13 = .ok (.aload_n 0, 1) := dg_cX11_is_22.2.2.2.2.2.2.2.1
theorem dX11_is_14 : decode cX11_is 14 = .ok (.aload_n 0, 1) := dg_cX11_is_22.2.2.2.2.2.2.2.2.1
theorem dX11_is_15 : decode cX11_is 15 = .ok (.getfield 99, 3) := dg_cX11_is_22.2.2.2.2.2.2.2.2.2.1
theorem dX11_is_18 : decode cX11_is 18 = .ok (.invokevirtual 108, 3) := dg_cX11_is_22.2.2.2.2.2.2.2.2.2.2.1
theorem dX11_is_21 : decode cX11_is 21 = .ok (.iload_n 2, 1) := dg_cX11_is_22.2.2.2.2.2.2.2.2.2.2.2.1
theorem dX11_is_22 : decode cX11_is 22 = .ok (.if_icmp .ne 56, 3) := dg_cX11_is_22.2.2.2.2.2.2.2.2.2.2.2.2.1
theorem dX11_is_25 : decode cX11_is 25 = .ok (.aload_n 0, 1) := dg_cX11_is_22.2.2.2.2.2.2.2.2.2.2.2.2.2.1
theorem dX11_is_26 : decode cX11_is 26 = .ok (.aload_n 0, 1) := dg_cX11_is_22.2.2.2.2.2.2.2.2.2.2.2.2.2.2.1
theorem dX11_is_27 : decode cX11_is 27 = .ok (.getfield 99, 3) := dg_cX11_is_22.2.2.2.2.2.2.2.2.2.2.2.2.2.2.2
set_option maxRecDepth 100000 in
theorem dg_cX11_is_23 : (decode cX11_is 30 = .ok (.iconst 1, 1)) ∧ (decode cX11_is 31 = .ok (.iadd, 1)) ∧ (decode cX11_is 32 = .ok (.invokevirtual 108, 3)) ∧ (decode cX11_is 35 = .ok (.iload_n 3, 1)) ∧ (decode cX11_is 36 = .ok (.if_icmp .ne 42, 3)) ∧ (decode cX11_is 39 = .ok (.aload_n 0, 1)) ∧ (decode cX11_is 40 = .ok (.aload_n 0, 1)) ∧ (decode cX11_is 41 = .ok (.getfield 99, 3)) ∧ (decode cX11_is 44 = .ok (.iconst 2, 1)) ∧ (decode cX11_is 45 = .ok (.iadd, 1)) ∧ (decode cX11_is 46 = .ok (.invokevirtual 108, 3)) ∧ (decode cX11_is 49 = .ok (.iload 4, 2)) ∧ (decode cX11_is 51 = .ok (.if_icmp .ne 27, 3)) ∧ (decode cX11_is 54 = .ok (.iload_n 1, 1)) ∧ (decode cX11_is 55 = .ok (.iconst 4, 1)) ∧ (decode cX11_is 56 = .ok (.if_icmp .lt 18, 3)) := by decide +kernel
theorem dX11_is_30 : decode cX11_is 30 = .ok (.iconst 1, 1) := dg_cX11_is_23.1
theorem dX11_is_31 : decode cX11_is 31 = .ok (.iadd, 1) := dg_cX11_is_23.2.1
theorem dX11_is_32 : decode cX11_is 32 = .ok (.invokevirtual 108, 3) := dg_cX11_is_23.2.2.1
theorem dX11_is_35 : decode cX11_is 35 = .ok (.iload_n 3, 1) := dg_cX11_is_23.2.2.2.1
theorem dX11_is_36 : decode cX11_is 36 = .ok (.if_icmp .ne 42, 3) := dg_cX11_is_23.2.2.2.2.1
theorem dX11_is_39 : decode cX11_is 39 = .ok (.aload_n 0, 1) := dg_cX11_is_23.2.2.2.2.2.1
theorem dX11_is_40 : decode cX11_is 40 = .ok (.aload_n 0, 1) := dg_cX11_is_23.2.2.2.2.2.2.1
theorem dX11_is_41 : decode cX11_is 41 = .ok (.getfield 99, 3) := dg_cX11_is_23.2.2.2.2.2.2.2.1
theorem dX11_is_44 : decode cX11_is 44 = .ok (.iconst 2, 1) := dg_cX11_is_23.2.2.2.2.2.2.2.2.1
theorem dX11_is_45 : decode cX11_is 45 = .ok (.iadd, 1) := dg_cX11_is_23.2.2.2.2.2.2.2.2.2.1
theorem dX11_is_46 : decode cX11_is 46 = .ok (.invokevirtual 108, 3) := dg_cX11_is_23.2.2.2.2.2.2.2.2.2.2.1
theorem dX11_is_49 : decode cX11_is 49 = .ok (.iload 4, 2) := dg_cX11_is_23.2.2.2.2.2.2.2.2.2.2.2.1
theorem dX11_is_51 : decode cX11_is 51 = .ok (.if_icmp .ne 27, 3) := dg_cX11_is_23.2.2.2.2.2.2.2.2.2.2.2.2.1
theorem dX11_is_54 : decode cX11_is 54 = .ok (.iload_n 1, 1) := dg_cX11_is_23.2.2.2.2.2.2.2.2.2.2.2.2.2.1
theorem dX11_is_55 : decode cX11_is 55 = .ok (.iconst 4, 1) := dg_cX11_is_23.2.2.2.2.2.2.2.2.2.2.2.2.2.2.1
theorem dX11_is_56 : decode cX11_is 56 = .ok (.if_icmp .lt 18, 3) := dg_cX11_is_23.2.2.2.2.2.2.2.2.2.2.2.2.2.2.2
set_option maxRecDepth 100000 in
theorem dg_cX11_is_24 : (decode cX11_is 59 = .ok (.aload_n 0, 1)) ∧ (decode cX11_is 60 = .ok (.aload_n 0, 1)) ∧ (decode cX11_is 61 = .ok (.getfield 99, 3)) ∧ (decode cX11_is 64 = .ok (.iconst 3, 1)) ∧ (decode cX11_is 65 = .ok (.iadd, 1)) ∧ (decode cX11_is 66 = .ok (.invokevirtual 108, 3)) ∧ (decode cX11_is 69 = .ok (.iload 5, 2)) ∧ (decode cX11_is 71 = .ok (.if_icmp .ne 7, 3)) ∧ (decode cX11_is 74 = .ok (.iconst 1, 1)) ∧ (decode cX11_is 75 = .ok (.goto 4, 3)) ∧ (decode cX11_is 78 = .ok (.iconst 0, 1)) ∧ (decode cX11_is 79 = .ok (.ireturn, 1)) := by decide +kernel
theorem dX11_is_59 : decode cX11_is 59 = .ok (.aload_n 0, 1) := dg_cX11_is_24.1
theorem dX11_is_60 : decode cX11_is 60 = .ok (.aload_n 0, 1) := dg_cX11_is_24.2.1
theorem dX11_is_61 : decode cX11_is 61 = .ok (.getfield 99, 3) := dg_cX11_is_24.2.2.1
theorem dX11_is_64 : decode cX11_is 64 = .ok (.iconst 3, 1) := dg_cX11_is_24.2.2.2.1
theorem dX11_is_65 : decode cX11_is 65 = .ok (.iadd, 1) := dg_cX11_is_24.2.2.2.2.1
theorem dX11_is_66 : decode cX11_is 66 = .ok (.invokevirtual 108, 3) := dg_cX11_is_24.2.2.2.2.2.1
theorem dX11_is_69 : decode cX11_is 69 = .ok (.iload 5, 2) := dg_cX11_is_24.2.2.2.2.2.2.1
theorem dX11_is_71 : decode cX11_is 71 = .ok (.if_icmp .ne 7, 3) := dg_cX11_is_24.2.2.2.2.2.2.2.1
theorem dX11_is_74 : decode cX11_is 74 = .ok (.iconst 1, 1) := dg_cX11_is_24.2.2.2.2.2.2.2.2.1
theorem dX11_is_75 : decode cX11_is 75 = .ok (.goto 4, 3) := dg_cX11_is_24.2.2.2.2.2.2.2.2.2.1
theorem dX11_is_78 : decode cX11_is 78 = .ok (.iconst 0, 1) := dg_cX11_is_24.2.2.2.2.2.2.2.2.2.2.1
theorem dX11_is_79 : decode cX11_is 79 = .ok (.ireturn, 1) := dg_cX11_is_24.2.2.2.2.2.2.2.2.2.2.2
set_option maxRecDepth 100000 in
theorem dg_cX11_nameNow_25 : (decode cX11_nameNow 0 = .ok (.aload_n 0, 1)) ∧ (decode cX11_nameNow 1 = .ok (.bipush 6, 2)) ∧ (decode cX11_nameNow 3 = .ok (.bipush 104, 2)) ∧ (decode cX11_nameNow 5 = .ok (.bipush 111, 2)) ∧ (decode cX11_nameNow 7 = .ok (.bipush 117, 2)) ∧ (decode cX11_nameNow 9 = .ok (.bipush 115, 2)) ∧ (decode cX11_nameNow 11 = .ok (.invokevirtual 112, 3)) ∧ (decode cX11_nameNow 14 = .ok (.ifCond .eq 35, 3)) ∧ (decode cX11_nameNow 17 = .ok (.aload_n 0, 1)) ∧ (decode cX11_nameNow 18 = .ok (.aload_n 0, 1)) ∧ (decode cX11_nameNow 19 = .ok (.getfield 99, 3)) ∧ (decode cX11_nameNow 22 = .ok (.iconst 4, 1)) ∧ (decode cX11_nameNow 23 = .ok (.iadd, 1)) ∧ (decode cX11_nameNow 24 = .ok (.invokevirtual 108, 3)) ∧ (decode cX11_nameNow 27 = .ok (.bipush 101, 2)) ∧ (decode cX11_nameNow 29 = .ok (.if_icmp .ne 20, 3)) := by decide +kernel
theorem dX11_nameNow_0 : decode cX11_nameNow 0 = .ok (.aload_n 0, 1) := dg_cX11_nameNow_25.1
theorem dX11_nameNow_1 : decode cX11_nameNow 1 = .ok (.bipush 6, 2) := dg_cX11_nameNow_25.2.1
theorem dX11_nameNow_3 : decode cX11_nameNow 3 = .ok (.bipush 104, 2) := dg_cX11_nameNow_25.2.2.1
theorem dX11_nameNow_5 : decode cX11_nameNow 5 = .ok (.bipush 111, 2) := dg_cX11_nameNow_25.2.2.2.1
theorem dX11_nameNow_7 : decode cX11_nameNow 7 = .ok (.bipush 117, 2) := dg_cX11_nameNow_25.2.2.2.2.1
theorem dX11_nameNow_9 : decode cX11_nameNow 9 = .ok (.bipush 115, 2) := dg_cX11_nameNow_25.2.2.2.2.2.1
theorem dX11_nameNow_11 : decode cX11_nameNow 11 = .ok (.invokevirtual 112, 3) := dg_cX11_nameNow_25.2.2.2.2.2.2.1
theorem dX11_nameNow_14 : decode cX11_nameNow 14 = .ok (.ifCond .eq 35, 3) := dg_cX11_nameNow_25.2.2.2.2.2.2.2.1
theorem dX11_nameNow_17 : decode cX11_nameNow 17 = .ok (.aload_n 0, 1) := dg_cX11_nameNow_25.2.2.2.2.2.2.2.2.1
theorem dX11_nameNow_18 : decode cX11_nameNow 18 = .ok (.aload_n 0, 1) := dg_cX11_nameNow_25.2.2.2.2.2.2.2.2.2.1
theorem dX11_nameNow_19 : decode cX11_nameNow 19 = .ok (.getfield 99, 3) := dg_cX11_nameNow_25.2.2.2.2.2.2.2.2.2.2.1
theorem dX11_nameNow_22 : decode cX11_nameNow 22 = .ok (.iconst 4, 1) := dg_cX11_nameNow_25.2.2.2.2.2.2.2.2.2.2.2.1
theorem dX11_nameNow_23 : decode cX11_nameNow 23 = .ok (.iadd, 1) := dg_cX11_nameNow_25.2.2.2.2.2.2.2.2.2.2.2.2.1
theorem dX11_nameNow_24 : decode cX11_nameNow 24 = .ok (.invokevirtual 108, 3) := dg_cX11_nameNow_25.2.2.2.2.2.2.2.2.2.2.2.2.2.1
theorem dX11_nameNow_27 : decode cX11_nameNow 27 = .ok (.bipush 101, 2) := dg_cX11_nameNow_25.2.2.2.2.2.2.2.2.2.2.2.2.2.2.1
theorem dX11_nameNow_29 : decode cX11_nameNow 29 = .ok (.if_icmp .ne 20, 3) := dg_cX11_nameNow_25.2.2.2.2.2.2.2.2.2.2.2.2.2.2.2
set_option maxRecDepth 100000 in
theorem dg_cX11_nameNow_26 : (decode cX11_nameNow 32 = .ok (.aload_n 0, 1)) ∧ (decode cX11_nameNow 33 = .ok (.aload_n 0, 1)) ∧ (decode cX11_nameNow 34 = .ok (.getfield 99, 3)) ∧ (decode cX11_nameNow 37 = .ok (.iconst 5, 1)) ∧ (decode cX11_nameNow 38 = .ok (.iadd, 1)) ∧ (decode cX11_nameNow 39 = .ok (.invokevirtual 108, 3)) ∧ (decode cX11_nameNow 42 = .ok (.bipush 115, 2)) ∧ (decode cX11_nameNow 44 = .ok (.if_icmp .ne 5, 3)) ∧ (decode cX11_nameNow 47 = .ok (.iconst 0, 1)) ∧ (decode cX11_nameNow 48 = .ok (.ireturn, 1)) ∧ (decode cX11_nameNow 49 = .ok (.aload_n 0, 1)) ∧ (decode cX11_nameNow 50 = .ok (.iconst 3, 1)) ∧ (decode cX11_nameNow 51 = .ok (.bipush 103, 2)) ∧ (decode cX11_nameNow 53 = .ok (.bipush 97, 2)) ∧ (decode cX11_nameNow 55 = .ok (.bipush 112, 2)) ∧ (decode cX11_nameNow 57 = .ok (.iconst 0, 1)) := by decide +kernel
theorem dX11_nameNow_32 : decode cX11_nameNow 32 = .ok (.aload_n 0, 1) := dg_cX11_nameNow_26.1
theorem dX11_nameNow_33 : decode cX11_nameNow 33 = .ok (.aload_n 0, 1) := dg_cX11_nameNow_26.2.1
theorem dX11_nameNow_34 : decode cX11_nameNow 34 = .ok (.getfield 99, 3) := dg_cX11_nameNow_26.2.2.1
theorem dX11_nameNow_37 : decode cX11_nameNow 37 = .ok (.iconst 5, 1) := dg_cX11_nameNow_26.2.2.2.1
theorem dX11_nameNow_38 : decode cX11_nameNow 38 = .ok (.iadd, 1) := dg_cX11_nameNow_26.2.2.2.2.1
theorem dX11_nameNow_39 : decode cX11_nameNow 39 = .ok (.invokevirtual 108, 3) := dg_cX11_nameNow_26.2.2.2.2.2.1
theorem dX11_nameNow_42 : decode cX11_nameNow 42 = .ok (.bipush 115, 2) := dg_cX11_nameNow_26.2.2.2.2.2.2.1
theorem dX11_nameNow_44 : decode cX11_nameNow 44 = .ok (.if_icmp .ne 5, 3) := dg_cX11_nameNow_26.2.2.2.2.2.2.2.1
theorem dX11_nameNow_47 : decode cX11_nameNow 47 = .ok (.iconst 0, 1) := dg_cX11_nameNow_26.2.2.2.2.2.2.2.2.1
theorem dX11_nameNow_48 : decode cX11_nameNow 48 = .ok (.ireturn, 1) := dg_cX11_nameNow_26.2.2.2.2.2.2.2.2.2.1
theorem dX11_nameNow_49 : decode cX11_nameNow 49 = .ok (.aload_n 0, 1) := dg_cX11_nameNow_26.2.2.2.2.2.2.2.2.2.2.1
theorem dX11_nameNow_50 : decode cX11_nameNow 50 = .ok (.iconst 3, 1) := dg_cX11_nameNow_26.2.2.2.2.2.2.2.2.2.2.2.1
theorem dX11_nameNow_51 : decode cX11_nameNow 51 = .ok (.bipush 103, 2) := dg_cX11_nameNow_26.2.2.2.2.2.2.2.2.2.2.2.2.1
theorem dX11_nameNow_53 : decode cX11_nameNow 53 = .ok (.bipush 97, 2) := dg_cX11_nameNow_26.2.2.2.2.2.2.2.2.2.2.2.2.2.1
theorem dX11_nameNow_55 : decode cX11_nameNow 55 = .ok (.bipush 112, 2) := dg_cX11_nameNow_26.2.2.2.2.2.2.2.2.2.2.2.2.2.2.1
theorem dX11_nameNow_57 : decode cX11_nameNow 57 = .ok (.iconst 0, 1) := dg_cX11_nameNow_26.2.2.2.2.2.2.2.2.2.2.2.2.2.2.2
set_option maxRecDepth 100000 in
theorem dg_cX11_nameNow_27 : (decode cX11_nameNow 58 = .ok (.invokevirtual 112, 3)) ∧ (decode cX11_nameNow 61 = .ok (.ifCond .eq 5, 3)) ∧ (decode cX11_nameNow 64 = .ok (.iconst 1, 1)) ∧ (decode cX11_nameNow 65 = .ok (.ireturn, 1)) ∧ (decode cX11_nameNow 66 = .ok (.aload_n 0, 1)) ∧ (decode cX11_nameNow 67 = .ok (.iconst 4, 1)) ∧ (decode cX11_nameNow 68 = .ok (.bipush 98, 2)) ∧ (decode cX11_nameNow 70 = .ok (.bipush 101, 2)) ∧ (decode cX11_nameNow 72 = .ok (.bipush 108, 2)) ∧ (decode cX11_nameNow 74 = .ok (.bipush 108, 2)) ∧ (decode cX11_nameNow 76 = .ok (.invokevirtual 112, 3)) ∧ (decode cX11_nameNow 79 = .ok (.ifCond .eq 5, 3)) ∧ (decode cX11_nameNow 82 = .ok (.iconst 2, 1)) ∧ (decode cX11_nameNow 83 = .ok (.ireturn, 1)) ∧ (decode cX11_nameNow 84 = .ok (.aload_n 0, 1)) ∧ (decode cX11_nameNow 85 = .ok (.iconst 4, 1)) := by decide +kernel
theorem dX11_nameNow_58 : decode cX11_nameNow 58 = .ok (.invokevirtual 112, 3) := dg_cX11_nameNow_27.1
theorem dX11_nameNow_61 : decode cX11_nameNow 61 = .ok (.ifCond .eq 5, 3) := dg_cX11_nameNow_27.2.1
theorem dX11_nameNow_64 : decode cX11_nameNow 64 = .ok (.iconst 1, 1) := dg_cX11_nameNow_27.2.2.1
theorem dX11_nameNow_65 : decode cX11_nameNow 65 = .ok (.ireturn, 1) := dg_cX11_nameNow_27.2.2.2.1
theorem dX11_nameNow_66 : decode cX11_nameNow 66 = .ok (.aload_n 0, 1) := dg_cX11_nameNow_27.2.2.2.2.1
theorem dX11_nameNow_67 : decode cX11_nameNow 67 = .ok (.iconst 4, 1) := dg_cX11_nameNow_27.2.2.2.2.2.1
theorem dX11_nameNow_68 : decode cX11_nameNow 68 = .ok (.bipush 98, 2) := dg_cX11_nameNow_27.2.2.2.2.2.2.1
theorem dX11_nameNow_70 : decode cX11_nameNow 70 = .ok (.bipush 101, 2) := dg_cX11_nameNow_27.2.2.2.2.2.2.2.1
theorem dX11_nameNow_72 : decode cX11_nameNow 72 = .ok (.bipush 108, 2) := dg_cX11_nameNow_27.2.2.2.2.2.2.2.2.1
theorem dX11_nameNow_74 : decode cX11_nameNow 74 = .ok (.bipush 108, 2) := dg_cX11_nameNow_27.2.2.2.2.2.2.2.2.2.1
theorem dX11_nameNow_76 : decode cX11_nameNow 76 = .ok (.invokevirtual 112, 3) := dg_cX11_nameNow_27.2.2.2.2.2.2.2.2.2.2.1
theorem dX11_nameNow_79 : decode cX11_nameNow 79 = .ok (.ifCond .eq 5, 3) := dg_cX11_nameNow_27.2.2.2.2.2.2.2.2.2.2.2.1
theorem dX11_nameNow_82 : decode cX11_nameNow 82 = .ok (.iconst 2, 1) := dg_cX11_nameNow_27.2.2.2.2.2.2.2.2.2.2.2.2.1
theorem dX11_nameNow_83 : decode cX11_nameNow 83 = .ok (.ireturn, 1) := dg_cX11_nameNow_27.2.2.2.2.2.2.2.2.2.2.2.2.2.1
theorem dX11_nameNow_84 : decode cX11_nameNow 84 = .ok (.aload_n 0, 1) := dg_cX11_nameNow_27.2.2.2.2.2.2.2.2.2.2.2.2.2.2.1
theorem dX11_nameNow_85 : decode cX11_nameNow 85 = .ok (.iconst 4, 1) := dg_cX11_nameNow_27.2.2.2.2.2.2.2.2.2.2.2.2.2.2.2
set_option maxRecDepth 100000 in
theorem dg_cX11_nameNow_28 : (decode cX11_nameNow 86 = .ok (.bipush 116, 2)) ∧ (decode cX11_nameNow 88 = .ok (.bipush 117, 2)) ∧ (decode cX11_nameNow 90 = .ok (.bipush 110, 2)) ∧ (decode cX11_nameNow 92 = .ok (.bipush 101, 2)) ∧ (decode cX11_nameNow 94 = .ok (.invokevirtual 112, 3)) ∧ (decode cX11_nameNow 97 = .ok (.ifCond .eq 7, 3)) ∧ (decode cX11_nameNow 100 = .ok (.iconst 3, 1)) ∧ (decode cX11_nameNow 101 = .ok (.goto 25, 3)) ∧ (decode cX11_nameNow 104 = .ok (.aload_n 0, 1)) ∧ (decode cX11_nameNow 105 = .ok (.iconst 4, 1)) ∧ (decode cX11_nameNow 106 = .ok (.bipush 102, 2)) ∧ (decode cX11_nameNow 108 = .ok (.bipush 101, 2)) ∧ (decode cX11_nameNow 110 = .ok (.bipush 117, 2)) ∧ (decode cX11_nameNow 112 = .ok (.bipush 100, 2)) ∧ (decode cX11_nameNow 114 = .ok (.invokevirtual 112, 3)) ∧ (decode cX11_nameNow 117 = .ok (.ifCond .eq 7, 3)) := by decide +kernel
theorem dX11_nameNow_86 : decode cX11_nameNow 86 = .ok (.bipush 116, 2) := dg_cX11_nameNow_28.1
theorem dX11_nameNow_88 : decode cX11_nameNow 88 = .ok (.bipush 117, 2) := dg_cX11_nameNow_28.2.1
theorem dX11_nameNow_90 : decode cX11_nameNow 90 = .ok (.bipush 110, 2) := dg_cX11_nameNow_28.2.2.1
theorem dX11_nameNow_92 : decode cX11_nameNow 92 = .ok (.bipush 101, 2) := dg_cX11_nameNow_28.2.2.2.1
theorem dX11_nameNow_94 : decode cX11_nameNow 94 = .ok (.invokevirtual 112, 3) := dg_cX11_nameNow_28.2.2.2.2.1
theorem dX11_nameNow_97 : decode cX11_nameNow 97 = .ok (.ifCond .eq 7, 3) := dg_cX11_nameNow_28.2.2.2.2.2.1
theorem dX11_nameNow_100 : decode cX11_nameNow 100 = .ok (.iconst 3, 1) := dg_cX11_nameNow_28.2.2.2.2.2.2.1
theorem dX11_nameNow_101 : decode cX11_nameNow 101 = .ok (.goto 25, 3) := dg_cX11_nameNow_28.2.2.2.2.2.2.2.1
theorem dX11_nameNow_104 : decode cX11_nameNow 104 = .ok (.aload_n 0, 1) := dg_cX11_nameNow_28.2.2.2.2.2.2.2.2.1
theorem dX11_nameNow_105 : decode cX11_nameNow 105 = .ok (.iconst 4, 1) := dg_cX11_nameNow_28.2.2.2.2.2.2.2.2.2.1
theorem dX11_nameNow_106 : decode cX11_nameNow 106 = .ok (.bipush 102, 2) := dg_cX11_nameNow_28.2.2.2.2.2.2.2.2.2.2.1
theorem dX11_nameNow_108 : decode cX11_nameNow 108 = .ok (.bipush 101, 2) := dg_cX11_nameNow_28.2.2.2.2.2.2.2.2.2.2.2.1
theorem dX11_nameNow_110 : decode cX11_nameNow 110 = .ok (.bipush 117, 2) := dg_cX11_nameNow_28.2.2.2.2.2.2.2.2.2.2.2.2.1
theorem dX11_nameNow_112 : decode cX11_nameNow 112 = .ok (.bipush 100, 2) := dg_cX11_nameNow_28.2.2.2.2.2.2.2.2.2.2.2.2.2.1
theorem dX11_nameNow_114 : decode cX11_nameNow 114 = .ok (.invokevirtual 112, 3) := dg_cX11_nameNow_28.2.2.2.2.2.2.2.2.2.2.2.2.2.2.1
theorem dX11_nameNow_117 : decode cX11_nameNow 117 = .ok (.ifCond .eq 7, 3) := dg_cX11_nameNow_28.2.2.2.2.2.2.2.2.2.2.2.2.2.2.2
set_option maxRecDepth 100000 in
theorem dg_cX11_nameNow_29 : (decode cX11_nameNow 120 = .ok (.iconst 4, 1)) ∧ (decode cX11_nameNow 121 = .ok (.goto 5, 3)) ∧ (decode cX11_nameNow 124 = .ok (.bipush (-4), 2)) ∧ (decode cX11_nameNow 126 = .ok (.ireturn, 1)) := by decide +kernel
theorem dX11_nameNow_120 : decode cX11_nameNow 120 = .ok (.iconst 4, 1) := dg_cX11_nameNow_29.1
theorem dX11_nameNow_121 : decode cX11_nameNow 121 = .ok (.goto 5, 3) := dg_cX11_nameNow_29.2.1
theorem dX11_nameNow_124 : decode cX11_nameNow 124 = .ok (.bipush (-4), 2) := dg_cX11_nameNow_29.2.2.1
theorem dX11_nameNow_126 : decode cX11_nameNow 126 = .ok (.ireturn, 1) := dg_cX11_nameNow_29.2.2.2
set_option maxRecDepth 100000 in
theorem dg_cX11_withNow_30 : (decode cX11_withNow 0 = .ok (.aload_n 0, 1)) ∧ (decode cX11_withNow 1 = .ok (.iconst 4, 1)) ∧ (decode cX11_withNow 2 = .ok (.bipush 104, 2)) ∧ (decode cX11_withNow 4 = .ok (.bipush 97, 2)) ∧ (decode cX11_withNow 6 = .ok (.bipush 108, 2)) ∧ (decode cX11_withNow 8 = .ok (.bipush 102, 2)) ∧ (decode cX11_withNow 10 = .ok (.invokevirtual 112, 3)) ∧ (decode cX11_withNow 13 = .ok (.ifCond .eq 8, 3)) ∧ (decode cX11_withNow 16 = .ok (.bipush 10, 2)) ∧ (decode cX11_withNow 18 = .ok (.goto 26, 3)) ∧ (decode cX11_withNow 21 = .ok (.aload_n 0, 1)) ∧ (decode cX11_withNow 22 = .ok (.iconst 4, 1)) ∧ (decode cX11_withNow 23 = .ok (.bipush 115, 2)) ∧ (decode cX11_withNow 25 = .ok (.bipush 104, 2)) ∧ (decode cX11_withNow 27 = .ok (.bipush 117, 2)) ∧ (decode cX11_withNow 29 = .ok (.bipush 116, 2)) := by decide +kernel
theorem dX11_withNow_0 : decode cX11_withNow 0 = .ok (.aload_n 0, 1) := dg_cX11_withNow_30.1
theorem dX11_withNow_1 : decode cX11_withNow 1 = .ok (.iconst 4, 1) := dg_cX11_withNow_30.2.1
theorem dX11_withNow_2 : decode cX11_withNow 2 = .ok (.bipush 104, 2) := dg_cX11_withNow_30.2.2.1
theorem dX11_withNow_4 : decode cX11_withNow 4 = .ok (.bipush 97, 2) := dg_cX11_withNow_30.2.2.2.1
theorem dX11_withNow_6 : decode cX11_withNow 6 = .ok (.bipush 108, 2) := dg_cX11_withNow_30.2.2.2.2.1
theorem dX11_withNow_8 : decode cX11_withNow 8 = .ok (.bipush 102, 2) := dg_cX11_withNow_30.2.2.2.2.2.1
theorem dX11_withNow_10 : decode cX11_withNow 10 = .ok (.invokevirtual 112, 3) := dg_cX11_withNow_30.2.2.2.2.2.2.1
theorem dX11_withNow_13 : decode cX11_withNow 13 = .ok (.ifCond .eq 8, 3) := dg_cX11_withNow_30.2.2.2.2.2.2.2.1
theorem dX11_withNow_16 : decode cX11_withNow 16 = .ok (.bipush 10, 2) := dg_cX11_withNow_30.2.2.2.2.2.2.2.2.1
theorem dX11_withNow_18 : decode cX11_withNow 18 = .ok (.goto 26, 3) := dg_cX11_withNow_30.2.2.2.2.2.2.2.2.2.1
theorem dX11_withNow_21 : decode cX11_withNow 21 = .ok (.aload_n 0, 1) := dg_cX11_withNow_30.2.2.2.2.2.2.2.2.2.2.1
theorem dX11_withNow_22 : decode cX11_withNow 22 = .ok (.iconst 4, 1) := dg_cX11_withNow_30.2.2.2.2.2.2.2.2.2.2.2.1
theorem dX11_withNow_23 : decode cX11_withNow 23 = .ok (.bipush 115, 2) := dg_cX11_withNow_30.2.2.2.2.2.2.2.2.2.2.2.2.1
theorem dX11_withNow_25 : decode cX11_withNow 25 = .ok (.bipush 104, 2) := dg_cX11_withNow_30.2.2.2.2.2.2.2.2.2.2.2.2.2.1
theorem dX11_withNow_27 : decode cX11_withNow 27 = .ok (.bipush 117, 2) := dg_cX11_withNow_30.2.2.2.2.2.2.2.2.2.2.2.2.2.2.1
theorem dX11_withNow_29 : decode cX11_withNow 29 = .ok (.bipush 116, 2) := dg_cX11_withNow_30.2.2.2.2.2.2.2.2.2.2.2.2.2.2.2
set_option maxRecDepth 100000 in
theorem dg_cX11_withNow_31 : (decode cX11_withNow 31 = .ok (.invokevirtual 112, 3)) ∧ (decode cX11_withNow 34 = .ok (.ifCond .eq 8, 3)) ∧ (decode cX11_withNow 37 = .ok (.bipush 11, 2)) ∧ (decode cX11_withNow 39 = .ok (.goto 5, 3)) ∧ (decode cX11_withNow 42 = .ok (.bipush (-4), 2)) ∧ (decode cX11_withNow 44 = .ok (.ireturn, 1)) := by decide +kernel
theorem dX11_withNow_31 : decode cX11_withNow 31 = .ok (.invokevirtual 112, 3) := dg_cX11_withNow_31.1
theorem dX11_withNow_34 : decode cX11_withNow 34 = .ok (.ifCond .eq 8, 3) := dg_cX11_withNow_31.2.1
theorem dX11_withNow_37 : decode cX11_withNow 37 = .ok (.bipush 11, 2) := dg_cX11_withNow_31.2.2.1
theorem dX11_withNow_39 : decode cX11_withNow 39 = .ok (.goto 5, 3) := dg_cX11_withNow_31.2.2.2.1
theorem dX11_withNow_42 : decode cX11_withNow 42 = .ok (.bipush (-4), 2) := dg_cX11_withNow_31.2.2.2.2.1
theorem dX11_withNow_44 : decode cX11_withNow 44 = .ok (.ireturn, 1) := dg_cX11_withNow_31.2.2.2.2.2
set_option maxRecDepth 100000 in
theorem dg_cX11_next_32 : (decode cX11_next 0 = .ok (.aload_n 0, 1)) ∧ (decode cX11_next 1 = .ok (.getfield 96, 3)) ∧ (decode cX11_next 4 = .ok (.ifCond .le 4, 3)) ∧ (decode cX11_next 7 = .ok (.return_, 1)) ∧ (decode cX11_next 8 = .ok (.aload_n 0, 1)) ∧ (decode cX11_next 9 = .ok (.aload_n 0, 1)) ∧ (decode cX11_next 10 = .ok (.getfield 105, 3)) ∧ (decode cX11_next 13 = .ok (.invokevirtual 108, 3)) ∧ (decode cX11_next 16 = .ok (.bipush 32, 2)) ∧ (decode cX11_next 18 = .ok (.if_icmp .ne 16, 3)) ∧ (decode cX11_next 21 = .ok (.aload_n 0, 1)) ∧ (decode cX11_next 22 = .ok (.dup, 1)) ∧ (decode cX11_next 23 = .ok (.getfield 105, 3)) ∧ (decode cX11_next 26 = .ok (.iconst 1, 1)) ∧ (decode cX11_next 27 = .ok (.iadd, 1)) ∧ (decode cX11_next 28 = .ok (.putfield 105, 3)) := by decide +kernel
theorem dX11_next_0 : decode cX11_next 0 = .ok (.aload_n 0, 1) := dg_cX11_next_32.1
theorem dX11_next_1 : decode cX11_next 1 = .ok (.getfield 96, 3) := dg_cX11_next_32.2.1
theorem dX11_next_4 : decode cX11_next 4 = .ok (.ifCond .le 4, 3) := dg_cX11_next_32.2.2.1
theorem dX11_next_7 : decode cX11_next 7 = .ok (.return_, 1) := dg_cX11_next_32.2.2.2.1
theorem dX11_next_8 : decode cX11_next 8 = .ok (.aload_n 0, 1) := dg_cX11_next_32.2.2.2.2.1
theorem dX11_next_9 : decode cX11_next 9 = .ok (.aload_n 0, 1) := dg_cX11_next_32.2.2.2.2.2.1
theorem dX11_next_10 : decode cX11_next 10 = .ok (.getfield 105, 3) := dg_cX11_next_32.2.2.2.2.2.2.1
theorem dX11_next_13 : decode cX11_next 13 = .ok (.invokevirtual 108, 3) := dg_cX11_next_32.2.2.2.2.2.2.2.1
theorem dX11_next_16 : decode cX11_next 16 = .ok (.bipush 32, 2) := dg_cX11_next_32.2.2.2.2.2.2.2.2.1
theorem dX11_next_18 : decode cX11_next 18 = .ok (.if_icmp .ne 16, 3) := dg_cX11_next_32.2.2.2.2.2.2.2.2.2.1
theorem dX11_next_21 : decode cX11_next 21 = .ok (.aload_n 0, 1) := dg_cX11_next_32.2.2.2.2.2.2.2.2.2.2.1
theorem dX11_next_22 : decode cX11_next 22 = .ok (.dup, 1) := dg_cX11_next_32.2.2.2.2.2.2.2.2.2.2.2.1
theorem dX11_next_23 : decode cX11_next 23 = .ok (.getfield 105, 3) := dg_cX11_next_32.2.2.2.2.2.2.2.2.2.2.2.2.1
theorem dX11_next_26 : decode cX11_next 26 = .ok (.iconst 1, 1) := dg_cX11_next_32.2.2.2.2.2.2.2.2.2.2.2.2.2.1
theorem dX11_next_27 : decode cX11_next 27 = .ok (.iadd, 1) := dg_cX11_next_32.2.2.2.2.2.2.2.2.2.2.2.2.2.2.1
theorem dX11_next_28 : decode cX11_next 28 = .ok (.putfield 105, 3) := dg_cX11_next_32.2.2.2.2.2.2.2.2.2.2.2.2.2.2.2
set_option maxRecDepth 100000 in
theorem dg_cX11_next_33 : (decode cX11_next 31 = .ok (.goto (-23), 3)) ∧ (decode cX11_next 34 = .ok (.aload_n 0, 1)) ∧ (decode cX11_next 35 = .ok (.aload_n 0, 1)) ∧ (decode cX11_next 36 = .ok (.getfield 105, 3)) ∧ (decode cX11_next 39 = .ok (.putfield 99, 3)) ∧ (decode cX11_next 42 = .ok (.aload_n 0, 1)) ∧ (decode cX11_next 43 = .ok (.aload_n 0, 1)) ∧ (decode cX11_next 44 = .ok (.getfield 105, 3)) ∧ (decode cX11_next 47 = .ok (.invokevirtual 108, 3)) ∧ (decode cX11_next 50 = .ok (.istore_n 1, 1)) ∧ (decode cX11_next 51 = .ok (.iload_n 1, 1)) ∧ (decode cX11_next 52 = .ok (.ifCond .ge 11, 3)) ∧ (decode cX11_next 55 = .ok (.aload_n 0, 1)) ∧ (decode cX11_next 56 = .ok (.iconst 0, 1)) ∧ (decode cX11_next 57 = .ok (.putfield 116, 3)) ∧ (decode cX11_next 60 = .ok (.goto 214, 3)) := by decide +kernel
theorem dX11_next_31 : decode cX11_next 31 = .ok (.goto (-23), 3) := dg_cX11_next_33.1
theorem dX11_next_34 : decode cX11_next 34 = .ok (.aload_n 0, 1) := dg_cX11_next_33.2.1
theorem dX11_next_35 : decode cX11_next 35 = .ok (.aload_n 0, 1) := dg_cX11_next_33.2.2.1
theorem dX11_next_36 : decode cX11_next 36 = .ok (.getfield 105, 3) := dg_cX11_next_33.2.2.2.1
theorem dX11_next_39 : decode cX11_next 39 = .ok (.putfield 99, 3) := dg_cX11_next_33.2.2.2.2.1
theorem dX11_next_42 : decode cX11_next 42 = .ok (.aload_n 0, 1) := dg_cX11_next_33.2.2.2.2.2.1
theorem dX11_next_43 : decode cX11_next 43 = .ok (.aload_n 0, 1) := dg_cX11_next_33.2.2.2.2.2.2.1
theorem dX11_next_44 : decode cX11_next 44 = .ok (.getfield 105, 3) := dg_cX11_next_33.2.2.2.2.2.2.2.1
theorem dX11_next_47 : decode cX11_next 47 = .ok (.invokevirtual 108, 3) := dg_cX11_next_33.2.2.2.2.2.2.2.2.1
theorem dX11_next_50 : decode cX11_next 50 = .ok (.istore_n 1, 1) := dg_cX11_next_33.2.2.2.2.2.2.2.2.2.1
theorem dX11_next_51 : decode cX11_next 51 = .ok (.iload_n 1, 1) := dg_cX11_next_33.2.2.2.2.2.2.2.2.2.2.1
theorem dX11_next_52 : decode cX11_next 52 = .ok (.ifCond .ge 11, 3) := dg_cX11_next_33.2.2.2.2.2.2.2.2.2.2.2.1
theorem dX11_next_55 : decode cX11_next 55 = .ok (.aload_n 0, 1) := dg_cX11_next_33.2.2.2.2.2.2.2.2.2.2.2.2.1
theorem dX11_next_56 : decode cX11_next 56 = .ok (.iconst 0, 1) := dg_cX11_next_33.2.2.2.2.2.2.2.2.2.2.2.2.2.1
theorem dX11_next_57 : decode cX11_next 57 = .ok (.putfield 116, 3) := dg_cX11_next_33.2.2.2.2.2.2.2.2.2.2.2.2.2.2.1
theorem dX11_next_60 : decode cX11_next 60 = .ok (.goto 214, 3) := dg_cX11_next_33.2.2.2.2.2.2.2.2.2.2.2.2.2.2.2
set_option maxRecDepth 100000 in
theorem dg_cX11_next_34 : (decode cX11_next 63 = .ok (.iload_n 1, 1)) ∧ (decode cX11_next 64 = .ok (.i2l, 1)) ∧ (decode cX11_next 65 = .ok (.ldc2_w 119, 3)) ∧ (decode cX11_next 68 = .ok (.ldc2_w 121, 3)) ∧ (decode cX11_next 71 = .ok (.invokestatic 92, 3)) ∧ (decode cX11_next 74 = .ok (.ifCond .eq 42, 3)) ∧ (decode cX11_next 77 = .ok (.aload_n 0, 1)) ∧ (decode cX11_next 78 = .ok (.iconst 1, 1)) ∧ (decode cX11_next 79 = .ok (.putfield 116, 3)) ∧ (decode cX11_next 82 = .ok (.aload_n 0, 1)) ∧ (decode cX11_next 83 = .ok (.aload_n 0, 1)) ∧ (decode cX11_next 84 = .ok (.getfield 105, 3)) ∧ (decode cX11_next 87 = .ok (.invokevirtual 108, 3)) ∧ (decode cX11_next 90 = .ok (.i2l, 1)) ∧ (decode cX11_next 91 = .ok (.ldc2_w 119, 3)) ∧ (decode cX11_next 94 = .ok (.ldc2_w 121, 3)) := by decide +kernel
theorem dX11_next_63 : decode cX11_next 63 = .ok (.iload_n 1, 1) := dg_cX11_next_34.1
theorem dX11_next_64 : decode cX11_next 64 = .ok (.i2l, 1) := dg_cX11_next_34.2.1
theorem dX11_next_65 : decode cX11_next 65 = .ok (.ldc2_w 119, 3) := dg_cX11_next_34.2.2.1
theorem dX11_next_68 : decode cX11_next 68 = .ok (.ldc2_w 121, 3) := dg_cX11_next_34.2.2.2.1
theorem dX11_next_71 : decode cX11_next 71 = .ok (.invokestatic 92, 3) := dg_cX11_next_34.2.2.2.2.1
theorem dX11_next_74 : decode cX11_next 74 = .ok (.ifCond .eq 42, 3) := dg_cX11_next_34.2.2.2.2.2.1
theorem dX11_next_77 : decode cX11_next 77 = .ok (.aload_n 0, 1) := dg_cX11_next_34.2.2.2.2.2.2.1
theorem dX11_next_78 : decode cX11_next 78 = .ok (.iconst 1, 1) := dg_cX11_next_34.2.2.2.2.2.2.2.1
theorem dX11_next_79 : decode cX11_next 79 = .ok (.putfield 116, 3) := dg_cX11_next_34.2.2.2.2.2.2.2.2.1
theorem dX11_next_82 : decode cX11_next 82 = .ok (.aload_n 0, 1) := dg_cX11_next_34.2.2.2.2.2.2.2.2.2.1
theorem dX11_next_83 : decode cX11_next 83 = .ok (.aload_n 0, 1) := dg_cX11_next_34.2.2.2.2.2.2.2.2.2.2.1
theorem dX11_next_84 : decode cX11_next 84 = .ok (.getfield 105, 3) := dg_cX11_next_34.2.2.2.2.2.2.2.2.2.2.2.1
theorem dX11_next_87 : decode cX11_next 87 = .ok (.invokevirtual 108, 3) := dg_cX11_next_34.2.2.2.2.2.2.2.2.2.2.2.2.1
theorem dX11_next_90 : decode cX11_next 90 = .ok (.i2l, 1) := dg_cX11_next_34.2.2.2.2.2.2.2.2.2.2.2.2.2.1
theorem dX11_next_91 : decode cX11_next 91 = .ok (.ldc2_w 119, 3) := dg_cX11_next_34.2.2.2.2.2.2.2.2.2.2.2.2.2.2.1
theorem dX11_next_94 : decode cX11_next 94 = .ok (.ldc2_w 121, 3) := dg_cX11_next_34.2.2.2.2.2.2.2.2.2.2.2.2.2.2.2
set_option maxRecDepth 100000 in
theorem dg_cX11_next_35 : (decode cX11_next 97 = .ok (.invokestatic 92, 3)) ∧ (decode cX11_next 100 = .ok (.ifCond .eq 174, 3)) ∧ (decode cX11_next 103 = .ok (.aload_n 0, 1)) ∧ (decode cX11_next 104 = .ok (.dup, 1)) ∧ (decode cX11_next 105 = .ok (.getfield 105, 3)) ∧ (decode cX11_next 108 = .ok (.iconst 1, 1)) ∧ (decode cX11_next 109 = .ok (.iadd, 1)) ∧ (decode cX11_next 110 = .ok (.putfield 105, 3)) ∧ (decode cX11_next 113 = .ok (.goto (-31), 3)) ∧ (decode cX11_next 116 = .ok (.iload_n 1, 1)) ∧ (decode cX11_next 117 = .ok (.i2l, 1)) ∧ (decode cX11_next 118 = .ok (.ldc2_w 123, 3)) ∧ (decode cX11_next 121 = .ok (.ldc2_w 125, 3)) ∧ (decode cX11_next 124 = .ok (.invokestatic 92, 3)) ∧ (decode cX11_next 127 = .ok (.ifCond .eq 116, 3)) ∧ (decode cX11_next 130 = .ok (.aload_n 0, 1)) := by decide +kernel
theorem dX11_next_97 : decode cX11_next 97 = .ok (.invokestatic 92, 3) := dg_cX11_next_35.1
theorem dX11_next_100 : decode cX11_next 100 = .ok (.ifCond .eq 174, 3) := dg_cX11_next_35.2.1
theorem dX11_next_103 : decode cX11_next 103 = .ok (.aload_n 0, 1) := dg_cX11_next_35.2.2.1
theorem dX11_next_104 : decode cX11_next 104 = .ok (.dup, 1) := dg_cX11_next_35.2.2.2.1
theorem dX11_next_105 : decode cX11_next 105 = .ok (.getfield 105, 3) := dg_cX11_next_35.2.2.2.2.1
theorem dX11_next_108 : decode cX11_next 108 = .ok (.iconst 1, 1) := dg_cX11_next_35.2.2.2.2.2.1
theorem dX11_next_109 : decode cX11_next 109 = .ok (.iadd, 1) := dg_cX11_next_35.2.2.2.2.2.2.1
theorem dX11_next_110 : decode cX11_next 110 = .ok (.putfield 105, 3) := dg_cX11_next_35.2.2.2.2.2.2.2.1
theorem dX11_next_113 : decode cX11_next 113 = .ok (.goto (-31), 3) := dg_cX11_next_35.2.2.2.2.2.2.2.2.1
theorem dX11_next_116 : decode cX11_next 116 = .ok (.iload_n 1, 1) := dg_cX11_next_35.2.2.2.2.2.2.2.2.2.1
theorem dX11_next_117 : decode cX11_next 117 = .ok (.i2l, 1) := dg_cX11_next_35.2.2.2.2.2.2.2.2.2.2.1
theorem dX11_next_118 : decode cX11_next 118 = .ok (.ldc2_w 123, 3) := dg_cX11_next_35.2.2.2.2.2.2.2.2.2.2.2.1
theorem dX11_next_121 : decode cX11_next 121 = .ok (.ldc2_w 125, 3) := dg_cX11_next_35.2.2.2.2.2.2.2.2.2.2.2.2.1
theorem dX11_next_124 : decode cX11_next 124 = .ok (.invokestatic 92, 3) := dg_cX11_next_35.2.2.2.2.2.2.2.2.2.2.2.2.2.1
theorem dX11_next_127 : decode cX11_next 127 = .ok (.ifCond .eq 116, 3) := dg_cX11_next_35.2.2.2.2.2.2.2.2.2.2.2.2.2.2.1
theorem dX11_next_130 : decode cX11_next 130 = .ok (.aload_n 0, 1) := dg_cX11_next_35.2.2.2.2.2.2.2.2.2.2.2.2.2.2.2
set_option maxRecDepth 100000 in
theorem dg_cX11_next_36 : (decode cX11_next 131 = .ok (.iconst 2, 1)) ∧ (decode cX11_next 132 = .ok (.putfield 116, 3)) ∧ (decode cX11_next 135 = .ok (.aload_n 0, 1)) ∧ (decode cX11_next 136 = .ok (.iconst 0, 1)) ∧ (decode cX11_next 137 = .ok (.putfield 127, 3)) ∧ (decode cX11_next 140 = .ok (.aload_n 0, 1)) ∧ (decode cX11_next 141 = .ok (.aload_n 0, 1)) ∧ (decode cX11_next 142 = .ok (.getfield 105, 3)) ∧ (decode cX11_next 145 = .ok (.invokevirtual 108, 3)) ∧ (decode cX11_next 148 = .ok (.i2l, 1)) ∧ (decode cX11_next 149 = .ok (.ldc2_w 123, 3)) ∧ (decode cX11_next 152 = .ok (.ldc2_w 125, 3)) ∧ (decode cX11_next 155 = .ok (.invokestatic 92, 3)) ∧ (decode cX11_next 158 = .ok (.ifCond .eq 59, 3)) ∧ (decode cX11_next 161 = .ok (.aload_n 0, 1)) ∧ (decode cX11_next 162 = .ok (.aload_n 0, 1)) := by decide +kernel
theorem dX11_next_131 : decode cX11_next 131 = .ok (.iconst 2, 1) := dg_cX11_next_36.1
theorem dX11_next_132 : decode cX11_next 132 = .ok (.putfield 116, 3) := dg_cX11_next_36.2.1
theorem dX11_next_135 : decode cX11_next 135 = .ok (.aload_n 0, 1) := dg_cX11_next_36.2.2.1
theorem dX11_next_136 : decode cX11_next 136 = .ok (.iconst 0, 1) := dg_cX11_next_36.2.2.2.1
theorem dX11_next_137 : decode cX11_next 137 = .ok (.putfield 127, 3) := dg_cX11_next_36.2.2.2.2.1
theorem dX11_next_140 : decode cX11_next 140 = .ok (.aload_n 0, 1) := dg_cX11_next_36.2.2.2.2.2.1
theorem dX11_next_141 : decode cX11_next 141 = .ok (.aload_n 0, 1) := dg_cX11_next_36.2.2.2.2.2.2.1
theorem dX11_next_142 : decode cX11_next 142 = .ok (.getfield 105, 3) := dg_cX11_next_36.2.2.2.2.2.2.2.1
theorem dX11_next_145 : decode cX11_next 145 = .ok (.invokevirtual 108, 3) := dg_cX11_next_36.2.2.2.2.2.2.2.2.1
theorem dX11_next_148 : decode cX11_next 148 = .ok (.i2l, 1) := dg_cX11_next_36.2.2.2.2.2.2.2.2.2.1
theorem dX11_next_149 : decode cX11_next 149 = .ok (.ldc2_w 123, 3) := dg_cX11_next_36.2.2.2.2.2.2.2.2.2.2.1
theorem dX11_next_152 : decode cX11_next 152 = .ok (.ldc2_w 125, 3) := dg_cX11_next_36.2.2.2.2.2.2.2.2.2.2.2.1
theorem dX11_next_155 : decode cX11_next 155 = .ok (.invokestatic 92, 3) := dg_cX11_next_36.2.2.2.2.2.2.2.2.2.2.2.2.1
theorem dX11_next_158 : decode cX11_next 158 = .ok (.ifCond .eq 59, 3) := dg_cX11_next_36.2.2.2.2.2.2.2.2.2.2.2.2.2.1
theorem dX11_next_161 : decode cX11_next 161 = .ok (.aload_n 0, 1) := dg_cX11_next_36.2.2.2.2.2.2.2.2.2.2.2.2.2.2.1
theorem dX11_next_162 : decode cX11_next 162 = .ok (.aload_n 0, 1) := dg_cX11_next_36.2.2.2.2.2.2.2.2.2.2.2.2.2.2.2
set_option maxRecDepth 100000 in
theorem dg_cX11_next_37 : (decode cX11_next 163 = .ok (.getfield 105, 3)) ∧ (decode cX11_next 166 = .ok (.aload_n 0, 1)) ∧ (decode cX11_next 167 = .ok (.getfield 99, 3)) ∧ (decode cX11_next 170 = .ok (.isub, 1)) ∧ (decode cX11_next 171 = .ok (.iconst 2, 1)) ∧ (decode cX11_next 172 = .ok (.if_icmp .ge 25, 3)) ∧ (decode cX11_next 175 = .ok (.bipush 10, 2)) ∧ (decode cX11_next 177 = .ok (.aload_n 0, 1)) ∧ (decode cX11_next 178 = .ok (.getfield 127, 3)) ∧ (decode cX11_next 181 = .ok (.imul, 1)) ∧ (decode cX11_next 182 = .ok (.aload_n 0, 1)) ∧ (decode cX11_next 183 = .ok (.aload_n 0, 1)) ∧ (decode cX11_next 184 = .ok (.getfield 105, 3)) ∧ (decode cX11_next 187 = .ok (.invokevirtual 108, 3)) ∧ (decode cX11_next 190 = .ok (.iadd, 1)) ∧ (decode cX11_next 191 = .ok (.bipush 48, 2)) := by decide +kernel
theorem dX11_next_163 : decode cX11_next 163 = .ok (.getfield 105, 3) := dg_cX11_next_37.1
theorem dX11_next_166 : decode cX11_next 166 = .ok (.aload_n 0, 1) := dg_cX11_next_37.2.1
theorem dX11_next_167 : decode cX11_next 167 = .ok (.getfield 99, 3) := dg_cX11_next_37.2.2.1
theorem dX11_next_170 : decode cX11_next 170 = .ok (.isub, 1) := dg_cX11_next_37.2.2.2.1
theorem dX11_next_171 : decode cX11_next 171 = .ok (.iconst 2, 1) := dg_cX11_next_37.2.2.2.2.1
theorem dX11_next_172 : decode cX11_next 172 = .ok (.if_icmp .ge 25, 3) := dg_cX11_next_37.2.2.2.2.2.1
theorem dX11_next_175 : decode cX11_next 175 = .ok (.bipush 10, 2) := dg_cX11_next_37.2.2.2.2.2.2.1
theorem dX11_next_177 : decode cX11_next 177 = .ok (.aload_n 0, 1) := dg_cX11_next_37.2.2.2.2.2.2.2.1
theorem dX11_next_178 : decode cX11_next 178 = .ok (.getfield 127, 3) := dg_cX11_next_37.2.2.2.2.2.2.2.2.1
theorem dX11_next_181 : decode cX11_next 181 = .ok (.imul, 1) := dg_cX11_next_37.2.2.2.2.2.2.2.2.2.1
theorem dX11_next_182 : decode cX11_next 182 = .ok (.aload_n 0, 1) := dg_cX11_next_37.2.2.2.2.2.2.2.2.2.2.1
theorem dX11_next_183 : decode cX11_next 183 = .ok (.aload_n 0, 1) := dg_cX11_next_37.2.2.2.2.2.2.2.2.2.2.2.1
theorem dX11_next_184 : decode cX11_next 184 = .ok (.getfield 105, 3) := dg_cX11_next_37.2.2.2.2.2.2.2.2.2.2.2.2.1
theorem dX11_next_187 : decode cX11_next 187 = .ok (.invokevirtual 108, 3) := dg_cX11_next_37.2.2.2.2.2.2.2.2.2.2.2.2.2.1
theorem dX11_next_190 : decode cX11_next 190 = .ok (.iadd, 1) := dg_cX11_next_37.2.2.2.2.2.2.2.2.2.2.2.2.2.2.1
theorem dX11_next_191 : decode cX11_next 191 = .ok (.bipush 48, 2) := dg_cX11_next_37.2.2.2.2.2.2.2.2.2.2.2.2.2.2.2
set_option maxRecDepth 100000 in
theorem dg_cX11_next_38 : (decode cX11_next 193 = .ok (.isub, 1)) ∧ (decode cX11_next 194 = .ok (.goto 7, 3)) ∧ (decode cX11_next 197 = .ok (.aload_n 0, 1)) ∧ (decode cX11_next 198 = .ok (.getfield 127, 3)) ∧ (decode cX11_next 201 = .ok (.putfield 127, 3)) ∧ (decode cX11_next 204 = .ok (.aload_n 0, 1)) ∧ (decode cX11_next 205 = .ok (.dup, 1)) ∧ (decode cX11_next 206 = .ok (.getfield 105, 3)) ∧ (decode cX11_next 209 = .ok (.iconst 1, 1)) ∧ (decode cX11_next 210 = .ok (.iadd, 1)) ∧ (decode cX11_next 211 = .ok (.putfield 105, 3)) ∧ (decode cX11_next 214 = .ok (.goto (-74), 3)) ∧ (decode cX11_next 217 = .ok (.aload_n 0, 1)) ∧ (decode cX11_next 218 = .ok (.aload_n 0, 1)) ∧ (decode cX11_next 219 = .ok (.getfield 105, 3)) ∧ (decode cX11_next 222 = .ok (.aload_n 0, 1)) := by decide +kernel
theorem dX11_next_193 : decode cX11_next 193 = .ok (.isub, 1) := dg_cX11_next_38.1
theorem dX11_next_194 : decode cX11_next 194 = .ok (.goto 7, 3) := dg_cX11_next_38.2.1
theorem dX11_next_197 : decode cX11_next 197 = .ok (.aload_n 0, 1) := dg_cX11_next_38.2.2.1
theorem dX11_next_198 : decode cX11_next 198 = .ok (.getfield 127, 3) := dg_cX11_next_38.2.2.2.1
theorem dX11_next_201 : decode cX11_next 201 = .ok (.putfield 127, 3) := dg_cX11_next_38.2.2.2.2.1
theorem dX11_next_204 : decode cX11_next 204 = .ok (.aload_n 0, 1) := dg_cX11_next_38.2.2.2.2.2.1
theorem dX11_next_205 : decode cX11_next 205 = .ok (.dup, 1) := dg_cX11_next_38.2.2.2.2.2.2.1
theorem dX11_next_206 : decode cX11_next 206 = .ok (.getfield 105, 3) := dg_cX11_next_38.2.2.2.2.2.2.2.1
theorem dX11_next_209 : decode cX11_next 209 = .ok (.iconst 1, 1) := dg_cX11_next_38.2.2.2.2.2.2.2.2.1
theorem dX11_next_210 : decode cX11_next 210 = .ok (.iadd, 1) := dg_cX11_next_38.2.2.2.2.2.2.2.2.2.1
theorem dX11_next_211 : decode cX11_next 211 = .ok (.putfield 105, 3) := dg_cX11_next_38.2.2.2.2.2.2.2.2.2.2.1
theorem dX11_next_214 : decode cX11_next 214 = .ok (.goto (-74), 3) := dg_cX11_next_38.2.2.2.2.2.2.2.2.2.2.2.1
theorem dX11_next_217 : decode cX11_next 217 = .ok (.aload_n 0, 1) := dg_cX11_next_38.2.2.2.2.2.2.2.2.2.2.2.2.1
theorem dX11_next_218 : decode cX11_next 218 = .ok (.aload_n 0, 1) := dg_cX11_next_38.2.2.2.2.2.2.2.2.2.2.2.2.2.1
theorem dX11_next_219 : decode cX11_next 219 = .ok (.getfield 105, 3) := dg_cX11_next_38.2.2.2.2.2.2.2.2.2.2.2.2.2.2.1
theorem dX11_next_222 : decode cX11_next 222 = .ok (.aload_n 0, 1) := dg_cX11_next_38.2.2.2.2.2.2.2.2.2.2.2.2.2.2.2
set_option maxRecDepth 100000 in
theorem dg_cX11_next_39 : (decode cX11_next 223 = .ok (.getfield 99, 3)) ∧ (decode cX11_next 226 = .ok (.isub, 1)) ∧ (decode cX11_next 227 = .ok (.iconst 2, 1)) ∧ (decode cX11_next 228 = .ok (.if_icmp .gt 7, 3)) ∧ (decode cX11_next 231 = .ok (.iconst 1, 1)) ∧ (decode cX11_next 232 = .ok (.goto 4, 3)) ∧ (decode cX11_next 235 = .ok (.iconst 0, 1)) ∧ (decode cX11_next 236 = .ok (.iconst 1, 1)) ∧ (decode cX11_next 237 = .ok (.invokevirtual 130, 3)) ∧ (decode cX11_next 240 = .ok (.goto 34, 3)) ∧ (decode cX11_next 243 = .ok (.aload_n 0, 1)) ∧ (decode cX11_next 244 = .ok (.iconst 3, 1)) ∧ (decode cX11_next 245 = .ok (.putfield 116, 3)) ∧ (decode cX11_next 248 = .ok (.aload_n 0, 1)) ∧ (decode cX11_next 249 = .ok (.iload_n 1, 1)) ∧ (decode cX11_next 250 = .ok (.bipush 59, 2)) := by decide +kernel
theorem dX11_next_223 : decode cX11_next 223 = .ok (.getfield 99, 3) := dg_cX11_next_39.1
theorem dX11_next_226 : decode cX11_next 226 = .ok (.isub, 1) := dg_cX11_next_39.2.1
theorem dX11_next_227 : decode cX11_next 227 = .ok (.iconst 2, 1) := dg_cX11_next_39.2.2.1
theorem dX11_next_228 : decode cX11_next 228 = .ok (.if_icmp .gt 7, 3) := dg_cX11_next_39.2.2.2.1
theorem dX11_next_231 : decode cX11_next 231 = .ok (.iconst 1, 1) := dg_cX11_next_39.2.2.2.2.1
theorem dX11_next_232 : decode cX11_next 232 = .ok (.goto 4, 3) := dg_cX11_next_39.2.2.2.2.2.1
theorem dX11_next_235 : decode cX11_next 235 = .ok (.iconst 0, 1) := dg_cX11_next_39.2.2.2.2.2.2.1
theorem dX11_next_236 : decode cX11_next 236 = .ok (.iconst 1, 1) := dg_cX11_next_39.2.2.2.2.2.2.2.1
theorem dX11_next_237 : decode cX11_next 237 = .ok (.invokevirtual 130, 3) := dg_cX11_next_39.2.2.2.2.2.2.2.2.1
theorem dX11_next_240 : decode cX11_next 240 = .ok (.goto 34, 3) := dg_cX11_next_39.2.2.2.2.2.2.2.2.2.1
theorem dX11_next_243 : decode cX11_next 243 = .ok (.aload_n 0, 1) := dg_cX11_next_39.2.2.2.2.2.2.2.2.2.2.1
theorem dX11_next_244 : decode cX11_next 244 = .ok (.iconst 3, 1) := dg_cX11_next_39.2.2.2.2.2.2.2.2.2.2.2.1
theorem dX11_next_245 : decode cX11_next 245 = .ok (.putfield 116, 3) := dg_cX11_next_39.2.2.2.2.2.2.2.2.2.2.2.2.1
theorem dX11_next_248 : decode cX11_next 248 = .ok (.aload_n 0, 1) := dg_cX11_next_39.2.2.2.2.2.2.2.2.2.2.2.2.2.1
theorem dX11_next_249 : decode cX11_next 249 = .ok (.iload_n 1, 1) := dg_cX11_next_39.2.2.2.2.2.2.2.2.2.2.2.2.2.2.1
theorem dX11_next_250 : decode cX11_next 250 = .ok (.bipush 59, 2) := dg_cX11_next_39.2.2.2.2.2.2.2.2.2.2.2.2.2.2.2
set_option maxRecDepth 100000 in
theorem dg_cX11_next_40 : (decode cX11_next 252 = .ok (.if_icmp .ne 7, 3)) ∧ (decode cX11_next 255 = .ok (.iconst 1, 1)) ∧ (decode cX11_next 256 = .ok (.goto 4, 3)) ∧ (decode cX11_next 259 = .ok (.iconst 0, 1)) ∧ (decode cX11_next 260 = .ok (.iconst 1, 1)) ∧ (decode cX11_next 261 = .ok (.invokevirtual 130, 3)) ∧ (decode cX11_next 264 = .ok (.aload_n 0, 1)) ∧ (decode cX11_next 265 = .ok (.dup, 1)) ∧ (decode cX11_next 266 = .ok (.getfield 105, 3)) ∧ (decode cX11_next 269 = .ok (.iconst 1, 1)) ∧ (decode cX11_next 270 = .ok (.iadd, 1)) ∧ (decode cX11_next 271 = .ok (.putfield 105, 3)) ∧ (decode cX11_next 274 = .ok (.return_, 1)) := by decide +kernel
theorem dX11_next_252 : decode cX11_next 252 = .ok (.if_icmp .ne 7, 3) := dg_cX11_next_40.1
theorem dX11_next_255 : decode cX11_next 255 = .ok (.iconst 1, 1) := dg_cX11_next_40.2.1
theorem dX11_next_256 : decode cX11_next 256 = .ok (.goto 4, 3) := dg_cX11_next_40.2.2.1
theorem dX11_next_259 : decode cX11_next 259 = .ok (.iconst 0, 1) := dg_cX11_next_40.2.2.2.1
theorem dX11_next_260 : decode cX11_next 260 = .ok (.iconst 1, 1) := dg_cX11_next_40.2.2.2.2.1
theorem dX11_next_261 : decode cX11_next 261 = .ok (.invokevirtual 130, 3) := dg_cX11_next_40.2.2.2.2.2.1
theorem dX11_next_264 : decode cX11_next 264 = .ok (.aload_n 0, 1) := dg_cX11_next_40.2.2.2.2.2.2.1
theorem dX11_next_265 : decode cX11_next 265 = .ok (.dup, 1) := dg_cX11_next_40.2.2.2.2.2.2.2.1
theorem dX11_next_266 : decode cX11_next 266 = .ok (.getfield 105, 3) := dg_cX11_next_40.2.2.2.2.2.2.2.2.1
theorem dX11_next_269 : decode cX11_next 269 = .ok (.iconst 1, 1) := dg_cX11_next_40.2.2.2.2.2.2.2.2.2.1
theorem dX11_next_270 : decode cX11_next 270 = .ok (.iadd, 1) := dg_cX11_next_40.2.2.2.2.2.2.2.2.2.2.1
theorem dX11_next_271 : decode cX11_next 271 = .ok (.putfield 105, 3) := dg_cX11_next_40.2.2.2.2.2.2.2.2.2.2.2.1
theorem dX11_next_274 : decode cX11_next 274 = .ok (.return_, 1) := dg_cX11_next_40.2.2.2.2.2.2.2.2.2.2.2.2
set_option maxRecDepth 100000 in
theorem dg_cX11_looked_41 : (decode cX11_looked 0 = .ok (.aload_n 0, 1)) ∧ (decode cX11_looked 1 = .ok (.getfield 96, 3)) ∧ (decode cX11_looked 4 = .ok (.ifCond .ne 21, 3)) ∧ (decode cX11_looked 7 = .ok (.aload_n 0, 1)) ∧ (decode cX11_looked 8 = .ok (.aload_n 0, 1)) ∧ (decode cX11_looked 9 = .ok (.getfield 116, 3)) ∧ (decode cX11_looked 12 = .ok (.iconst 2, 1)) ∧ (decode cX11_looked 13 = .ok (.if_icmp .ne 7, 3)) ∧ (decode cX11_looked 16 = .ok (.iconst 1, 1)) ∧ (decode cX11_looked 17 = .ok (.goto 4, 3)) ∧ (decode cX11_looked 20 = .ok (.iconst 0, 1)) ∧ (decode cX11_looked 21 = .ok (.iconst 2, 1)) ∧ (decode cX11_looked 22 = .ok (.invokevirtual 130, 3)) ∧ (decode cX11_looked 25 = .ok (.aload_n 0, 1)) ∧ (decode cX11_looked 26 = .ok (.getfield 96, 3)) ∧ (decode cX11_looked 29 = .ok (.ifCond .ne 20, 3)) := by decide +kernel
theorem dX11_looked_0 : decode cX11_looked 0 = .ok (.aload_n 0, 1) := dg_cX11_looked_41.1
theorem dX11_looked_1 : decode cX11_looked 1 = .ok (.getfield 96, 3) := dg_cX11_looked_41.2.1
theorem dX11_looked_4 : decode cX11_looked 4 = .ok (.ifCond .ne 21, 3) := dg_cX11_looked_41.2.2.1
theorem dX11_looked_7 : decode cX11_looked 7 = .ok (.aload_n 0, 1) := dg_cX11_looked_41.2.2.2.1
theorem dX11_looked_8 : decode cX11_looked 8 = .ok (.aload_n 0, 1) := dg_cX11_looked_41.2.2.2.2.1
theorem dX11_looked_9 : decode cX11_looked 9 = .ok (.getfield 116, 3) := dg_cX11_looked_41.2.2.2.2.2.1
theorem dX11_looked_12 : decode cX11_looked 12 = .ok (.iconst 2, 1) := dg_cX11_looked_41.2.2.2.2.2.2.1
theorem dX11_looked_13 : decode cX11_looked 13 = .ok (.if_icmp .ne 7, 3) := dg_cX11_looked_41.2.2.2.2.2.2.2.1
theorem dX11_looked_16 : decode cX11_looked 16 = .ok (.iconst 1, 1) := dg_cX11_looked_41.2.2.2.2.2.2.2.2.1
theorem dX11_looked_17 : decode cX11_looked 17 = .ok (.goto 4, 3) := dg_cX11_looked_41.2.2.2.2.2.2.2.2.2.1
theorem dX11_looked_20 : decode cX11_looked 20 = .ok (.iconst 0, 1) := dg_cX11_looked_41.2.2.2.2.2.2.2.2.2.2.1
theorem dX11_looked_21 : decode cX11_looked 21 = .ok (.iconst 2, 1) := dg_cX11_looked_41.2.2.2.2.2.2.2.2.2.2.2.1
theorem dX11_looked_22 : decode cX11_looked 22 = .ok (.invokevirtual 130, 3) := dg_cX11_looked_41.2.2.2.2.2.2.2.2.2.2.2.2.1
theorem dX11_looked_25 : decode cX11_looked 25 = .ok (.aload_n 0, 1) := dg_cX11_looked_41.2.2.2.2.2.2.2.2.2.2.2.2.2.1
theorem dX11_looked_26 : decode cX11_looked 26 = .ok (.getfield 96, 3) := dg_cX11_looked_41.2.2.2.2.2.2.2.2.2.2.2.2.2.2.1
theorem dX11_looked_29 : decode cX11_looked 29 = .ok (.ifCond .ne 20, 3) := dg_cX11_looked_41.2.2.2.2.2.2.2.2.2.2.2.2.2.2.2
set_option maxRecDepth 100000 in
theorem dg_cX11_looked_42 : (decode cX11_looked 32 = .ok (.aload_n 0, 1)) ∧ (decode cX11_looked 33 = .ok (.aload_n 0, 1)) ∧ (decode cX11_looked 34 = .ok (.getfield 127, 3)) ∧ (decode cX11_looked 37 = .ok (.i2l, 1)) ∧ (decode cX11_looked 38 = .ok (.iload_n 1, 1)) ∧ (decode cX11_looked 39 = .ok (.i2l, 1)) ∧ (decode cX11_looked 40 = .ok (.iload_n 2, 1)) ∧ (decode cX11_looked 41 = .ok (.i2l, 1)) ∧ (decode cX11_looked 42 = .ok (.invokestatic 92, 3)) ∧ (decode cX11_looked 45 = .ok (.iconst 3, 1)) ∧ (decode cX11_looked 46 = .ok (.invokevirtual 130, 3)) ∧ (decode cX11_looked 49 = .ok (.aload_n 0, 1)) ∧ (decode cX11_looked 50 = .ok (.getfield 96, 3)) ∧ (decode cX11_looked 53 = .ok (.ifCond .ne 10, 3)) ∧ (decode cX11_looked 56 = .ok (.aload_n 0, 1)) ∧ (decode cX11_looked 57 = .ok (.getfield 127, 3)) := by decide +kernel
theorem dX11_looked_32 : decode cX11_looked 32 = .ok (.aload_n 0, 1) := dg_cX11_looked_42.1
theorem dX11_looked_33 : decode cX11_looked 33 = .ok (.aload_n 0, 1) := dg_cX11_looked_42.2.1
theorem dX11_looked_34 : decode cX11_looked 34 = .ok (.getfield 127, 3) := dg_cX11_looked_42.2.2.1
theorem dX11_looked_37 : decode cX11_looked 37 = .ok (.i2l, 1) := dg_cX11_looked_42.2.2.2.1
theorem dX11_looked_38 : decode cX11_looked 38 = .ok (.iload_n 1, 1) := dg_cX11_looked_42.2.2.2.2.1
theorem dX11_looked_39 : decode cX11_looked 39 = .ok (.i2l, 1) := dg_cX11_looked_42.2.2.2.2.2.1
theorem dX11_looked_40 : decode cX11_looked 40 = .ok (.iload_n 2, 1) := dg_cX11_looked_42.2.2.2.2.2.2.1
theorem dX11_looked_41 : decode cX11_looked 41 = .ok (.i2l, 1) := dg_cX11_looked_42.2.2.2.2.2.2.2.1
theorem dX11_looked_42 : decode cX11_looked 42 = .ok (.invokestatic 92, 3) := dg_cX11_looked_42.2.2.2.2.2.2.2.2.1
theorem dX11_looked_45 : decode cX11_looked 45 = .ok (.iconst 3, 1) := dg_cX11_looked_42.2.2.2.2.2.2.2.2.2.1
theorem dX11_looked_46 : decode cX11_looked 46 = .ok (.invokevirtual 130, 3) := dg_cX11_looked_42.2.2.2.2.2.2.2.2.2.2.1
theorem dX11_looked_49 : decode cX11_looked 49 = .ok (.aload_n 0, 1) := dg_cX11_looked_42.2.2.2.2.2.2.2.2.2.2.2.1
theorem dX11_looked_50 : decode cX11_looked 50 = .ok (.getfield 96, 3) := dg_cX11_looked_42.2.2.2.2.2.2.2.2.2.2.2.2.1
theorem dX11_looked_53 : decode cX11_looked 53 = .ok (.ifCond .ne 10, 3) := dg_cX11_looked_42.2.2.2.2.2.2.2.2.2.2.2.2.2.1
theorem dX11_looked_56 : decode cX11_looked 56 = .ok (.aload_n 0, 1) := dg_cX11_looked_42.2.2.2.2.2.2.2.2.2.2.2.2.2.2.1
theorem dX11_looked_57 : decode cX11_looked 57 = .ok (.getfield 127, 3) := dg_cX11_looked_42.2.2.2.2.2.2.2.2.2.2.2.2.2.2.2
set_option maxRecDepth 100000 in
theorem dg_cX11_looked_43 : (decode cX11_looked 60 = .ok (.goto 4, 3)) ∧ (decode cX11_looked 63 = .ok (.iconst 0, 1)) ∧ (decode cX11_looked 64 = .ok (.ireturn, 1)) := by decide +kernel
theorem dX11_looked_60 : decode cX11_looked 60 = .ok (.goto 4, 3) := dg_cX11_looked_43.1
theorem dX11_looked_63 : decode cX11_looked 63 = .ok (.iconst 0, 1) := dg_cX11_looked_43.2.1
theorem dX11_looked_64 : decode cX11_looked 64 = .ok (.ireturn, 1) := dg_cX11_looked_43.2.2
set_option maxRecDepth 100000 in
theorem dg_cX11_readNumber_44 : (decode cX11_readNumber 0 = .ok (.aload_n 0, 1)) ∧ (decode cX11_readNumber 1 = .ok (.iload_n 1, 1)) ∧ (decode cX11_readNumber 2 = .ok (.iload_n 2, 1)) ∧ (decode cX11_readNumber 3 = .ok (.invokevirtual 134, 3)) ∧ (decode cX11_readNumber 6 = .ok (.istore_n 3, 1)) ∧ (decode cX11_readNumber 7 = .ok (.aload_n 0, 1)) ∧ (decode cX11_readNumber 8 = .ok (.invokevirtual 138, 3)) ∧ (decode cX11_readNumber 11 = .ok (.iload_n 3, 1)) ∧ (decode cX11_readNumber 12 = .ok (.ireturn, 1)) := by decide +kernel
theorem dX11_readNumber_0 : decode cX11_readNumber 0 = .ok (.aload_n 0, 1) := dg_cX11_readNumber_44.1
theorem dX11_readNumber_1 : decode cX11_readNumber 1 = .ok (.iload_n 1, 1) := dg_cX11_readNumber_44.2.1
theorem dX11_readNumber_2 : decode cX11_readNumber 2 = .ok (.iload_n 2, 1) := dg_cX11_readNumber_44.2.2.1
theorem dX11_readNumber_3 : decode cX11_readNumber 3 = .ok (.invokevirtual 134, 3) := dg_cX11_readNumber_44.2.2.2.1
theorem dX11_readNumber_6 : decode cX11_readNumber 6 = .ok (.istore_n 3, 1) := dg_cX11_readNumber_44.2.2.2.2.1
theorem dX11_readNumber_7 : decode cX11_readNumber 7 = .ok (.aload_n 0, 1) := dg_cX11_readNumber_44.2.2.2.2.2.1
theorem dX11_readNumber_8 : decode cX11_readNumber 8 = .ok (.invokevirtual 138, 3) := dg_cX11_readNumber_44.2.2.2.2.2.2.1
theorem dX11_readNumber_11 : decode cX11_readNumber 11 = .ok (.iload_n 3, 1) := dg_cX11_readNumber_44.2.2.2.2.2.2.2.1
theorem dX11_readNumber_12 : decode cX11_readNumber 12 = .ok (.ireturn, 1) := dg_cX11_readNumber_44.2.2.2.2.2.2.2.2
set_option maxRecDepth 100000 in
theorem dg_cX11_readHouse_45 : (decode cX11_readHouse 0 = .ok (.aload_n 0, 1)) ∧ (decode cX11_readHouse 1 = .ok (.iconst 0, 1)) ∧ (decode cX11_readHouse 2 = .ok (.iconst 5, 1)) ∧ (decode cX11_readHouse 3 = .ok (.invokevirtual 134, 3)) ∧ (decode cX11_readHouse 6 = .ok (.istore_n 2, 1)) ∧ (decode cX11_readHouse 7 = .ok (.aload_n 0, 1)) ∧ (decode cX11_readHouse 8 = .ok (.getfield 96, 3)) ∧ (decode cX11_readHouse 11 = .ok (.ifCond .ne 18, 3)) ∧ (decode cX11_readHouse 14 = .ok (.aload_n 0, 1)) ∧ (decode cX11_readHouse 15 = .ok (.iload_n 2, 1)) ∧ (decode cX11_readHouse 16 = .ok (.iload_n 1, 1)) ∧ (decode cX11_readHouse 17 = .ok (.if_icmp .eq 7, 3)) ∧ (decode cX11_readHouse 20 = .ok (.iconst 1, 1)) ∧ (decode cX11_readHouse 21 = .ok (.goto 4, 3)) ∧ (decode cX11_readHouse 24 = .ok (.iconst 0, 1)) ∧ (decode cX11_readHouse 25 = .ok (.iconst 4, 1)) := by decide +kernel
theorem dX11_readHouse_0 : decode cX11_readHouse 0 = .ok (.aload_n 0, 1) := dg_cX11_readHouse_45.1
theorem dX11_readHouse_1 : decode cX11_readHouse 1 = .ok (.iconst 0, 1) := dg_cX11_readHouse_45.2.1
theorem dX11_readHouse_2 : decode cX11_readHouse 2 = .ok (.iconst 5, 1) := dg_cX11_readHouse_45.2.2.1
theorem dX11_readHouse_3 : decode cX11_readHouse 3 = .ok (.invokevirtual 134, 3) := dg_cX11_readHouse_45.2.2.2.1
theorem dX11_readHouse_6 : decode cX11_readHouse 6 = .ok (.istore_n 2, 1) := dg_cX11_readHouse_45.2.2.2.2.1
theorem dX11_readHouse_7 : decode cX11_readHouse 7 = .ok (.aload_n 0, 1) := dg_cX11_readHouse_45.2.2.2.2.2.1
theorem dX11_readHouse_8 : decode cX11_readHouse 8 = .ok (.getfield 96, 3) := dg_cX11_readHouse_45.2.2.2.2.2.2.1
theorem dX11_readHouse_11 : decode cX11_readHouse 11 = .ok (.ifCond .ne 18, 3) := dg_cX11_readHouse_45.2.2.2.2.2.2.2.1
theorem dX11_readHouse_14 : decode cX11_readHouse 14 = .ok (.aload_n 0, 1) := dg_cX11_readHouse_45.2.2.2.2.2.2.2.2.1
theorem dX11_readHouse_15 : decode cX11_readHouse 15 = .ok (.iload_n 2, 1) := dg_cX11_readHouse_45.2.2.2.2.2.2.2.2.2.1
theorem dX11_readHouse_16 : decode cX11_readHouse 16 = .ok (.iload_n 1, 1) := dg_cX11_readHouse_45.2.2.2.2.2.2.2.2.2.2.1
theorem dX11_readHouse_17 : decode cX11_readHouse 17 = .ok (.if_icmp .eq 7, 3) := dg_cX11_readHouse_45.2.2.2.2.2.2.2.2.2.2.2.1
theorem dX11_readHouse_20 : decode cX11_readHouse 20 = .ok (.iconst 1, 1) := dg_cX11_readHouse_45.2.2.2.2.2.2.2.2.2.2.2.2.1
theorem dX11_readHouse_21 : decode cX11_readHouse 21 = .ok (.goto 4, 3) := dg_cX11_readHouse_45.2.2.2.2.2.2.2.2.2.2.2.2.2.1
theorem dX11_readHouse_24 : decode cX11_readHouse 24 = .ok (.iconst 0, 1) := dg_cX11_readHouse_45.2.2.2.2.2.2.2.2.2.2.2.2.2.2.1
theorem dX11_readHouse_25 : decode cX11_readHouse 25 = .ok (.iconst 4, 1) := dg_cX11_readHouse_45.2.2.2.2.2.2.2.2.2.2.2.2.2.2.2
set_option maxRecDepth 100000 in
theorem dg_cX11_readHouse_46 : (decode cX11_readHouse 26 = .ok (.invokevirtual 130, 3)) ∧ (decode cX11_readHouse 29 = .ok (.aload_n 0, 1)) ∧ (decode cX11_readHouse 30 = .ok (.iload_n 2, 1)) ∧ (decode cX11_readHouse 31 = .ok (.aload_n 0, 1)) ∧ (decode cX11_readHouse 32 = .ok (.getfield 66, 3)) ∧ (decode cX11_readHouse 35 = .ok (.if_icmp .le 7, 3)) ∧ (decode cX11_readHouse 38 = .ok (.iload_n 2, 1)) ∧ (decode cX11_readHouse 39 = .ok (.goto 7, 3)) ∧ (decode cX11_readHouse 42 = .ok (.aload_n 0, 1)) ∧ (decode cX11_readHouse 43 = .ok (.getfield 66, 3)) ∧ (decode cX11_readHouse 46 = .ok (.putfield 66, 3)) ∧ (decode cX11_readHouse 49 = .ok (.aload_n 0, 1)) ∧ (decode cX11_readHouse 50 = .ok (.invokevirtual 138, 3)) ∧ (decode cX11_readHouse 53 = .ok (.iload_n 2, 1)) ∧ (decode cX11_readHouse 54 = .ok (.ireturn, 1)) := by decide +kernel
theorem dX11_readHouse_26 : decode cX11_readHouse 26 = .ok (.invokevirtual 130, 3) := dg_cX11_readHouse_46.1
theorem dX11_readHouse_29 : decode cX11_readHouse 29 = .ok (.aload_n 0, 1) := dg_cX11_readHouse_46.2.1
theorem dX11_readHouse_30 : decode cX11_readHouse 30 = .ok (.iload_n 2, 1) := dg_cX11_readHouse_46.2.2.1
theorem dX11_readHouse_31 : decode cX11_readHouse 31 = .ok (.aload_n 0, 1) := dg_cX11_readHouse_46.2.2.2.1
theorem dX11_readHouse_32 : decode cX11_readHouse 32 = .ok (.getfield 66, 3) := dg_cX11_readHouse_46.2.2.2.2.1
theorem dX11_readHouse_35 : decode cX11_readHouse 35 = .ok (.if_icmp .le 7, 3) := dg_cX11_readHouse_46.2.2.2.2.2.1
theorem dX11_readHouse_38 : decode cX11_readHouse 38 = .ok (.iload_n 2, 1) := dg_cX11_readHouse_46.2.2.2.2.2.2.1
theorem dX11_readHouse_39 : decode cX11_readHouse 39 = .ok (.goto 7, 3) := dg_cX11_readHouse_46.2.2.2.2.2.2.2.1
theorem dX11_readHouse_42 : decode cX11_readHouse 42 = .ok (.aload_n 0, 1) := dg_cX11_readHouse_46.2.2.2.2.2.2.2.2.1
theorem dX11_readHouse_43 : decode cX11_readHouse 43 = .ok (.getfield 66, 3) := dg_cX11_readHouse_46.2.2.2.2.2.2.2.2.2.1
theorem dX11_readHouse_46 : decode cX11_readHouse 46 = .ok (.putfield 66, 3) := dg_cX11_readHouse_46.2.2.2.2.2.2.2.2.2.2.1
theorem dX11_readHouse_49 : decode cX11_readHouse 49 = .ok (.aload_n 0, 1) := dg_cX11_readHouse_46.2.2.2.2.2.2.2.2.2.2.2.1
theorem dX11_readHouse_50 : decode cX11_readHouse 50 = .ok (.invokevirtual 138, 3) := dg_cX11_readHouse_46.2.2.2.2.2.2.2.2.2.2.2.2.1
theorem dX11_readHouse_53 : decode cX11_readHouse 53 = .ok (.iload_n 2, 1) := dg_cX11_readHouse_46.2.2.2.2.2.2.2.2.2.2.2.2.2.1
theorem dX11_readHouse_54 : decode cX11_readHouse 54 = .ok (.ireturn, 1) := dg_cX11_readHouse_46.2.2.2.2.2.2.2.2.2.2.2.2.2.2
set_option maxRecDepth 100000 in
theorem dg_cX11_readBell_47 : (decode cX11_readBell 0 = .ok (.iconst 5, 1)) ∧ (decode cX11_readBell 1 = .ok (.aload_n 0, 1)) ∧ (decode cX11_readBell 2 = .ok (.getfield 60, 3)) ∧ (decode cX11_readBell 5 = .ok (.imul, 1)) ∧ (decode cX11_readBell 6 = .ok (.istore_n 1, 1)) ∧ (decode cX11_readBell 7 = .ok (.aload_n 0, 1)) ∧ (decode cX11_readBell 8 = .ok (.getfield 20, 3)) ∧ (decode cX11_readBell 11 = .ok (.iload_n 1, 1)) ∧ (decode cX11_readBell 12 = .ok (.iconst 0, 1)) ∧ (decode cX11_readBell 13 = .ok (.iadd, 1)) ∧ (decode cX11_readBell 14 = .ok (.aload_n 0, 1)) ∧ (decode cX11_readBell 15 = .ok (.bipush (-4), 2)) ∧ (decode cX11_readBell 17 = .ok (.invokevirtual 141, 3)) ∧ (decode cX11_readBell 20 = .ok (.iastore, 1)) ∧ (decode cX11_readBell 21 = .ok (.aload_n 0, 1)) ∧ (decode cX11_readBell 22 = .ok (.getfield 20, 3)) := by decide +kernel
theorem dX11_readBell_0 : decode cX11_readBell 0 = .ok (.iconst 5, 1) := dg_cX11_readBell_47.1
theorem dX11_readBell_1 : decode cX11_readBell 1 = .ok (.aload_n 0, 1) := dg_cX11_readBell_47.2.1
theorem dX11_readBell_2 : decode cX11_readBell 2 = .ok (.getfield 60, 3) := dg_cX11_readBell_47.2.2.1
theorem dX11_readBell_5 : decode cX11_readBell 5 = .ok (.imul, 1) := dg_cX11_readBell_47.2.2.2.1
theorem dX11_readBell_6 : decode cX11_readBell 6 = .ok (.istore_n 1, 1) := dg_cX11_readBell_47.2.2.2.2.1
theorem dX11_readBell_7 : decode cX11_readBell 7 = .ok (.aload_n 0, 1) := dg_cX11_readBell_47.2.2.2.2.2.1
theorem dX11_readBell_8 : decode cX11_readBell 8 = .ok (.getfield 20, 3) := dg_cX11_readBell_47.2.2.2.2.2.2.1
theorem dX11_readBell_11 : decode cX11_readBell 11 = .ok (.iload_n 1, 1) := dg_cX11_readBell_47.2.2.2.2.2.2.2.1
theorem dX11_readBell_12 : decode cX11_readBell 12 = .ok (.iconst 0, 1) := dg_cX11_readBell_47.2.2.2.2.2.2.2.2.1
theorem dX11_readBell_13 : decode cX11_readBell 13 = .ok (.iadd, 1) := dg_cX11_readBell_47.2.2.2.2.2.2.2.2.2.1
theorem dX11_readBell_14 : decode cX11_readBell 14 = .ok (.aload_n 0, 1) := dg_cX11_readBell_47.2.2.2.2.2.2.2.2.2.2.1
theorem dX11_readBell_15 : decode cX11_readBell 15 = .ok (.bipush (-4), 2) := dg_cX11_readBell_47.2.2.2.2.2.2.2.2.2.2.2.1
theorem dX11_readBell_17 : decode cX11_readBell 17 = .ok (.invokevirtual 141, 3) := dg_cX11_readBell_47.2.2.2.2.2.2.2.2.2.2.2.2.1
theorem dX11_readBell_20 : decode cX11_readBell 20 = .ok (.iastore, 1) := dg_cX11_readBell_47.2.2.2.2.2.2.2.2.2.2.2.2.2.1
theorem dX11_readBell_21 : decode cX11_readBell 21 = .ok (.aload_n 0, 1) := dg_cX11_readBell_47.2.2.2.2.2.2.2.2.2.2.2.2.2.2.1
theorem dX11_readBell_22 : decode cX11_readBell 22 = .ok (.getfield 20, 3) := dg_cX11_readBell_47.2.2.2.2.2.2.2.2.2.2.2.2.2.2.2
set_option maxRecDepth 100000 in
theorem dg_cX11_readBell_48 : (decode cX11_readBell 25 = .ok (.iload_n 1, 1)) ∧ (decode cX11_readBell 26 = .ok (.iconst 1, 1)) ∧ (decode cX11_readBell 27 = .ok (.iadd, 1)) ∧ (decode cX11_readBell 28 = .ok (.aload_n 0, 1)) ∧ (decode cX11_readBell 29 = .ok (.iconst 0, 1)) ∧ (decode cX11_readBell 30 = .ok (.bipush 20, 2)) ∧ (decode cX11_readBell 32 = .ok (.invokevirtual 144, 3)) ∧ (decode cX11_readBell 35 = .ok (.iastore, 1)) ∧ (decode cX11_readBell 36 = .ok (.aload_n 0, 1)) ∧ (decode cX11_readBell 37 = .ok (.getfield 20, 3)) ∧ (decode cX11_readBell 40 = .ok (.iload_n 1, 1)) ∧ (decode cX11_readBell 41 = .ok (.iconst 2, 1)) ∧ (decode cX11_readBell 42 = .ok (.iadd, 1)) ∧ (decode cX11_readBell 43 = .ok (.aload_n 0, 1)) ∧ (decode cX11_readBell 44 = .ok (.iconst 0, 1)) ∧ (decode cX11_readBell 45 = .ok (.bipush 9, 2)) := by decide +kernel
theorem dX11_readBell_25 : decode cX11_readBell 25 = .ok (.iload_n 1, 1) := dg_cX11_readBell_48.1
theorem dX11_readBell_26 : decode cX11_readBell 26 = .ok (.iconst 1, 1) := dg_cX11_readBell_48.2.1
theorem dX11_readBell_27 : decode cX11_readBell 27 = .ok (.iadd, 1) := dg_cX11_readBell_48.2.2.1
theorem dX11_readBell_28 : decode cX11_readBell 28 = .ok (.aload_n 0, 1) := dg_cX11_readBell_48.2.2.2.1
theorem dX11_readBell_29 : decode cX11_readBell 29 = .ok (.iconst 0, 1) := dg_cX11_readBell_48.2.2.2.2.1
theorem dX11_readBell_30 : decode cX11_readBell 30 = .ok (.bipush 20, 2) := dg_cX11_readBell_48.2.2.2.2.2.1
theorem dX11_readBell_32 : decode cX11_readBell 32 = .ok (.invokevirtual 144, 3) := dg_cX11_readBell_48.2.2.2.2.2.2.1
theorem dX11_readBell_35 : decode cX11_readBell 35 = .ok (.iastore, 1) := dg_cX11_readBell_48.2.2.2.2.2.2.2.1
theorem dX11_readBell_36 : decode cX11_readBell 36 = .ok (.aload_n 0, 1) := dg_cX11_readBell_48.2.2.2.2.2.2.2.2.1
theorem dX11_readBell_37 : decode cX11_readBell 37 = .ok (.getfield 20, 3) := dg_cX11_readBell_48.2.2.2.2.2.2.2.2.2.1
theorem dX11_readBell_40 : decode cX11_readBell 40 = .ok (.iload_n 1, 1) := dg_cX11_readBell_48.2.2.2.2.2.2.2.2.2.2.1
theorem dX11_readBell_41 : decode cX11_readBell 41 = .ok (.iconst 2, 1) := dg_cX11_readBell_48.2.2.2.2.2.2.2.2.2.2.2.1
theorem dX11_readBell_42 : decode cX11_readBell 42 = .ok (.iadd, 1) := dg_cX11_readBell_48.2.2.2.2.2.2.2.2.2.2.2.2.1
theorem dX11_readBell_43 : decode cX11_readBell 43 = .ok (.aload_n 0, 1) := dg_cX11_readBell_48.2.2.2.2.2.2.2.2.2.2.2.2.2.1
theorem dX11_readBell_44 : decode cX11_readBell 44 = .ok (.iconst 0, 1) := dg_cX11_readBell_48.2.2.2.2.2.2.2.2.2.2.2.2.2.2.1
theorem dX11_readBell_45 : decode cX11_readBell 45 = .ok (.bipush 9, 2) := dg_cX11_readBell_48.2.2.2.2.2.2.2.2.2.2.2.2.2.2.2
set_option maxRecDepth 100000 in
theorem dg_cX11_readBell_49 : (decode cX11_readBell 47 = .ok (.invokevirtual 144, 3)) ∧ (decode cX11_readBell 50 = .ok (.iastore, 1)) ∧ (decode cX11_readBell 51 = .ok (.aload_n 0, 1)) ∧ (decode cX11_readBell 52 = .ok (.getfield 20, 3)) ∧ (decode cX11_readBell 55 = .ok (.iload_n 1, 1)) ∧ (decode cX11_readBell 56 = .ok (.iconst 3, 1)) ∧ (decode cX11_readBell 57 = .ok (.iadd, 1)) ∧ (decode cX11_readBell 58 = .ok (.iconst 0, 1)) ∧ (decode cX11_readBell 59 = .ok (.iastore, 1)) ∧ (decode cX11_readBell 60 = .ok (.aload_n 0, 1)) ∧ (decode cX11_readBell 61 = .ok (.getfield 20, 3)) ∧ (decode cX11_readBell 64 = .ok (.iload_n 1, 1)) ∧ (decode cX11_readBell 65 = .ok (.iconst 4, 1)) ∧ (decode cX11_readBell 66 = .ok (.iadd, 1)) ∧ (decode cX11_readBell 67 = .ok (.bipush (-4), 2)) ∧ (decode cX11_readBell 69 = .ok (.iastore, 1)) := by decide +kernel
theorem dX11_readBell_47 : decode cX11_readBell 47 = .ok (.invokevirtual 144, 3) := dg_cX11_readBell_49.1
theorem dX11_readBell_50 : decode cX11_readBell 50 = .ok (.iastore, 1) := dg_cX11_readBell_49.2.1
theorem dX11_readBell_51 : decode cX11_readBell 51 = .ok (.aload_n 0, 1) := dg_cX11_readBell_49.2.2.1
theorem dX11_readBell_52 : decode cX11_readBell 52 = .ok (.getfield 20, 3) := dg_cX11_readBell_49.2.2.2.1
theorem dX11_readBell_55 : decode cX11_readBell 55 = .ok (.iload_n 1, 1) := dg_cX11_readBell_49.2.2.2.2.1
theorem dX11_readBell_56 : decode cX11_readBell 56 = .ok (.iconst 3, 1) := dg_cX11_readBell_49.2.2.2.2.2.1
theorem dX11_readBell_57 : decode cX11_readBell 57 = .ok (.iadd, 1) := dg_cX11_readBell_49.2.2.2.2.2.2.1
theorem dX11_readBell_58 : decode cX11_readBell 58 = .ok (.iconst 0, 1) := dg_cX11_readBell_49.2.2.2.2.2.2.2.1
theorem dX11_readBell_59 : decode cX11_readBell 59 = .ok (.iastore, 1) := dg_cX11_readBell_49.2.2.2.2.2.2.2.2.1
theorem dX11_readBell_60 : decode cX11_readBell 60 = .ok (.aload_n 0, 1) := dg_cX11_readBell_49.2.2.2.2.2.2.2.2.2.1
theorem dX11_readBell_61 : decode cX11_readBell 61 = .ok (.getfield 20, 3) := dg_cX11_readBell_49.2.2.2.2.2.2.2.2.2.2.1
theorem dX11_readBell_64 : decode cX11_readBell 64 = .ok (.iload_n 1, 1) := dg_cX11_readBell_49.2.2.2.2.2.2.2.2.2.2.2.1
theorem dX11_readBell_65 : decode cX11_readBell 65 = .ok (.iconst 4, 1) := dg_cX11_readBell_49.2.2.2.2.2.2.2.2.2.2.2.2.1
theorem dX11_readBell_66 : decode cX11_readBell 66 = .ok (.iadd, 1) := dg_cX11_readBell_49.2.2.2.2.2.2.2.2.2.2.2.2.2.1
theorem dX11_readBell_67 : decode cX11_readBell 67 = .ok (.bipush (-4), 2) := dg_cX11_readBell_49.2.2.2.2.2.2.2.2.2.2.2.2.2.2.1
theorem dX11_readBell_69 : decode cX11_readBell 69 = .ok (.iastore, 1) := dg_cX11_readBell_49.2.2.2.2.2.2.2.2.2.2.2.2.2.2.2
set_option maxRecDepth 100000 in
theorem dg_cX11_readBell_50 : (decode cX11_readBell 70 = .ok (.iconst 0, 1)) ∧ (decode cX11_readBell 71 = .ok (.istore_n 2, 1)) ∧ (decode cX11_readBell 72 = .ok (.aload_n 0, 1)) ∧ (decode cX11_readBell 73 = .ok (.getfield 96, 3)) ∧ (decode cX11_readBell 76 = .ok (.ifCond .ne 131, 3)) ∧ (decode cX11_readBell 79 = .ok (.aload_n 0, 1)) ∧ (decode cX11_readBell 80 = .ok (.getfield 116, 3)) ∧ (decode cX11_readBell 83 = .ok (.iconst 1, 1)) ∧ (decode cX11_readBell 84 = .ok (.if_icmp .ne 123, 3)) ∧ (decode cX11_readBell 87 = .ok (.aload_n 0, 1)) ∧ (decode cX11_readBell 88 = .ok (.invokevirtual 147, 3)) ∧ (decode cX11_readBell 91 = .ok (.istore_n 3, 1)) ∧ (decode cX11_readBell 92 = .ok (.aload_n 0, 1)) ∧ (decode cX11_readBell 93 = .ok (.iload_n 3, 1)) ∧ (decode cX11_readBell 94 = .ok (.bipush (-4), 2)) ∧ (decode cX11_readBell 96 = .ok (.if_icmp .eq 7, 3)) := by decide +kernel
theorem dX11_readBell_70 : decode cX11_readBell 70 = .ok (.iconst 0, 1) := dg_cX11_readBell_50.1
theorem dX11_readBell_71 : decode cX11_readBell 71 = .ok (.istore_n 2, 1) := dg_cX11_readBell_50.2.1
theorem dX11_readBell_72 : decode cX11_readBell 72 = .ok (.aload_n 0, 1) := dg_cX11_readBell_50.2.2.1
theorem dX11_readBell_73 : decode cX11_readBell 73 = .ok (.getfield 96, 3) := dg_cX11_readBell_50.2.2.2.1
theorem dX11_readBell_76 : decode cX11_readBell 76 = .ok (.ifCond .ne 131, 3) := dg_cX11_readBell_50.2.2.2.2.1
theorem dX11_readBell_79 : decode cX11_readBell 79 = .ok (.aload_n 0, 1) := dg_cX11_readBell_50.2.2.2.2.2.1
theorem dX11_readBell_80 : decode cX11_readBell 80 = .ok (.getfield 116, 3) := dg_cX11_readBell_50.2.2.2.2.2.2.1
theorem dX11_readBell_83 : decode cX11_readBell 83 = .ok (.iconst 1, 1) := dg_cX11_readBell_50.2.2.2.2.2.2.2.1
theorem dX11_readBell_84 : decode cX11_readBell 84 = .ok (.if_icmp .ne 123, 3) := dg_cX11_readBell_50.2.2.2.2.2.2.2.2.1
theorem dX11_readBell_87 : decode cX11_readBell 87 = .ok (.aload_n 0, 1) := dg_cX11_readBell_50.2.2.2.2.2.2.2.2.2.1
theorem dX11_readBell_88 : decode cX11_readBell 88 = .ok (.invokevirtual 147, 3) := dg_cX11_readBell_50.2.2.2.2.2.2.2.2.2.2.1
theorem dX11_readBell_91 : decode cX11_readBell 91 = .ok (.istore_n 3, 1) := dg_cX11_readBell_50.2.2.2.2.2.2.2.2.2.2.2.1
theorem dX11_readBell_92 : decode cX11_readBell 92 = .ok (.aload_n 0, 1) := dg_cX11_readBell_50.2.2.2.2.2.2.2.2.2.2.2.2.1
theorem dX11_readBell_93 : decode cX11_readBell 93 = .ok (.iload_n 3, 1) := dg_cX11_readBell_50.2.2.2.2.2.2.2.2.2.2.2.2.2.1
theorem dX11_readBell_94 : decode cX11_readBell 94 = .ok (.bipush (-4), 2) := dg_cX11_readBell_50.2.2.2.2.2.2.2.2.2.2.2.2.2.2.1
theorem dX11_readBell_96 : decode cX11_readBell 96 = .ok (.if_icmp .eq 7, 3) := dg_cX11_readBell_50.2.2.2.2.2.2.2.2.2.2.2.2.2.2.2
set_option maxRecDepth 100000 in
theorem dg_cX11_readBell_51 : (decode cX11_readBell 99 = .ok (.iconst 1, 1)) ∧ (decode cX11_readBell 100 = .ok (.goto 4, 3)) ∧ (decode cX11_readBell 103 = .ok (.iconst 0, 1)) ∧ (decode cX11_readBell 104 = .ok (.iconst 2, 1)) ∧ (decode cX11_readBell 105 = .ok (.invokevirtual 130, 3)) ∧ (decode cX11_readBell 108 = .ok (.aload_n 0, 1)) ∧ (decode cX11_readBell 109 = .ok (.iload_n 3, 1)) ∧ (decode cX11_readBell 110 = .ok (.bipush (-4), 2)) ∧ (decode cX11_readBell 112 = .ok (.if_icmp .eq 11, 3)) ∧ (decode cX11_readBell 115 = .ok (.iload_n 2, 1)) ∧ (decode cX11_readBell 116 = .ok (.iload_n 3, 1)) ∧ (decode cX11_readBell 117 = .ok (.ishr, 1)) ∧ (decode cX11_readBell 118 = .ok (.iconst 1, 1)) ∧ (decode cX11_readBell 119 = .ok (.iand, 1)) ∧ (decode cX11_readBell 120 = .ok (.ifCond .ne 7, 3)) ∧ (decode cX11_readBell 123 = .ok (.iconst 1, 1)) := by decide +kernel
theorem dX11_readBell_99 : decode cX11_readBell 99 = .ok (.iconst 1, 1) := dg_cX11_readBell_51.1
theorem dX11_readBell_100 : decode cX11_readBell 100 = .ok (.goto 4, 3) := dg_cX11_readBell_51.2.1
theorem dX11_readBell_103 : decode cX11_readBell 103 = .ok (.iconst 0, 1) := dg_cX11_readBell_51.2.2.1
theorem dX11_readBell_104 : decode cX11_readBell 104 = .ok (.iconst 2, 1) := dg_cX11_readBell_51.2.2.2.1
theorem dX11_readBell_105 : decode cX11_readBell 105 = .ok (.invokevirtual 130, 3) := dg_cX11_readBell_51.2.2.2.2.1
theorem dX11_readBell_108 : decode cX11_readBell 108 = .ok (.aload_n 0, 1) := dg_cX11_readBell_51.2.2.2.2.2.1
theorem dX11_readBell_109 : decode cX11_readBell 109 = .ok (.iload_n 3, 1) := dg_cX11_readBell_51.2.2.2.2.2.2.1
theorem dX11_readBell_110 : decode cX11_readBell 110 = .ok (.bipush (-4), 2) := dg_cX11_readBell_51.2.2.2.2.2.2.2.1
theorem dX11_readBell_112 : decode cX11_readBell 112 = .ok (.if_icmp .eq 11, 3) := dg_cX11_readBell_51.2.2.2.2.2.2.2.2.1
theorem dX11_readBell_115 : decode cX11_readBell 115 = .ok (.iload_n 2, 1) := dg_cX11_readBell_51.2.2.2.2.2.2.2.2.2.1
theorem dX11_readBell_116 : decode cX11_readBell 116 = .ok (.iload_n 3, 1) := dg_cX11_readBell_51.2.2.2.2.2.2.2.2.2.2.1
theorem dX11_readBell_117 : decode cX11_readBell 117 = .ok (.ishr, 1) := dg_cX11_readBell_51.2.2.2.2.2.2.2.2.2.2.2.1
theorem dX11_readBell_118 : decode cX11_readBell 118 = .ok (.iconst 1, 1) := dg_cX11_readBell_51.2.2.2.2.2.2.2.2.2.2.2.2.1
theorem dX11_readBell_119 : decode cX11_readBell 119 = .ok (.iand, 1) := dg_cX11_readBell_51.2.2.2.2.2.2.2.2.2.2.2.2.2.1
theorem dX11_readBell_120 : decode cX11_readBell 120 = .ok (.ifCond .ne 7, 3) := dg_cX11_readBell_51.2.2.2.2.2.2.2.2.2.2.2.2.2.2.1
theorem dX11_readBell_123 : decode cX11_readBell 123 = .ok (.iconst 1, 1) := dg_cX11_readBell_51.2.2.2.2.2.2.2.2.2.2.2.2.2.2.2
set_option maxRecDepth 100000 in
theorem dg_cX11_readBell_52 : (decode cX11_readBell 124 = .ok (.goto 4, 3)) ∧ (decode cX11_readBell 127 = .ok (.iconst 0, 1)) ∧ (decode cX11_readBell 128 = .ok (.iconst 4, 1)) ∧ (decode cX11_readBell 129 = .ok (.invokevirtual 130, 3)) ∧ (decode cX11_readBell 132 = .ok (.iload_n 2, 1)) ∧ (decode cX11_readBell 133 = .ok (.iload_n 3, 1)) ∧ (decode cX11_readBell 134 = .ok (.bipush (-4), 2)) ∧ (decode cX11_readBell 136 = .ok (.if_icmp .ne 7, 3)) ∧ (decode cX11_readBell 139 = .ok (.iconst 0, 1)) ∧ (decode cX11_readBell 140 = .ok (.goto 6, 3)) ∧ (decode cX11_readBell 143 = .ok (.iconst 1, 1)) ∧ (decode cX11_readBell 144 = .ok (.iload_n 3, 1)) ∧ (decode cX11_readBell 145 = .ok (.ishl, 1)) ∧ (decode cX11_readBell 146 = .ok (.ior, 1)) ∧ (decode cX11_readBell 147 = .ok (.istore_n 2, 1)) ∧ (decode cX11_readBell 148 = .ok (.aload_n 0, 1)) := by decide +kernel
theorem dX11_readBell_124 : decode cX11_readBell 124 = .ok (.goto 4, 3) := dg_cX11_readBell_52.1
theorem dX11_readBell_127 : decode cX11_readBell 127 = .ok (.iconst 0, 1) := dg_cX11_readBell_52.2.1
theorem dX11_readBell_128 : decode cX11_readBell 128 = .ok (.iconst 4, 1) := dg_cX11_readBell_52.2.2.1
theorem dX11_readBell_129 : decode cX11_readBell 129 = .ok (.invokevirtual 130, 3) := dg_cX11_readBell_52.2.2.2.1
theorem dX11_readBell_132 : decode cX11_readBell 132 = .ok (.iload_n 2, 1) := dg_cX11_readBell_52.2.2.2.2.1
theorem dX11_readBell_133 : decode cX11_readBell 133 = .ok (.iload_n 3, 1) := dg_cX11_readBell_52.2.2.2.2.2.1
theorem dX11_readBell_134 : decode cX11_readBell 134 = .ok (.bipush (-4), 2) := dg_cX11_readBell_52.2.2.2.2.2.2.1
theorem dX11_readBell_136 : decode cX11_readBell 136 = .ok (.if_icmp .ne 7, 3) := dg_cX11_readBell_52.2.2.2.2.2.2.2.1
theorem dX11_readBell_139 : decode cX11_readBell 139 = .ok (.iconst 0, 1) := dg_cX11_readBell_52.2.2.2.2.2.2.2.2.1
theorem dX11_readBell_140 : decode cX11_readBell 140 = .ok (.goto 6, 3) := dg_cX11_readBell_52.2.2.2.2.2.2.2.2.2.1
theorem dX11_readBell_143 : decode cX11_readBell 143 = .ok (.iconst 1, 1) := dg_cX11_readBell_52.2.2.2.2.2.2.2.2.2.2.1
theorem dX11_readBell_144 : decode cX11_readBell 144 = .ok (.iload_n 3, 1) := dg_cX11_readBell_52.2.2.2.2.2.2.2.2.2.2.2.1
theorem dX11_readBell_145 : decode cX11_readBell 145 = .ok (.ishl, 1) := dg_cX11_readBell_52.2.2.2.2.2.2.2.2.2.2.2.2.1
theorem dX11_readBell_146 : decode cX11_readBell 146 = .ok (.ior, 1) := dg_cX11_readBell_52.2.2.2.2.2.2.2.2.2.2.2.2.2.1
theorem dX11_readBell_147 : decode cX11_readBell 147 = .ok (.istore_n 2, 1) := dg_cX11_readBell_52.2.2.2.2.2.2.2.2.2.2.2.2.2.2.1
theorem dX11_readBell_148 : decode cX11_readBell 148 = .ok (.aload_n 0, 1) := dg_cX11_readBell_52.2.2.2.2.2.2.2.2.2.2.2.2.2.2.2
set_option maxRecDepth 100000 in
theorem dg_cX11_readBell_53 : (decode cX11_readBell 149 = .ok (.invokevirtual 138, 3)) ∧ (decode cX11_readBell 152 = .ok (.aload_n 0, 1)) ∧ (decode cX11_readBell 153 = .ok (.getfield 96, 3)) ∧ (decode cX11_readBell 156 = .ok (.ifCond .ne 21, 3)) ∧ (decode cX11_readBell 159 = .ok (.iload_n 3, 1)) ∧ (decode cX11_readBell 160 = .ok (.bipush 11, 2)) ∧ (decode cX11_readBell 162 = .ok (.if_icmp .ne 15, 3)) ∧ (decode cX11_readBell 165 = .ok (.aload_n 0, 1)) ∧ (decode cX11_readBell 166 = .ok (.getfield 20, 3)) ∧ (decode cX11_readBell 169 = .ok (.iload_n 1, 1)) ∧ (decode cX11_readBell 170 = .ok (.iconst 3, 1)) ∧ (decode cX11_readBell 171 = .ok (.iadd, 1)) ∧ (decode cX11_readBell 172 = .ok (.iconst 1, 1)) ∧ (decode cX11_readBell 173 = .ok (.iastore, 1)) ∧ (decode cX11_readBell 174 = .ok (.goto 30, 3)) ∧ (decode cX11_readBell 177 = .ok (.aload_n 0, 1)) := by decide +kernel
theorem dX11_readBell_149 : decode cX11_readBell 149 = .ok (.invokevirtual 138, 3) := dg_cX11_readBell_53.1
theorem dX11_readBell_152 : decode cX11_readBell 152 = .ok (.aload_n 0, 1) := dg_cX11_readBell_53.2.1
theorem dX11_readBell_153 : decode cX11_readBell 153 = .ok (.getfield 96, 3) := dg_cX11_readBell_53.2.2.1
theorem dX11_readBell_156 : decode cX11_readBell 156 = .ok (.ifCond .ne 21, 3) := dg_cX11_readBell_53.2.2.2.1
theorem dX11_readBell_159 : decode cX11_readBell 159 = .ok (.iload_n 3, 1) := dg_cX11_readBell_53.2.2.2.2.1
theorem dX11_readBell_160 : decode cX11_readBell 160 = .ok (.bipush 11, 2) := dg_cX11_readBell_53.2.2.2.2.2.1
theorem dX11_readBell_162 : decode cX11_readBell 162 = .ok (.if_icmp .ne 15, 3) := dg_cX11_readBell_53.2.2.2.2.2.2.1
theorem dX11_readBell_165 : decode cX11_readBell 165 = .ok (.aload_n 0, 1) := dg_cX11_readBell_53.2.2.2.2.2.2.2.1
theorem dX11_readBell_166 : decode cX11_readBell 166 = .ok (.getfield 20, 3) := dg_cX11_readBell_53.2.2.2.2.2.2.2.2.1
theorem dX11_readBell_169 : decode cX11_readBell 169 = .ok (.iload_n 1, 1) := dg_cX11_readBell_53.2.2.2.2.2.2.2.2.2.1
theorem dX11_readBell_170 : decode cX11_readBell 170 = .ok (.iconst 3, 1) := dg_cX11_readBell_53.2.2.2.2.2.2.2.2.2.2.1
theorem dX11_readBell_171 : decode cX11_readBell 171 = .ok (.iadd, 1) := dg_cX11_readBell_53.2.2.2.2.2.2.2.2.2.2.2.1
theorem dX11_readBell_172 : decode cX11_readBell 172 = .ok (.iconst 1, 1) := dg_cX11_readBell_53.2.2.2.2.2.2.2.2.2.2.2.2.1
theorem dX11_readBell_173 : decode cX11_readBell 173 = .ok (.iastore, 1) := dg_cX11_readBell_53.2.2.2.2.2.2.2.2.2.2.2.2.2.1
theorem dX11_readBell_174 : decode cX11_readBell 174 = .ok (.goto 30, 3) := dg_cX11_readBell_53.2.2.2.2.2.2.2.2.2.2.2.2.2.2.1
theorem dX11_readBell_177 : decode cX11_readBell 177 = .ok (.aload_n 0, 1) := dg_cX11_readBell_53.2.2.2.2.2.2.2.2.2.2.2.2.2.2.2
set_option maxRecDepth 100000 in
theorem dg_cX11_readBell_54 : (decode cX11_readBell 178 = .ok (.getfield 96, 3)) ∧ (decode cX11_readBell 181 = .ok (.ifCond .ne 23, 3)) ∧ (decode cX11_readBell 184 = .ok (.aload_n 0, 1)) ∧ (decode cX11_readBell 185 = .ok (.getfield 20, 3)) ∧ (decode cX11_readBell 188 = .ok (.iload_n 1, 1)) ∧ (decode cX11_readBell 189 = .ok (.iconst 4, 1)) ∧ (decode cX11_readBell 190 = .ok (.iadd, 1)) ∧ (decode cX11_readBell 191 = .ok (.aload_n 0, 1)) ∧ (decode cX11_readBell 192 = .ok (.aload_n 0, 1)) ∧ (decode cX11_readBell 193 = .ok (.getfield 20, 3)) ∧ (decode cX11_readBell 196 = .ok (.iload_n 1, 1)) ∧ (decode cX11_readBell 197 = .ok (.iconst 0, 1)) ∧ (decode cX11_readBell 198 = .ok (.iadd, 1)) ∧ (decode cX11_readBell 199 = .ok (.iaload, 1)) ∧ (decode cX11_readBell 200 = .ok (.invokevirtual 141, 3)) ∧ (decode cX11_readBell 203 = .ok (.iastore, 1)) := by decide +kernel
theorem dX11_readBell_178 : decode cX11_readBell 178 = .ok (.getfield 96, 3) := dg_cX11_readBell_54.1
theorem dX11_readBell_181 : decode cX11_readBell 181 = .ok (.ifCond .ne 23, 3) := dg_cX11_readBell_54.2.1
theorem dX11_readBell_184 : decode cX11_readBell 184 = .ok (.aload_n 0, 1) := dg_cX11_readBell_54.2.2.1
theorem dX11_readBell_185 : decode cX11_readBell 185 = .ok (.getfield 20, 3) := dg_cX11_readBell_54.2.2.2.1
theorem dX11_readBell_188 : decode cX11_readBell 188 = .ok (.iload_n 1, 1) := dg_cX11_readBell_54.2.2.2.2.1
theorem dX11_readBell_189 : decode cX11_readBell 189 = .ok (.iconst 4, 1) := dg_cX11_readBell_54.2.2.2.2.2.1
theorem dX11_readBell_190 : decode cX11_readBell 190 = .ok (.iadd, 1) := dg_cX11_readBell_54.2.2.2.2.2.2.1
theorem dX11_readBell_191 : decode cX11_readBell 191 = .ok (.aload_n 0, 1) := dg_cX11_readBell_54.2.2.2.2.2.2.2.1
theorem dX11_readBell_192 : decode cX11_readBell 192 = .ok (.aload_n 0, 1) := dg_cX11_readBell_54.2.2.2.2.2.2.2.2.1
theorem dX11_readBell_193 : decode cX11_readBell 193 = .ok (.getfield 20, 3) := dg_cX11_readBell_54.2.2.2.2.2.2.2.2.2.1
theorem dX11_readBell_196 : decode cX11_readBell 196 = .ok (.iload_n 1, 1) := dg_cX11_readBell_54.2.2.2.2.2.2.2.2.2.2.1
theorem dX11_readBell_197 : decode cX11_readBell 197 = .ok (.iconst 0, 1) := dg_cX11_readBell_54.2.2.2.2.2.2.2.2.2.2.2.1
theorem dX11_readBell_198 : decode cX11_readBell 198 = .ok (.iadd, 1) := dg_cX11_readBell_54.2.2.2.2.2.2.2.2.2.2.2.2.1
theorem dX11_readBell_199 : decode cX11_readBell 199 = .ok (.iaload, 1) := dg_cX11_readBell_54.2.2.2.2.2.2.2.2.2.2.2.2.2.1
theorem dX11_readBell_200 : decode cX11_readBell 200 = .ok (.invokevirtual 141, 3) := dg_cX11_readBell_54.2.2.2.2.2.2.2.2.2.2.2.2.2.2.1
theorem dX11_readBell_203 : decode cX11_readBell 203 = .ok (.iastore, 1) := dg_cX11_readBell_54.2.2.2.2.2.2.2.2.2.2.2.2.2.2.2
set_option maxRecDepth 100000 in
theorem dg_cX11_readBell_55 : (decode cX11_readBell 204 = .ok (.goto (-132), 3)) ∧ (decode cX11_readBell 207 = .ok (.aload_n 0, 1)) ∧ (decode cX11_readBell 208 = .ok (.dup, 1)) ∧ (decode cX11_readBell 209 = .ok (.getfield 60, 3)) ∧ (decode cX11_readBell 212 = .ok (.iconst 1, 1)) ∧ (decode cX11_readBell 213 = .ok (.iadd, 1)) ∧ (decode cX11_readBell 214 = .ok (.putfield 60, 3)) ∧ (decode cX11_readBell 217 = .ok (.return_, 1)) := by decide +kernel
theorem dX11_readBell_204 : decode cX11_readBell 204 = .ok (.goto (-132), 3) := dg_cX11_readBell_55.1
theorem dX11_readBell_207 : decode cX11_readBell 207 = .ok (.aload_n 0, 1) := dg_cX11_readBell_55.2.1
theorem dX11_readBell_208 : decode cX11_readBell 208 = .ok (.dup, 1) := dg_cX11_readBell_55.2.2.1
theorem dX11_readBell_209 : decode cX11_readBell 209 = .ok (.getfield 60, 3) := dg_cX11_readBell_55.2.2.2.1
theorem dX11_readBell_212 : decode cX11_readBell 212 = .ok (.iconst 1, 1) := dg_cX11_readBell_55.2.2.2.2.1
theorem dX11_readBell_213 : decode cX11_readBell 213 = .ok (.iadd, 1) := dg_cX11_readBell_55.2.2.2.2.2.1
theorem dX11_readBell_214 : decode cX11_readBell 214 = .ok (.putfield 60, 3) := dg_cX11_readBell_55.2.2.2.2.2.2.1
theorem dX11_readBell_217 : decode cX11_readBell 217 = .ok (.return_, 1) := dg_cX11_readBell_55.2.2.2.2.2.2.2
set_option maxRecDepth 100000 in
theorem dg_cX11_readTune_56 : (decode cX11_readTune 0 = .ok (.bipush 14, 2)) ∧ (decode cX11_readTune 2 = .ok (.aload_n 0, 1)) ∧ (decode cX11_readTune 3 = .ok (.getfield 63, 3)) ∧ (decode cX11_readTune 6 = .ok (.imul, 1)) ∧ (decode cX11_readTune 7 = .ok (.istore_n 1, 1)) ∧ (decode cX11_readTune 8 = .ok (.aload_n 0, 1)) ∧ (decode cX11_readTune 9 = .ok (.getfield 23, 3)) ∧ (decode cX11_readTune 12 = .ok (.iload_n 1, 1)) ∧ (decode cX11_readTune 13 = .ok (.aload_n 0, 1)) ∧ (decode cX11_readTune 14 = .ok (.iconst 0, 1)) ∧ (decode cX11_readTune 15 = .ok (.bipush 99, 2)) ∧ (decode cX11_readTune 17 = .ok (.invokevirtual 144, 3)) ∧ (decode cX11_readTune 20 = .ok (.iastore, 1)) ∧ (decode cX11_readTune 21 = .ok (.iconst 0, 1)) ∧ (decode cX11_readTune 22 = .ok (.istore_n 2, 1)) ∧ (decode cX11_readTune 23 = .ok (.iconst 1, 1)) := by decide +kernel
theorem dX11_readTune_0 : decode cX11_readTune 0 = .ok (.bipush 14, 2) := dg_cX11_readTune_56.1
theorem dX11_readTune_2 : decode cX11_readTune 2 = .ok (.aload_n 0, 1) := dg_cX11_readTune_56.2.1
theorem dX11_readTune_3 : decode cX11_readTune 3 = .ok (.getfield 63, 3) := dg_cX11_readTune_56.2.2.1
theorem dX11_readTune_6 : decode cX11_readTune 6 = .ok (.imul, 1) := dg_cX11_readTune_56.2.2.2.1
theorem dX11_readTune_7 : decode cX11_readTune 7 = .ok (.istore_n 1, 1) := dg_cX11_readTune_56.2.2.2.2.1
theorem dX11_readTune_8 : decode cX11_readTune 8 = .ok (.aload_n 0, 1) := dg_cX11_readTune_56.2.2.2.2.2.1
theorem dX11_readTune_9 : decode cX11_readTune 9 = .ok (.getfield 23, 3) := dg_cX11_readTune_56.2.2.2.2.2.2.1
theorem dX11_readTune_12 : decode cX11_readTune 12 = .ok (.iload_n 1, 1) := dg_cX11_readTune_56.2.2.2.2.2.2.2.1
theorem dX11_readTune_13 : decode cX11_readTune 13 = .ok (.aload_n 0, 1) := dg_cX11_readTune_56.2.2.2.2.2.2.2.2.1
theorem dX11_readTune_14 : decode cX11_readTune 14 = .ok (.iconst 0, 1) := dg_cX11_readTune_56.2.2.2.2.2.2.2.2.2.1
theorem dX11_readTune_15 : decode cX11_readTune 15 = .ok (.bipush 99, 2) := dg_cX11_readTune_56.2.2.2.2.2.2.2.2.2.2.1
theorem dX11_readTune_17 : decode cX11_readTune 17 = .ok (.invokevirtual 144, 3) := dg_cX11_readTune_56.2.2.2.2.2.2.2.2.2.2.2.1
theorem dX11_readTune_20 : decode cX11_readTune 20 = .ok (.iastore, 1) := dg_cX11_readTune_56.2.2.2.2.2.2.2.2.2.2.2.2.1
theorem dX11_readTune_21 : decode cX11_readTune 21 = .ok (.iconst 0, 1) := dg_cX11_readTune_56.2.2.2.2.2.2.2.2.2.2.2.2.2.1
theorem dX11_readTune_22 : decode cX11_readTune 22 = .ok (.istore_n 2, 1) := dg_cX11_readTune_56.2.2.2.2.2.2.2.2.2.2.2.2.2.2.1
theorem dX11_readTune_23 : decode cX11_readTune 23 = .ok (.iconst 1, 1) := dg_cX11_readTune_56.2.2.2.2.2.2.2.2.2.2.2.2.2.2.2
set_option maxRecDepth 100000 in
theorem dg_cX11_readTune_57 : (decode cX11_readTune 24 = .ok (.istore_n 3, 1)) ∧ (decode cX11_readTune 25 = .ok (.aload_n 0, 1)) ∧ (decode cX11_readTune 26 = .ok (.getfield 96, 3)) ∧ (decode cX11_readTune 29 = .ok (.ifCond .ne 105, 3)) ∧ (decode cX11_readTune 32 = .ok (.iload_n 3, 1)) ∧ (decode cX11_readTune 33 = .ok (.ifCond .eq 101, 3)) ∧ (decode cX11_readTune 36 = .ok (.aload_n 0, 1)) ∧ (decode cX11_readTune 37 = .ok (.aload_n 0, 1)) ∧ (decode cX11_readTune 38 = .ok (.getfield 116, 3)) ∧ (decode cX11_readTune 41 = .ok (.iconst 2, 1)) ∧ (decode cX11_readTune 42 = .ok (.if_icmp .ne 9, 3)) ∧ (decode cX11_readTune 45 = .ok (.iload_n 2, 1)) ∧ (decode cX11_readTune 46 = .ok (.bipush 12, 2)) ∧ (decode cX11_readTune 48 = .ok (.if_icmp .ge 7, 3)) ∧ (decode cX11_readTune 51 = .ok (.iconst 1, 1)) ∧ (decode cX11_readTune 52 = .ok (.goto 4, 3)) := by decide +kernel
theorem dX11_readTune_24 : decode cX11_readTune 24 = .ok (.istore_n 3, 1) := dg_cX11_readTune_57.1
theorem dX11_readTune_25 : decode cX11_readTune 25 = .ok (.aload_n 0, 1) := dg_cX11_readTune_57.2.1
theorem dX11_readTune_26 : decode cX11_readTune 26 = .ok (.getfield 96, 3) := dg_cX11_readTune_57.2.2.1
theorem dX11_readTune_29 : decode cX11_readTune 29 = .ok (.ifCond .ne 105, 3) := dg_cX11_readTune_57.2.2.2.1
theorem dX11_readTune_32 : decode cX11_readTune 32 = .ok (.iload_n 3, 1) := dg_cX11_readTune_57.2.2.2.2.1
theorem dX11_readTune_33 : decode cX11_readTune 33 = .ok (.ifCond .eq 101, 3) := dg_cX11_readTune_57.2.2.2.2.2.1
theorem dX11_readTune_36 : decode cX11_readTune 36 = .ok (.aload_n 0, 1) := dg_cX11_readTune_57.2.2.2.2.2.2.1
theorem dX11_readTune_37 : decode cX11_readTune 37 = .ok (.aload_n 0, 1) := dg_cX11_readTune_57.2.2.2.2.2.2.2.1
theorem dX11_readTune_38 : decode cX11_readTune 38 = .ok (.getfield 116, 3) := dg_cX11_readTune_57.2.2.2.2.2.2.2.2.1
theorem dX11_readTune_41 : decode cX11_readTune 41 = .ok (.iconst 2, 1) := dg_cX11_readTune_57.2.2.2.2.2.2.2.2.2.1
theorem dX11_readTune_42 : decode cX11_readTune 42 = .ok (.if_icmp .ne 9, 3) := dg_cX11_readTune_57.2.2.2.2.2.2.2.2.2.2.1
theorem dX11_readTune_45 : decode cX11_readTune 45 = .ok (.iload_n 2, 1) := dg_cX11_readTune_57.2.2.2.2.2.2.2.2.2.2.2.1
theorem dX11_readTune_46 : decode cX11_readTune 46 = .ok (.bipush 12, 2) := dg_cX11_readTune_57.2.2.2.2.2.2.2.2.2.2.2.2.1
theorem dX11_readTune_48 : decode cX11_readTune 48 = .ok (.if_icmp .ge 7, 3) := dg_cX11_readTune_57.2.2.2.2.2.2.2.2.2.2.2.2.2.1
theorem dX11_readTune_51 : decode cX11_readTune 51 = .ok (.iconst 1, 1) := dg_cX11_readTune_57.2.2.2.2.2.2.2.2.2.2.2.2.2.2.1
theorem dX11_readTune_52 : decode cX11_readTune 52 = .ok (.goto 4, 3) := dg_cX11_readTune_57.2.2.2.2.2.2.2.2.2.2.2.2.2.2.2
set_option maxRecDepth 100000 in
theorem dg_cX11_readTune_58 : (decode cX11_readTune 55 = .ok (.iconst 0, 1)) ∧ (decode cX11_readTune 56 = .ok (.iconst 5, 1)) ∧ (decode cX11_readTune 57 = .ok (.invokevirtual 130, 3)) ∧ (decode cX11_readTune 60 = .ok (.aload_n 0, 1)) ∧ (decode cX11_readTune 61 = .ok (.iconst 0, 1)) ∧ (decode cX11_readTune 62 = .ok (.bipush 11, 2)) ∧ (decode cX11_readTune 64 = .ok (.invokevirtual 134, 3)) ∧ (decode cX11_readTune 67 = .ok (.istore 4, 2)) ∧ (decode cX11_readTune 69 = .ok (.aload_n 0, 1)) ∧ (decode cX11_readTune 70 = .ok (.invokevirtual 138, 3)) ∧ (decode cX11_readTune 73 = .ok (.aload_n 0, 1)) ∧ (decode cX11_readTune 74 = .ok (.getfield 96, 3)) ∧ (decode cX11_readTune 77 = .ok (.ifCond .ne 40, 3)) ∧ (decode cX11_readTune 80 = .ok (.aload_n 0, 1)) ∧ (decode cX11_readTune 81 = .ok (.getfield 23, 3)) ∧ (decode cX11_readTune 84 = .ok (.iload_n 1, 1)) := by decide +kernel
theorem dX11_readTune_55 : decode cX11_readTune 55 = .ok (.iconst 0, 1) := dg_cX11_readTune_58.1
theorem dX11_readTune_56 : decode cX11_readTune 56 = .ok (.iconst 5, 1) := dg_cX11_readTune_58.2.1
theorem dX11_readTune_57 : decode cX11_readTune 57 = .ok (.invokevirtual 130, 3) := dg_cX11_readTune_58.2.2.1
theorem dX11_readTune_60 : decode cX11_readTune 60 = .ok (.aload_n 0, 1) := dg_cX11_readTune_58.2.2.2.1
theorem dX11_readTune_61 : decode cX11_readTune 61 = .ok (.iconst 0, 1) := dg_cX11_readTune_58.2.2.2.2.1
theorem dX11_readTune_62 : decode cX11_readTune 62 = .ok (.bipush 11, 2) := dg_cX11_readTune_58.2.2.2.2.2.1
theorem dX11_readTune_64 : decode cX11_readTune 64 = .ok (.invokevirtual 134, 3) := dg_cX11_readTune_58.2.2.2.2.2.2.1
theorem dX11_readTune_67 : decode cX11_readTune 67 = .ok (.istore 4, 2) := dg_cX11_readTune_58.2.2.2.2.2.2.2.1
theorem dX11_readTune_69 : decode cX11_readTune 69 = .ok (.aload_n 0, 1) := dg_cX11_readTune_58.2.2.2.2.2.2.2.2.1
theorem dX11_readTune_70 : decode cX11_readTune 70 = .ok (.invokevirtual 138, 3) := dg_cX11_readTune_58.2.2.2.2.2.2.2.2.2.1
theorem dX11_readTune_73 : decode cX11_readTune 73 = .ok (.aload_n 0, 1) := dg_cX11_readTune_58.2.2.2.2.2.2.2.2.2.2.1
theorem dX11_readTune_74 : decode cX11_readTune 74 = .ok (.getfield 96, 3) := dg_cX11_readTune_58.2.2.2.2.2.2.2.2.2.2.2.1
theorem dX11_readTune_77 : decode cX11_readTune 77 = .ok (.ifCond .ne 40, 3) := dg_cX11_readTune_58.2.2.2.2.2.2.2.2.2.2.2.2.1
theorem dX11_readTune_80 : decode cX11_readTune 80 = .ok (.aload_n 0, 1) := dg_cX11_readTune_58.2.2.2.2.2.2.2.2.2.2.2.2.2.1
theorem dX11_readTune_81 : decode cX11_readTune 81 = .ok (.getfield 23, 3) := dg_cX11_readTune_58.2.2.2.2.2.2.2.2.2.2.2.2.2.2.1
theorem dX11_readTune_84 : decode cX11_readTune 84 = .ok (.iload_n 1, 1) := dg_cX11_readTune_58.2.2.2.2.2.2.2.2.2.2.2.2.2.2.2
set_option maxRecDepth 100000 in
theorem dg_cX11_readTune_59 : (decode cX11_readTune 85 = .ok (.iconst 2, 1)) ∧ (decode cX11_readTune 86 = .ok (.iadd, 1)) ∧ (decode cX11_readTune 87 = .ok (.iload_n 2, 1)) ∧ (decode cX11_readTune 88 = .ok (.iadd, 1)) ∧ (decode cX11_readTune 89 = .ok (.iload 4, 2)) ∧ (decode cX11_readTune 91 = .ok (.iastore, 1)) ∧ (decode cX11_readTune 92 = .ok (.aload_n 0, 1)) ∧ (decode cX11_readTune 93 = .ok (.iload 4, 2)) ∧ (decode cX11_readTune 95 = .ok (.aload_n 0, 1)) ∧ (decode cX11_readTune 96 = .ok (.getfield 69, 3)) ∧ (decode cX11_readTune 99 = .ok (.if_icmp .le 8, 3)) ∧ (decode cX11_readTune 102 = .ok (.iload 4, 2)) ∧ (decode cX11_readTune 104 = .ok (.goto 7, 3)) ∧ (decode cX11_readTune 107 = .ok (.aload_n 0, 1)) ∧ (decode cX11_readTune 108 = .ok (.getfield 69, 3)) ∧ (decode cX11_readTune 111 = .ok (.putfield 69, 3)) := by decide +kernel
theorem dX11_readTune_85 : decode cX11_readTune 85 = .ok (.iconst 2, 1) := dg_cX11_readTune_59.1
theorem dX11_readTune_86 : decode cX11_readTune 86 = .ok (.iadd, 1) := dg_cX11_readTune_59.2.1
theorem dX11_readTune_87 : decode cX11_readTune 87 = .ok (.iload_n 2, 1) := dg_cX11_readTune_59.2.2.1
theorem dX11_readTune_88 : decode cX11_readTune 88 = .ok (.iadd, 1) := dg_cX11_readTune_59.2.2.2.1
theorem dX11_readTune_89 : decode cX11_readTune 89 = .ok (.iload 4, 2) := dg_cX11_readTune_59.2.2.2.2.1
theorem dX11_readTune_91 : decode cX11_readTune 91 = .ok (.iastore, 1) := dg_cX11_readTune_59.2.2.2.2.2.1
theorem dX11_readTune_92 : decode cX11_readTune 92 = .ok (.aload_n 0, 1) := dg_cX11_readTune_59.2.2.2.2.2.2.1
theorem dX11_readTune_93 : decode cX11_readTune 93 = .ok (.iload 4, 2) := dg_cX11_readTune_59.2.2.2.2.2.2.2.1
theorem dX11_readTune_95 : decode cX11_readTune 95 = .ok (.aload_n 0, 1) := dg_cX11_readTune_59.2.2.2.2.2.2.2.2.1
theorem dX11_readTune_96 : decode cX11_readTune 96 = .ok (.getfield 69, 3) := dg_cX11_readTune_59.2.2.2.2.2.2.2.2.2.1
theorem dX11_readTune_99 : decode cX11_readTune 99 = .ok (.if_icmp .le 8, 3) := dg_cX11_readTune_59.2.2.2.2.2.2.2.2.2.2.1
theorem dX11_readTune_102 : decode cX11_readTune 102 = .ok (.iload 4, 2) := dg_cX11_readTune_59.2.2.2.2.2.2.2.2.2.2.2.1
theorem dX11_readTune_104 : decode cX11_readTune 104 = .ok (.goto 7, 3) := dg_cX11_readTune_59.2.2.2.2.2.2.2.2.2.2.2.2.1
theorem dX11_readTune_107 : decode cX11_readTune 107 = .ok (.aload_n 0, 1) := dg_cX11_readTune_59.2.2.2.2.2.2.2.2.2.2.2.2.2.1
theorem dX11_readTune_108 : decode cX11_readTune 108 = .ok (.getfield 69, 3) := dg_cX11_readTune_59.2.2.2.2.2.2.2.2.2.2.2.2.2.2.1
theorem dX11_readTune_111 : decode cX11_readTune 111 = .ok (.putfield 69, 3) := dg_cX11_readTune_59.2.2.2.2.2.2.2.2.2.2.2.2.2.2.2
set_option maxRecDepth 100000 in
theorem dg_cX11_readTune_60 : (decode cX11_readTune 114 = .ok (.iinc 2 1, 3)) ∧ (decode cX11_readTune 117 = .ok (.aload_n 0, 1)) ∧ (decode cX11_readTune 118 = .ok (.getfield 116, 3)) ∧ (decode cX11_readTune 121 = .ok (.iconst 2, 1)) ∧ (decode cX11_readTune 122 = .ok (.if_icmp .ne 7, 3)) ∧ (decode cX11_readTune 125 = .ok (.iconst 1, 1)) ∧ (decode cX11_readTune 126 = .ok (.goto 4, 3)) ∧ (decode cX11_readTune 129 = .ok (.iconst 0, 1)) ∧ (decode cX11_readTune 130 = .ok (.istore_n 3, 1)) ∧ (decode cX11_readTune 131 = .ok (.goto (-106), 3)) ∧ (decode cX11_readTune 134 = .ok (.aload_n 0, 1)) ∧ (decode cX11_readTune 135 = .ok (.getfield 23, 3)) ∧ (decode cX11_readTune 138 = .ok (.iload_n 1, 1)) ∧ (decode cX11_readTune 139 = .ok (.iconst 1, 1)) ∧ (decode cX11_readTune 140 = .ok (.iadd, 1)) ∧ (decode cX11_readTune 141 = .ok (.iload_n 2, 1)) := by decide +kernel
theorem dX11_readTune_114 : decode cX11_readTune 114 = .ok (.iinc 2 1, 3) := dg_cX11_readTune_60.1
theorem dX11_readTune_117 : decode cX11_readTune 117 = .ok (.aload_n 0, 1) := dg_cX11_readTune_60.2.1
theorem dX11_readTune_118 : decode cX11_readTune 118 = .ok (.getfield 116, 3) := dg_cX11_readTune_60.2.2.1
theorem dX11_readTune_121 : decode cX11_readTune 121 = .ok (.iconst 2, 1) := dg_cX11_readTune_60.2.2.2.1
theorem dX11_readTune_122 : decode cX11_readTune 122 = .ok (.if_icmp .ne 7, 3) := dg_cX11_readTune_60.2.2.2.2.1
theorem dX11_readTune_125 : decode cX11_readTune 125 = .ok (.iconst 1, 1) := dg_cX11_readTune_60.2.2.2.2.2.1
theorem dX11_readTune_126 : decode cX11_readTune 126 = .ok (.goto 4, 3) := dg_cX11_readTune_60.2.2.2.2.2.2.1
theorem dX11_readTune_129 : decode cX11_readTune 129 = .ok (.iconst 0, 1) := dg_cX11_readTune_60.2.2.2.2.2.2.2.1
theorem dX11_readTune_130 : decode cX11_readTune 130 = .ok (.istore_n 3, 1) := dg_cX11_readTune_60.2.2.2.2.2.2.2.2.1
theorem dX11_readTune_131 : decode cX11_readTune 131 = .ok (.goto (-106), 3) := dg_cX11_readTune_60.2.2.2.2.2.2.2.2.2.1
theorem dX11_readTune_134 : decode cX11_readTune 134 = .ok (.aload_n 0, 1) := dg_cX11_readTune_60.2.2.2.2.2.2.2.2.2.2.1
theorem dX11_readTune_135 : decode cX11_readTune 135 = .ok (.getfield 23, 3) := dg_cX11_readTune_60.2.2.2.2.2.2.2.2.2.2.2.1
theorem dX11_readTune_138 : decode cX11_readTune 138 = .ok (.iload_n 1, 1) := dg_cX11_readTune_60.2.2.2.2.2.2.2.2.2.2.2.2.1
theorem dX11_readTune_139 : decode cX11_readTune 139 = .ok (.iconst 1, 1) := dg_cX11_readTune_60.2.2.2.2.2.2.2.2.2.2.2.2.2.1
theorem dX11_readTune_140 : decode cX11_readTune 140 = .ok (.iadd, 1) := dg_cX11_readTune_60.2.2.2.2.2.2.2.2.2.2.2.2.2.2.1
theorem dX11_readTune_141 : decode cX11_readTune 141 = .ok (.iload_n 2, 1) := dg_cX11_readTune_60.2.2.2.2.2.2.2.2.2.2.2.2.2.2.2
set_option maxRecDepth 100000 in
theorem dg_cX11_readTune_61 : (decode cX11_readTune 142 = .ok (.iastore, 1)) ∧ (decode cX11_readTune 143 = .ok (.aload_n 0, 1)) ∧ (decode cX11_readTune 144 = .ok (.dup, 1)) ∧ (decode cX11_readTune 145 = .ok (.getfield 63, 3)) ∧ (decode cX11_readTune 148 = .ok (.iconst 1, 1)) ∧ (decode cX11_readTune 149 = .ok (.iadd, 1)) ∧ (decode cX11_readTune 150 = .ok (.putfield 63, 3)) ∧ (decode cX11_readTune 153 = .ok (.return_, 1)) := by decide +kernel
theorem dX11_readTune_142 : decode cX11_readTune 142 = .ok (.iastore, 1) := dg_cX11_readTune_61.1
theorem dX11_readTune_143 : decode cX11_readTune 143 = .ok (.aload_n 0, 1) := dg_cX11_readTune_61.2.1
theorem dX11_readTune_144 : decode cX11_readTune 144 = .ok (.dup, 1) := dg_cX11_readTune_61.2.2.1
theorem dX11_readTune_145 : decode cX11_readTune 145 = .ok (.getfield 63, 3) := dg_cX11_readTune_61.2.2.2.1
theorem dX11_readTune_148 : decode cX11_readTune 148 = .ok (.iconst 1, 1) := dg_cX11_readTune_61.2.2.2.2.1
theorem dX11_readTune_149 : decode cX11_readTune 149 = .ok (.iadd, 1) := dg_cX11_readTune_61.2.2.2.2.2.1
theorem dX11_readTune_150 : decode cX11_readTune 150 = .ok (.putfield 63, 3) := dg_cX11_readTune_61.2.2.2.2.2.2.1
theorem dX11_readTune_153 : decode cX11_readTune 153 = .ok (.return_, 1) := dg_cX11_readTune_61.2.2.2.2.2.2.2
set_option maxRecDepth 100000 in
theorem dg_cX11_readFeud_62 : (decode cX11_readFeud 0 = .ok (.aload_n 0, 1)) ∧ (decode cX11_readFeud 1 = .ok (.bipush (-4), 2)) ∧ (decode cX11_readFeud 3 = .ok (.invokevirtual 141, 3)) ∧ (decode cX11_readFeud 6 = .ok (.istore_n 1, 1)) ∧ (decode cX11_readFeud 7 = .ok (.aload_n 0, 1)) ∧ (decode cX11_readFeud 8 = .ok (.iload_n 1, 1)) ∧ (decode cX11_readFeud 9 = .ok (.invokevirtual 141, 3)) ∧ (decode cX11_readFeud 12 = .ok (.istore_n 2, 1)) ∧ (decode cX11_readFeud 13 = .ok (.aload_n 0, 1)) ∧ (decode cX11_readFeud 14 = .ok (.getfield 96, 3)) ∧ (decode cX11_readFeud 17 = .ok (.ifCond .ne 33, 3)) ∧ (decode cX11_readFeud 20 = .ok (.aload_n 0, 1)) ∧ (decode cX11_readFeud 21 = .ok (.getfield 20, 3)) ∧ (decode cX11_readFeud 24 = .ok (.bipush 60, 2)) ∧ (decode cX11_readFeud 26 = .ok (.iload_n 1, 1)) ∧ (decode cX11_readFeud 27 = .ok (.iadd, 1)) := by decide +kernel
theorem dX11_readFeud_0 : decode cX11_readFeud 0 = .ok (.aload_n 0, 1) := dg_cX11_readFeud_62.1
theorem dX11_readFeud_1 : decode cX11_readFeud 1 = .ok (.bipush (-4), 2) := dg_cX11_readFeud_62.2.1
theorem dX11_readFeud_3 : decode cX11_readFeud 3 = .ok (.invokevirtual 141, 3) := dg_cX11_readFeud_62.2.2.1
theorem dX11_readFeud_6 : decode cX11_readFeud 6 = .ok (.istore_n 1, 1) := dg_cX11_readFeud_62.2.2.2.1
theorem dX11_readFeud_7 : decode cX11_readFeud 7 = .ok (.aload_n 0, 1) := dg_cX11_readFeud_62.2.2.2.2.1
theorem dX11_readFeud_8 : decode cX11_readFeud 8 = .ok (.iload_n 1, 1) := dg_cX11_readFeud_62.2.2.2.2.2.1
theorem dX11_readFeud_9 : decode cX11_readFeud 9 = .ok (.invokevirtual 141, 3) := dg_cX11_readFeud_62.2.2.2.2.2.2.1
theorem dX11_readFeud_12 : decode cX11_readFeud 12 = .ok (.istore_n 2, 1) := dg_cX11_readFeud_62.2.2.2.2.2.2.2.1
theorem dX11_readFeud_13 : decode cX11_readFeud 13 = .ok (.aload_n 0, 1) := dg_cX11_readFeud_62.2.2.2.2.2.2.2.2.1
theorem dX11_readFeud_14 : decode cX11_readFeud 14 = .ok (.getfield 96, 3) := dg_cX11_readFeud_62.2.2.2.2.2.2.2.2.2.1
theorem dX11_readFeud_17 : decode cX11_readFeud 17 = .ok (.ifCond .ne 33, 3) := dg_cX11_readFeud_62.2.2.2.2.2.2.2.2.2.2.1
theorem dX11_readFeud_20 : decode cX11_readFeud 20 = .ok (.aload_n 0, 1) := dg_cX11_readFeud_62.2.2.2.2.2.2.2.2.2.2.2.1
theorem dX11_readFeud_21 : decode cX11_readFeud 21 = .ok (.getfield 20, 3) := dg_cX11_readFeud_62.2.2.2.2.2.2.2.2.2.2.2.2.1
theorem dX11_readFeud_24 : decode cX11_readFeud 24 = .ok (.bipush 60, 2) := dg_cX11_readFeud_62.2.2.2.2.2.2.2.2.2.2.2.2.2.1
theorem dX11_readFeud_26 : decode cX11_readFeud 26 = .ok (.iload_n 1, 1) := dg_cX11_readFeud_62.2.2.2.2.2.2.2.2.2.2.2.2.2.2.1
theorem dX11_readFeud_27 : decode cX11_readFeud 27 = .ok (.iadd, 1) := dg_cX11_readFeud_62.2.2.2.2.2.2.2.2.2.2.2.2.2.2.2
set_option maxRecDepth 100000 in
theorem dg_cX11_readFeud_63 : (decode cX11_readFeud 28 = .ok (.dup2, 1)) ∧ (decode cX11_readFeud 29 = .ok (.iaload, 1)) ∧ (decode cX11_readFeud 30 = .ok (.iconst 1, 1)) ∧ (decode cX11_readFeud 31 = .ok (.iload_n 2, 1)) ∧ (decode cX11_readFeud 32 = .ok (.ishl, 1)) ∧ (decode cX11_readFeud 33 = .ok (.ior, 1)) ∧ (decode cX11_readFeud 34 = .ok (.iastore, 1)) ∧ (decode cX11_readFeud 35 = .ok (.aload_n 0, 1)) ∧ (decode cX11_readFeud 36 = .ok (.getfield 20, 3)) ∧ (decode cX11_readFeud 39 = .ok (.bipush 60, 2)) ∧ (decode cX11_readFeud 41 = .ok (.iload_n 2, 1)) ∧ (decode cX11_readFeud 42 = .ok (.iadd, 1)) ∧ (decode cX11_readFeud 43 = .ok (.dup2, 1)) ∧ (decode cX11_readFeud 44 = .ok (.iaload, 1)) ∧ (decode cX11_readFeud 45 = .ok (.iconst 1, 1)) ∧ (decode cX11_readFeud 46 = .ok (.iload_n 1, 1)) := by decide +kernel
theorem dX11_readFeud_28 : decode cX11_readFeud 28 = .ok (.dup2, 1) := dg_cX11_readFeud_63.1
theorem dX11_readFeud_29 : decode cX11_readFeud 29 = .ok (.iaload, 1) := dg_cX11_readFeud_63.2.1
theorem dX11_readFeud_30 : decode cX11_readFeud 30 = .ok (.iconst 1, 1) := dg_cX11_readFeud_63.2.2.1
theorem dX11_readFeud_31 : decode cX11_readFeud 31 = .ok (.iload_n 2, 1) := dg_cX11_readFeud_63.2.2.2.1
theorem dX11_readFeud_32 : decode cX11_readFeud 32 = .ok (.ishl, 1) := dg_cX11_readFeud_63.2.2.2.2.1
theorem dX11_readFeud_33 : decode cX11_readFeud 33 = .ok (.ior, 1) := dg_cX11_readFeud_63.2.2.2.2.2.1
theorem dX11_readFeud_34 : decode cX11_readFeud 34 = .ok (.iastore, 1) := dg_cX11_readFeud_63.2.2.2.2.2.2.1
theorem dX11_readFeud_35 : decode cX11_readFeud 35 = .ok (.aload_n 0, 1) := dg_cX11_readFeud_63.2.2.2.2.2.2.2.1
theorem dX11_readFeud_36 : decode cX11_readFeud 36 = .ok (.getfield 20, 3) := dg_cX11_readFeud_63.2.2.2.2.2.2.2.2.1
theorem dX11_readFeud_39 : decode cX11_readFeud 39 = .ok (.bipush 60, 2) := dg_cX11_readFeud_63.2.2.2.2.2.2.2.2.2.1
theorem dX11_readFeud_41 : decode cX11_readFeud 41 = .ok (.iload_n 2, 1) := dg_cX11_readFeud_63.2.2.2.2.2.2.2.2.2.2.1
theorem dX11_readFeud_42 : decode cX11_readFeud 42 = .ok (.iadd, 1) := dg_cX11_readFeud_63.2.2.2.2.2.2.2.2.2.2.2.1
theorem dX11_readFeud_43 : decode cX11_readFeud 43 = .ok (.dup2, 1) := dg_cX11_readFeud_63.2.2.2.2.2.2.2.2.2.2.2.2.1
theorem dX11_readFeud_44 : decode cX11_readFeud 44 = .ok (.iaload, 1) := dg_cX11_readFeud_63.2.2.2.2.2.2.2.2.2.2.2.2.2.1
theorem dX11_readFeud_45 : decode cX11_readFeud 45 = .ok (.iconst 1, 1) := dg_cX11_readFeud_63.2.2.2.2.2.2.2.2.2.2.2.2.2.2.1
theorem dX11_readFeud_46 : decode cX11_readFeud 46 = .ok (.iload_n 1, 1) := dg_cX11_readFeud_63.2.2.2.2.2.2.2.2.2.2.2.2.2.2.2
set_option maxRecDepth 100000 in
theorem dg_cX11_readFeud_64 : (decode cX11_readFeud 47 = .ok (.ishl, 1)) ∧ (decode cX11_readFeud 48 = .ok (.ior, 1)) ∧ (decode cX11_readFeud 49 = .ok (.iastore, 1)) ∧ (decode cX11_readFeud 50 = .ok (.return_, 1)) := by decide +kernel
theorem dX11_readFeud_47 : decode cX11_readFeud 47 = .ok (.ishl, 1) := dg_cX11_readFeud_64.1
theorem dX11_readFeud_48 : decode cX11_readFeud 48 = .ok (.ior, 1) := dg_cX11_readFeud_64.2.1
theorem dX11_readFeud_49 : decode cX11_readFeud 49 = .ok (.iastore, 1) := dg_cX11_readFeud_64.2.2.1
theorem dX11_readFeud_50 : decode cX11_readFeud 50 = .ok (.return_, 1) := dg_cX11_readFeud_64.2.2.2
set_option maxRecDepth 100000 in
theorem dg_cX11_readLine_65 : (decode cX11_readLine 0 = .ok (.aload_n 0, 1)) ∧ (decode cX11_readLine 1 = .ok (.getfield 116, 3)) ∧ (decode cX11_readLine 4 = .ok (.iconst 1, 1)) ∧ (decode cX11_readLine 5 = .ok (.if_icmp .ne 10, 3)) ∧ (decode cX11_readLine 8 = .ok (.aload_n 0, 1)) ∧ (decode cX11_readLine 9 = .ok (.invokevirtual 151, 3)) ∧ (decode cX11_readLine 12 = .ok (.goto 5, 3)) ∧ (decode cX11_readLine 15 = .ok (.bipush (-4), 2)) ∧ (decode cX11_readLine 17 = .ok (.istore_n 1, 1)) ∧ (decode cX11_readLine 18 = .ok (.aload_n 0, 1)) ∧ (decode cX11_readLine 19 = .ok (.iload_n 1, 1)) ∧ (decode cX11_readLine 20 = .ok (.bipush (-4), 2)) ∧ (decode cX11_readLine 22 = .ok (.if_icmp .eq 7, 3)) ∧ (decode cX11_readLine 25 = .ok (.iconst 1, 1)) ∧ (decode cX11_readLine 26 = .ok (.goto 4, 3)) ∧ (decode cX11_readLine 29 = .ok (.iconst 0, 1)) := by decide +kernel
theorem dX11_readLine_0 : decode cX11_readLine 0 = .ok (.aload_n 0, 1) := dg_cX11_readLine_65.1
theorem dX11_readLine_1 : decode cX11_readLine 1 = .ok (.getfield 116, 3) := dg_cX11_readLine_65.2.1
theorem dX11_readLine_4 : decode cX11_readLine 4 = .ok (.iconst 1, 1) := dg_cX11_readLine_65.2.2.1
theorem dX11_readLine_5 : decode cX11_readLine 5 = .ok (.if_icmp .ne 10, 3) := dg_cX11_readLine_65.2.2.2.1
theorem dX11_readLine_8 : decode cX11_readLine 8 = .ok (.aload_n 0, 1) := dg_cX11_readLine_65.2.2.2.2.1
theorem dX11_readLine_9 : decode cX11_readLine 9 = .ok (.invokevirtual 151, 3) := dg_cX11_readLine_65.2.2.2.2.2.1
theorem dX11_readLine_12 : decode cX11_readLine 12 = .ok (.goto 5, 3) := dg_cX11_readLine_65.2.2.2.2.2.2.1
theorem dX11_readLine_15 : decode cX11_readLine 15 = .ok (.bipush (-4), 2) := dg_cX11_readLine_65.2.2.2.2.2.2.2.1
theorem dX11_readLine_17 : decode cX11_readLine 17 = .ok (.istore_n 1, 1) := dg_cX11_readLine_65.2.2.2.2.2.2.2.2.1
theorem dX11_readLine_18 : decode cX11_readLine 18 = .ok (.aload_n 0, 1) := dg_cX11_readLine_65.2.2.2.2.2.2.2.2.2.1
theorem dX11_readLine_19 : decode cX11_readLine 19 = .ok (.iload_n 1, 1) := dg_cX11_readLine_65.2.2.2.2.2.2.2.2.2.2.1
theorem dX11_readLine_20 : decode cX11_readLine 20 = .ok (.bipush (-4), 2) := dg_cX11_readLine_65.2.2.2.2.2.2.2.2.2.2.2.1
theorem dX11_readLine_22 : decode cX11_readLine 22 = .ok (.if_icmp .eq 7, 3) := dg_cX11_readLine_65.2.2.2.2.2.2.2.2.2.2.2.2.1
theorem dX11_readLine_25 : decode cX11_readLine 25 = .ok (.iconst 1, 1) := dg_cX11_readLine_65.2.2.2.2.2.2.2.2.2.2.2.2.2.1
theorem dX11_readLine_26 : decode cX11_readLine 26 = .ok (.goto 4, 3) := dg_cX11_readLine_65.2.2.2.2.2.2.2.2.2.2.2.2.2.2.1
theorem dX11_readLine_29 : decode cX11_readLine 29 = .ok (.iconst 0, 1) := dg_cX11_readLine_65.2.2.2.2.2.2.2.2.2.2.2.2.2.2.2
set_option maxRecDepth 100000 in
theorem dg_cX11_readLine_66 : (decode cX11_readLine 30 = .ok (.iconst 2, 1)) ∧ (decode cX11_readLine 31 = .ok (.invokevirtual 130, 3)) ∧ (decode cX11_readLine 34 = .ok (.aload_n 0, 1)) ∧ (decode cX11_readLine 35 = .ok (.iload_n 1, 1)) ∧ (decode cX11_readLine 36 = .ok (.iconst 2, 1)) ∧ (decode cX11_readLine 37 = .ok (.if_icmp .ne 12, 3)) ∧ (decode cX11_readLine 40 = .ok (.aload_n 0, 1)) ∧ (decode cX11_readLine 41 = .ok (.getfield 60, 3)) ∧ (decode cX11_readLine 44 = .ok (.bipush 12, 2)) ∧ (decode cX11_readLine 46 = .ok (.if_icmp .ge 21, 3)) ∧ (decode cX11_readLine 49 = .ok (.iload_n 1, 1)) ∧ (decode cX11_readLine 50 = .ok (.iconst 3, 1)) ∧ (decode cX11_readLine 51 = .ok (.if_icmp .ne 12, 3)) ∧ (decode cX11_readLine 54 = .ok (.aload_n 0, 1)) ∧ (decode cX11_readLine 55 = .ok (.getfield 63, 3)) ∧ (decode cX11_readLine 58 = .ok (.bipush 6, 2)) := by decide +kernel
theorem dX11_readLine_30 : decode cX11_readLine 30 = .ok (.iconst 2, 1) := dg_cX11_readLine_66.1
theorem dX11_readLine_31 : decode cX11_readLine 31 = .ok (.invokevirtual 130, 3) := dg_cX11_readLine_66.2.1
theorem dX11_readLine_34 : decode cX11_readLine 34 = .ok (.aload_n 0, 1) := dg_cX11_readLine_66.2.2.1
theorem dX11_readLine_35 : decode cX11_readLine 35 = .ok (.iload_n 1, 1) := dg_cX11_readLine_66.2.2.2.1
theorem dX11_readLine_36 : decode cX11_readLine 36 = .ok (.iconst 2, 1) := dg_cX11_readLine_66.2.2.2.2.1
theorem dX11_readLine_37 : decode cX11_readLine 37 = .ok (.if_icmp .ne 12, 3) := dg_cX11_readLine_66.2.2.2.2.2.1
theorem dX11_readLine_40 : decode cX11_readLine 40 = .ok (.aload_n 0, 1) := dg_cX11_readLine_66.2.2.2.2.2.2.1
theorem dX11_readLine_41 : decode cX11_readLine 41 = .ok (.getfield 60, 3) := dg_cX11_readLine_66.2.2.2.2.2.2.2.1
theorem dX11_readLine_44 : decode cX11_readLine 44 = .ok (.bipush 12, 2) := dg_cX11_readLine_66.2.2.2.2.2.2.2.2.1
theorem dX11_readLine_46 : decode cX11_readLine 46 = .ok (.if_icmp .ge 21, 3) := dg_cX11_readLine_66.2.2.2.2.2.2.2.2.2.1
theorem dX11_readLine_49 : decode cX11_readLine 49 = .ok (.iload_n 1, 1) := dg_cX11_readLine_66.2.2.2.2.2.2.2.2.2.2.1
theorem dX11_readLine_50 : decode cX11_readLine 50 = .ok (.iconst 3, 1) := dg_cX11_readLine_66.2.2.2.2.2.2.2.2.2.2.2.1
theorem dX11_readLine_51 : decode cX11_readLine 51 = .ok (.if_icmp .ne 12, 3) := dg_cX11_readLine_66.2.2.2.2.2.2.2.2.2.2.2.2.1
theorem dX11_readLine_54 : decode cX11_readLine 54 = .ok (.aload_n 0, 1) := dg_cX11_readLine_66.2.2.2.2.2.2.2.2.2.2.2.2.2.1
theorem dX11_readLine_55 : decode cX11_readLine 55 = .ok (.getfield 63, 3) := dg_cX11_readLine_66.2.2.2.2.2.2.2.2.2.2.2.2.2.2.1
theorem dX11_readLine_58 : decode cX11_readLine 58 = .ok (.bipush 6, 2) := dg_cX11_readLine_66.2.2.2.2.2.2.2.2.2.2.2.2.2.2.2
set_option maxRecDepth 100000 in
theorem dg_cX11_readLine_67 : (decode cX11_readLine 60 = .ok (.if_icmp .ge 7, 3)) ∧ (decode cX11_readLine 63 = .ok (.iconst 1, 1)) ∧ (decode cX11_readLine 64 = .ok (.goto 4, 3)) ∧ (decode cX11_readLine 67 = .ok (.iconst 0, 1)) ∧ (decode cX11_readLine 68 = .ok (.iconst 5, 1)) ∧ (decode cX11_readLine 69 = .ok (.invokevirtual 130, 3)) ∧ (decode cX11_readLine 72 = .ok (.aload_n 0, 1)) ∧ (decode cX11_readLine 73 = .ok (.getfield 96, 3)) ∧ (decode cX11_readLine 76 = .ok (.ifCond .ne 41, 3)) ∧ (decode cX11_readLine 79 = .ok (.iload_n 1, 1)) ∧ (decode cX11_readLine 80 = .ok (.iconst 1, 1)) ∧ (decode cX11_readLine 81 = .ok (.if_icmp .gt 36, 3)) ∧ (decode cX11_readLine 84 = .ok (.aload_n 0, 1)) ∧ (decode cX11_readLine 85 = .ok (.aload_n 0, 1)) ∧ (decode cX11_readLine 86 = .ok (.getfield 72, 3)) ∧ (decode cX11_readLine 89 = .ok (.iload_n 1, 1)) := by decide +kernel
theorem dX11_readLine_60 : decode cX11_readLine 60 = .ok (.if_icmp .ge 7, 3) := dg_cX11_readLine_67.1
theorem dX11_readLine_63 : decode cX11_readLine 63 = .ok (.iconst 1, 1) := dg_cX11_readLine_67.2.1
theorem dX11_readLine_64 : decode cX11_readLine 64 = .ok (.goto 4, 3) := dg_cX11_readLine_67.2.2.1
theorem dX11_readLine_67 : decode cX11_readLine 67 = .ok (.iconst 0, 1) := dg_cX11_readLine_67.2.2.2.1
theorem dX11_readLine_68 : decode cX11_readLine 68 = .ok (.iconst 5, 1) := dg_cX11_readLine_67.2.2.2.2.1
theorem dX11_readLine_69 : decode cX11_readLine 69 = .ok (.invokevirtual 130, 3) := dg_cX11_readLine_67.2.2.2.2.2.1
theorem dX11_readLine_72 : decode cX11_readLine 72 = .ok (.aload_n 0, 1) := dg_cX11_readLine_67.2.2.2.2.2.2.1
theorem dX11_readLine_73 : decode cX11_readLine 73 = .ok (.getfield 96, 3) := dg_cX11_readLine_67.2.2.2.2.2.2.2.1
theorem dX11_readLine_76 : decode cX11_readLine 76 = .ok (.ifCond .ne 41, 3) := dg_cX11_readLine_67.2.2.2.2.2.2.2.2.1
theorem dX11_readLine_79 : decode cX11_readLine 79 = .ok (.iload_n 1, 1) := dg_cX11_readLine_67.2.2.2.2.2.2.2.2.2.1
theorem dX11_readLine_80 : decode cX11_readLine 80 = .ok (.iconst 1, 1) := dg_cX11_readLine_67.2.2.2.2.2.2.2.2.2.2.1
theorem dX11_readLine_81 : decode cX11_readLine 81 = .ok (.if_icmp .gt 36, 3) := dg_cX11_readLine_67.2.2.2.2.2.2.2.2.2.2.2.1
theorem dX11_readLine_84 : decode cX11_readLine 84 = .ok (.aload_n 0, 1) := dg_cX11_readLine_67.2.2.2.2.2.2.2.2.2.2.2.2.1
theorem dX11_readLine_85 : decode cX11_readLine 85 = .ok (.aload_n 0, 1) := dg_cX11_readLine_67.2.2.2.2.2.2.2.2.2.2.2.2.2.1
theorem dX11_readLine_86 : decode cX11_readLine 86 = .ok (.getfield 72, 3) := dg_cX11_readLine_67.2.2.2.2.2.2.2.2.2.2.2.2.2.2.1
theorem dX11_readLine_89 : decode cX11_readLine 89 = .ok (.iload_n 1, 1) := dg_cX11_readLine_67.2.2.2.2.2.2.2.2.2.2.2.2.2.2.2
set_option maxRecDepth 100000 in
theorem dg_cX11_readLine_68 : (decode cX11_readLine 90 = .ok (.ishr, 1)) ∧ (decode cX11_readLine 91 = .ok (.iconst 1, 1)) ∧ (decode cX11_readLine 92 = .ok (.iand, 1)) ∧ (decode cX11_readLine 93 = .ok (.ifCond .ne 7, 3)) ∧ (decode cX11_readLine 96 = .ok (.iconst 1, 1)) ∧ (decode cX11_readLine 97 = .ok (.goto 4, 3)) ∧ (decode cX11_readLine 100 = .ok (.iconst 0, 1)) ∧ (decode cX11_readLine 101 = .ok (.iconst 4, 1)) ∧ (decode cX11_readLine 102 = .ok (.invokevirtual 130, 3)) ∧ (decode cX11_readLine 105 = .ok (.aload_n 0, 1)) ∧ (decode cX11_readLine 106 = .ok (.dup, 1)) ∧ (decode cX11_readLine 107 = .ok (.getfield 72, 3)) ∧ (decode cX11_readLine 110 = .ok (.iconst 1, 1)) ∧ (decode cX11_readLine 111 = .ok (.iload_n 1, 1)) ∧ (decode cX11_readLine 112 = .ok (.ishl, 1)) ∧ (decode cX11_readLine 113 = .ok (.ior, 1)) := by decide +kernel
theorem dX11_readLine_90 : decode cX11_readLine 90 = .ok (.ishr, 1) := dg_cX11_readLine_68.1
theorem dX11_readLine_91 : decode cX11_readLine 91 = .ok (.iconst 1, 1) := dg_cX11_readLine_68.2.1
theorem dX11_readLine_92 : decode cX11_readLine 92 = .ok (.iand, 1) := dg_cX11_readLine_68.2.2.1
theorem dX11_readLine_93 : decode cX11_readLine 93 = .ok (.ifCond .ne 7, 3) := dg_cX11_readLine_68.2.2.2.1
theorem dX11_readLine_96 : decode cX11_readLine 96 = .ok (.iconst 1, 1) := dg_cX11_readLine_68.2.2.2.2.1
theorem dX11_readLine_97 : decode cX11_readLine 97 = .ok (.goto 4, 3) := dg_cX11_readLine_68.2.2.2.2.2.1
theorem dX11_readLine_100 : decode cX11_readLine 100 = .ok (.iconst 0, 1) := dg_cX11_readLine_68.2.2.2.2.2.2.1
theorem dX11_readLine_101 : decode cX11_readLine 101 = .ok (.iconst 4, 1) := dg_cX11_readLine_68.2.2.2.2.2.2.2.1
theorem dX11_readLine_102 : decode cX11_readLine 102 = .ok (.invokevirtual 130, 3) := dg_cX11_readLine_68.2.2.2.2.2.2.2.2.1
theorem dX11_readLine_105 : decode cX11_readLine 105 = .ok (.aload_n 0, 1) := dg_cX11_readLine_68.2.2.2.2.2.2.2.2.2.1
theorem dX11_readLine_106 : decode cX11_readLine 106 = .ok (.dup, 1) := dg_cX11_readLine_68.2.2.2.2.2.2.2.2.2.2.1
theorem dX11_readLine_107 : decode cX11_readLine 107 = .ok (.getfield 72, 3) := dg_cX11_readLine_68.2.2.2.2.2.2.2.2.2.2.2.1
theorem dX11_readLine_110 : decode cX11_readLine 110 = .ok (.iconst 1, 1) := dg_cX11_readLine_68.2.2.2.2.2.2.2.2.2.2.2.2.1
theorem dX11_readLine_111 : decode cX11_readLine 111 = .ok (.iload_n 1, 1) := dg_cX11_readLine_68.2.2.2.2.2.2.2.2.2.2.2.2.2.1
theorem dX11_readLine_112 : decode cX11_readLine 112 = .ok (.ishl, 1) := dg_cX11_readLine_68.2.2.2.2.2.2.2.2.2.2.2.2.2.2.1
theorem dX11_readLine_113 : decode cX11_readLine 113 = .ok (.ior, 1) := dg_cX11_readLine_68.2.2.2.2.2.2.2.2.2.2.2.2.2.2.2
set_option maxRecDepth 100000 in
theorem dg_cX11_readLine_69 : (decode cX11_readLine 114 = .ok (.putfield 72, 3)) ∧ (decode cX11_readLine 117 = .ok (.aload_n 0, 1)) ∧ (decode cX11_readLine 118 = .ok (.invokevirtual 138, 3)) ∧ (decode cX11_readLine 121 = .ok (.aload_n 0, 1)) ∧ (decode cX11_readLine 122 = .ok (.getfield 96, 3)) ∧ (decode cX11_readLine 125 = .ok (.ifCond .le 4, 3)) ∧ (decode cX11_readLine 128 = .ok (.return_, 1)) ∧ (decode cX11_readLine 129 = .ok (.iload_n 1, 1)) ∧ (decode cX11_readLine 130 = .ok (.tableswitch 72 0 3 #[30, 44, 58, 65], 30)) ∧ (decode cX11_readLine 160 = .ok (.aload_n 0, 1)) ∧ (decode cX11_readLine 161 = .ok (.aload_n 0, 1)) ∧ (decode cX11_readLine 162 = .ok (.iconst 1, 1)) ∧ (decode cX11_readLine 163 = .ok (.bipush 6, 2)) ∧ (decode cX11_readLine 165 = .ok (.invokevirtual 144, 3)) ∧ (decode cX11_readLine 168 = .ok (.putfield 53, 3)) ∧ (decode cX11_readLine 171 = .ok (.goto 35, 3)) := by decide +kernel
theorem dX11_readLine_114 : decode cX11_readLine 114 = .ok (.putfield 72, 3) := dg_cX11_readLine_69.1
theorem dX11_readLine_117 : decode cX11_readLine 117 = .ok (.aload_n 0, 1) := dg_cX11_readLine_69.2.1
theorem dX11_readLine_118 : decode cX11_readLine 118 = .ok (.invokevirtual 138, 3) := dg_cX11_readLine_69.2.2.1
theorem dX11_readLine_121 : decode cX11_readLine 121 = .ok (.aload_n 0, 1) := dg_cX11_readLine_69.2.2.2.1
theorem dX11_readLine_122 : decode cX11_readLine 122 = .ok (.getfield 96, 3) := dg_cX11_readLine_69.2.2.2.2.1
theorem dX11_readLine_125 : decode cX11_readLine 125 = .ok (.ifCond .le 4, 3) := dg_cX11_readLine_69.2.2.2.2.2.1
theorem dX11_readLine_128 : decode cX11_readLine 128 = .ok (.return_, 1) := dg_cX11_readLine_69.2.2.2.2.2.2.1
theorem dX11_readLine_129 : decode cX11_readLine 129 = .ok (.iload_n 1, 1) := dg_cX11_readLine_69.2.2.2.2.2.2.2.1
theorem dX11_readLine_130 : decode cX11_readLine 130 = .ok (.tableswitch 72 0 3 #[30, 44, 58, 65], 30) := dg_cX11_readLine_69.2.2.2.2.2.2.2.2.1
theorem dX11_readLine_160 : decode cX11_readLine 160 = .ok (.aload_n 0, 1) := dg_cX11_readLine_69.2.2.2.2.2.2.2.2.2.1
theorem dX11_readLine_161 : decode cX11_readLine 161 = .ok (.aload_n 0, 1) := dg_cX11_readLine_69.2.2.2.2.2.2.2.2.2.2.1
theorem dX11_readLine_162 : decode cX11_readLine 162 = .ok (.iconst 1, 1) := dg_cX11_readLine_69.2.2.2.2.2.2.2.2.2.2.2.1
theorem dX11_readLine_163 : decode cX11_readLine 163 = .ok (.bipush 6, 2) := dg_cX11_readLine_69.2.2.2.2.2.2.2.2.2.2.2.2.1
theorem dX11_readLine_165 : decode cX11_readLine 165 = .ok (.invokevirtual 144, 3) := dg_cX11_readLine_69.2.2.2.2.2.2.2.2.2.2.2.2.2.1
theorem dX11_readLine_168 : decode cX11_readLine 168 = .ok (.putfield 53, 3) := dg_cX11_readLine_69.2.2.2.2.2.2.2.2.2.2.2.2.2.2.1
theorem dX11_readLine_171 : decode cX11_readLine 171 = .ok (.goto 35, 3) := dg_cX11_readLine_69.2.2.2.2.2.2.2.2.2.2.2.2.2.2.2
set_option maxRecDepth 100000 in
theorem dg_cX11_readLine_70 : (decode cX11_readLine 174 = .ok (.aload_n 0, 1)) ∧ (decode cX11_readLine 175 = .ok (.aload_n 0, 1)) ∧ (decode cX11_readLine 176 = .ok (.iconst 0, 1)) ∧ (decode cX11_readLine 177 = .ok (.bipush 9, 2)) ∧ (decode cX11_readLine 179 = .ok (.invokevirtual 144, 3)) ∧ (decode cX11_readLine 182 = .ok (.putfield 57, 3)) ∧ (decode cX11_readLine 185 = .ok (.goto 21, 3)) ∧ (decode cX11_readLine 188 = .ok (.aload_n 0, 1)) ∧ (decode cX11_readLine 189 = .ok (.invokevirtual 154, 3)) ∧ (decode cX11_readLine 192 = .ok (.goto 14, 3)) ∧ (decode cX11_readLine 195 = .ok (.aload_n 0, 1)) ∧ (decode cX11_readLine 196 = .ok (.invokevirtual 157, 3)) ∧ (decode cX11_readLine 199 = .ok (.goto 7, 3)) ∧ (decode cX11_readLine 202 = .ok (.aload_n 0, 1)) ∧ (decode cX11_readLine 203 = .ok (.invokevirtual 160, 3)) ∧ (decode cX11_readLine 206 = .ok (.aload_n 0, 1)) := by decide +kernel
theorem dX11_readLine_174 : decode cX11_readLine 174 = .ok (.aload_n 0, 1) := dg_cX11_readLine_70.1
theorem dX11_readLine_175 : decode cX11_readLine 175 = .ok (.aload_n 0, 1) := dg_cX11_readLine_70.2.1
theorem dX11_readLine_176 : decode cX11_readLine 176 = .ok (.iconst 0, 1) := dg_cX11_readLine_70.2.2.1
theorem dX11_readLine_177 : decode cX11_readLine 177 = .ok (.bipush 9, 2) := dg_cX11_readLine_70.2.2.2.1
theorem dX11_readLine_179 : decode cX11_readLine 179 = .ok (.invokevirtual 144, 3) := dg_cX11_readLine_70.2.2.2.2.1
theorem dX11_readLine_182 : decode cX11_readLine 182 = .ok (.putfield 57, 3) := dg_cX11_readLine_70.2.2.2.2.2.1
theorem dX11_readLine_185 : decode cX11_readLine 185 = .ok (.goto 21, 3) := dg_cX11_readLine_70.2.2.2.2.2.2.1
theorem dX11_readLine_188 : decode cX11_readLine 188 = .ok (.aload_n 0, 1) := dg_cX11_readLine_70.2.2.2.2.2.2.2.1
theorem dX11_readLine_189 : decode cX11_readLine 189 = .ok (.invokevirtual 154, 3) := dg_cX11_readLine_70.2.2.2.2.2.2.2.2.1
theorem dX11_readLine_192 : decode cX11_readLine 192 = .ok (.goto 14, 3) := dg_cX11_readLine_70.2.2.2.2.2.2.2.2.2.1
theorem dX11_readLine_195 : decode cX11_readLine 195 = .ok (.aload_n 0, 1) := dg_cX11_readLine_70.2.2.2.2.2.2.2.2.2.2.1
theorem dX11_readLine_196 : decode cX11_readLine 196 = .ok (.invokevirtual 157, 3) := dg_cX11_readLine_70.2.2.2.2.2.2.2.2.2.2.2.1
theorem dX11_readLine_199 : decode cX11_readLine 199 = .ok (.goto 7, 3) := dg_cX11_readLine_70.2.2.2.2.2.2.2.2.2.2.2.2.1
theorem dX11_readLine_202 : decode cX11_readLine 202 = .ok (.aload_n 0, 1) := dg_cX11_readLine_70.2.2.2.2.2.2.2.2.2.2.2.2.2.1
theorem dX11_readLine_203 : decode cX11_readLine 203 = .ok (.invokevirtual 160, 3) := dg_cX11_readLine_70.2.2.2.2.2.2.2.2.2.2.2.2.2.2.1
theorem dX11_readLine_206 : decode cX11_readLine 206 = .ok (.aload_n 0, 1) := dg_cX11_readLine_70.2.2.2.2.2.2.2.2.2.2.2.2.2.2.2
set_option maxRecDepth 100000 in
theorem dg_cX11_readLine_71 : (decode cX11_readLine 207 = .ok (.getfield 96, 3)) ∧ (decode cX11_readLine 210 = .ok (.ifCond .ne 21, 3)) ∧ (decode cX11_readLine 213 = .ok (.aload_n 0, 1)) ∧ (decode cX11_readLine 214 = .ok (.aload_n 0, 1)) ∧ (decode cX11_readLine 215 = .ok (.getfield 116, 3)) ∧ (decode cX11_readLine 218 = .ok (.iconst 3, 1)) ∧ (decode cX11_readLine 219 = .ok (.if_icmp .ne 7, 3)) ∧ (decode cX11_readLine 222 = .ok (.iconst 1, 1)) ∧ (decode cX11_readLine 223 = .ok (.goto 4, 3)) ∧ (decode cX11_readLine 226 = .ok (.iconst 0, 1)) ∧ (decode cX11_readLine 227 = .ok (.iconst 2, 1)) ∧ (decode cX11_readLine 228 = .ok (.invokevirtual 130, 3)) ∧ (decode cX11_readLine 231 = .ok (.aload_n 0, 1)) ∧ (decode cX11_readLine 232 = .ok (.invokevirtual 138, 3)) ∧ (decode cX11_readLine 235 = .ok (.return_, 1)) := by decide +kernel
theorem dX11_readLine_207 : decode cX11_readLine 207 = .ok (.getfield 96, 3) := dg_cX11_readLine_71.1
theorem dX11_readLine_210 : decode cX11_readLine 210 = .ok (.ifCond .ne 21, 3) := dg_cX11_readLine_71.2.1
theorem dX11_readLine_213 : decode cX11_readLine 213 = .ok (.aload_n 0, 1) := dg_cX11_readLine_71.2.2.1
theorem dX11_readLine_214 : decode cX11_readLine 214 = .ok (.aload_n 0, 1) := dg_cX11_readLine_71.2.2.2.1
theorem dX11_readLine_215 : decode cX11_readLine 215 = .ok (.getfield 116, 3) := dg_cX11_readLine_71.2.2.2.2.1
theorem dX11_readLine_218 : decode cX11_readLine 218 = .ok (.iconst 3, 1) := dg_cX11_readLine_71.2.2.2.2.2.1
theorem dX11_readLine_219 : decode cX11_readLine 219 = .ok (.if_icmp .ne 7, 3) := dg_cX11_readLine_71.2.2.2.2.2.2.1
theorem dX11_readLine_222 : decode cX11_readLine 222 = .ok (.iconst 1, 1) := dg_cX11_readLine_71.2.2.2.2.2.2.2.1
theorem dX11_readLine_223 : decode cX11_readLine 223 = .ok (.goto 4, 3) := dg_cX11_readLine_71.2.2.2.2.2.2.2.2.1
theorem dX11_readLine_226 : decode cX11_readLine 226 = .ok (.iconst 0, 1) := dg_cX11_readLine_71.2.2.2.2.2.2.2.2.2.1
theorem dX11_readLine_227 : decode cX11_readLine 227 = .ok (.iconst 2, 1) := dg_cX11_readLine_71.2.2.2.2.2.2.2.2.2.2.1
theorem dX11_readLine_228 : decode cX11_readLine 228 = .ok (.invokevirtual 130, 3) := dg_cX11_readLine_71.2.2.2.2.2.2.2.2.2.2.2.1
theorem dX11_readLine_231 : decode cX11_readLine 231 = .ok (.aload_n 0, 1) := dg_cX11_readLine_71.2.2.2.2.2.2.2.2.2.2.2.2.1
theorem dX11_readLine_232 : decode cX11_readLine 232 = .ok (.invokevirtual 138, 3) := dg_cX11_readLine_71.2.2.2.2.2.2.2.2.2.2.2.2.2.1
theorem dX11_readLine_235 : decode cX11_readLine 235 = .ok (.return_, 1) := dg_cX11_readLine_71.2.2.2.2.2.2.2.2.2.2.2.2.2.2
set_option maxRecDepth 100000 in
theorem dg_cX11_text_72 : (decode cX11_text 0 = .ok (.iconst 0, 1)) ∧ (decode cX11_text 1 = .ok (.istore_n 1, 1)) ∧ (decode cX11_text 2 = .ok (.aload_n 0, 1)) ∧ (decode cX11_text 3 = .ok (.iconst 0, 1)) ∧ (decode cX11_text 4 = .ok (.putfield 96, 3)) ∧ (decode cX11_text 7 = .ok (.aload_n 0, 1)) ∧ (decode cX11_text 8 = .ok (.iconst 0, 1)) ∧ (decode cX11_text 9 = .ok (.putfield 105, 3)) ∧ (decode cX11_text 12 = .ok (.aload_n 0, 1)) ∧ (decode cX11_text 13 = .ok (.invokevirtual 47, 3)) ∧ (decode cX11_text 16 = .ok (.aload_n 0, 1)) ∧ (decode cX11_text 17 = .ok (.invokevirtual 138, 3)) ∧ (decode cX11_text 20 = .ok (.aload_n 0, 1)) ∧ (decode cX11_text 21 = .ok (.getfield 96, 3)) ∧ (decode cX11_text 24 = .ok (.ifCond .ne 20, 3)) ∧ (decode cX11_text 27 = .ok (.aload_n 0, 1)) := by decide +kernel
theorem dX11_text_0 : decode cX11_text 0 = .ok (.iconst 0, 1) := dg_cX11_text_72.1
theorem dX11_text_1 : decode cX11_text 1 = .ok (.istore_n 1, 1) := dg_cX11_text_72.2.1
theorem dX11_text_2 : decode cX11_text 2 = .ok (.aload_n 0, 1) := dg_cX11_text_72.2.2.1
theorem dX11_text_3 : decode cX11_text 3 = .ok (.iconst 0, 1) := dg_cX11_text_72.2.2.2.1
theorem dX11_text_4 : decode cX11_text 4 = .ok (.putfield 96, 3) := dg_cX11_text_72.2.2.2.2.1
theorem dX11_text_7 : decode cX11_text 7 = .ok (.aload_n 0, 1) := dg_cX11_text_72.2.2.2.2.2.1
theorem dX11_text_8 : decode cX11_text 8 = .ok (.iconst 0, 1) := dg_cX11_text_72.2.2.2.2.2.2.1
theorem dX11_text_9 : decode cX11_text 9 = .ok (.putfield 105, 3) := dg_cX11_text_72.2.2.2.2.2.2.2.1
theorem dX11_text_12 : decode cX11_text 12 = .ok (.aload_n 0, 1) := dg_cX11_text_72.2.2.2.2.2.2.2.2.1
theorem dX11_text_13 : decode cX11_text 13 = .ok (.invokevirtual 47, 3) := dg_cX11_text_72.2.2.2.2.2.2.2.2.2.1
theorem dX11_text_16 : decode cX11_text 16 = .ok (.aload_n 0, 1) := dg_cX11_text_72.2.2.2.2.2.2.2.2.2.2.1
theorem dX11_text_17 : decode cX11_text 17 = .ok (.invokevirtual 138, 3) := dg_cX11_text_72.2.2.2.2.2.2.2.2.2.2.2.1
theorem dX11_text_20 : decode cX11_text 20 = .ok (.aload_n 0, 1) := dg_cX11_text_72.2.2.2.2.2.2.2.2.2.2.2.2.1
theorem dX11_text_21 : decode cX11_text 21 = .ok (.getfield 96, 3) := dg_cX11_text_72.2.2.2.2.2.2.2.2.2.2.2.2.2.1
theorem dX11_text_24 : decode cX11_text 24 = .ok (.ifCond .ne 20, 3) := dg_cX11_text_72.2.2.2.2.2.2.2.2.2.2.2.2.2.2.1
theorem dX11_text_27 : decode cX11_text 27 = .ok (.aload_n 0, 1) := dg_cX11_text_72.2.2.2.2.2.2.2.2.2.2.2.2.2.2.2
set_option maxRecDepth 100000 in
theorem dg_cX11_text_73 : (decode cX11_text 28 = .ok (.getfield 116, 3)) ∧ (decode cX11_text 31 = .ok (.ifCond .eq 13, 3)) ∧ (decode cX11_text 34 = .ok (.aload_n 0, 1)) ∧ (decode cX11_text 35 = .ok (.invokevirtual 163, 3)) ∧ (decode cX11_text 38 = .ok (.iinc 1 1, 3)) ∧ (decode cX11_text 41 = .ok (.goto (-21), 3)) ∧ (decode cX11_text 44 = .ok (.aload_n 0, 1)) ∧ (decode cX11_text 45 = .ok (.getfield 96, 3)) ∧ (decode cX11_text 48 = .ok (.ifCond .ne 36, 3)) ∧ (decode cX11_text 51 = .ok (.aload_n 0, 1)) ∧ (decode cX11_text 52 = .ok (.aload_n 0, 1)) ∧ (decode cX11_text 53 = .ok (.getfield 66, 3)) ∧ (decode cX11_text 56 = .ok (.aload_n 0, 1)) ∧ (decode cX11_text 57 = .ok (.getfield 53, 3)) ∧ (decode cX11_text 60 = .ok (.if_icmp .ge 18, 3)) ∧ (decode cX11_text 63 = .ok (.aload_n 0, 1)) := by decide +kernel
theorem dX11_text_28 : decode cX11_text 28 = .ok (.getfield 116, 3) := dg_cX11_text_73.1
theorem dX11_text_31 : decode cX11_text 31 = .ok (.ifCond .eq 13, 3) := dg_cX11_text_73.2.1
theorem dX11_text_34 : decode cX11_text 34 = .ok (.aload_n 0, 1) := dg_cX11_text_73.2.2.1
theorem dX11_text_35 : decode cX11_text 35 = .ok (.invokevirtual 163, 3) := dg_cX11_text_73.2.2.2.1
theorem dX11_text_38 : decode cX11_text 38 = .ok (.iinc 1 1, 3) := dg_cX11_text_73.2.2.2.2.1
theorem dX11_text_41 : decode cX11_text 41 = .ok (.goto (-21), 3) := dg_cX11_text_73.2.2.2.2.2.1
theorem dX11_text_44 : decode cX11_text 44 = .ok (.aload_n 0, 1) := dg_cX11_text_73.2.2.2.2.2.2.1
theorem dX11_text_45 : decode cX11_text 45 = .ok (.getfield 96, 3) := dg_cX11_text_73.2.2.2.2.2.2.2.1
theorem dX11_text_48 : decode cX11_text 48 = .ok (.ifCond .ne 36, 3) := dg_cX11_text_73.2.2.2.2.2.2.2.2.1
theorem dX11_text_51 : decode cX11_text 51 = .ok (.aload_n 0, 1) := dg_cX11_text_73.2.2.2.2.2.2.2.2.2.1
theorem dX11_text_52 : decode cX11_text 52 = .ok (.aload_n 0, 1) := dg_cX11_text_73.2.2.2.2.2.2.2.2.2.2.1
theorem dX11_text_53 : decode cX11_text 53 = .ok (.getfield 66, 3) := dg_cX11_text_73.2.2.2.2.2.2.2.2.2.2.2.1
theorem dX11_text_56 : decode cX11_text 56 = .ok (.aload_n 0, 1) := dg_cX11_text_73.2.2.2.2.2.2.2.2.2.2.2.2.1
theorem dX11_text_57 : decode cX11_text 57 = .ok (.getfield 53, 3) := dg_cX11_text_73.2.2.2.2.2.2.2.2.2.2.2.2.2.1
theorem dX11_text_60 : decode cX11_text 60 = .ok (.if_icmp .ge 18, 3) := dg_cX11_text_73.2.2.2.2.2.2.2.2.2.2.2.2.2.2.1
theorem dX11_text_63 : decode cX11_text 63 = .ok (.aload_n 0, 1) := dg_cX11_text_73.2.2.2.2.2.2.2.2.2.2.2.2.2.2.2
set_option maxRecDepth 100000 in
theorem dg_cX11_text_74 : (decode cX11_text 64 = .ok (.getfield 69, 3)) ∧ (decode cX11_text 67 = .ok (.aload_n 0, 1)) ∧ (decode cX11_text 68 = .ok (.getfield 60, 3)) ∧ (decode cX11_text 71 = .ok (.if_icmp .ge 7, 3)) ∧ (decode cX11_text 74 = .ok (.iconst 1, 1)) ∧ (decode cX11_text 75 = .ok (.goto 4, 3)) ∧ (decode cX11_text 78 = .ok (.iconst 0, 1)) ∧ (decode cX11_text 79 = .ok (.bipush 6, 2)) ∧ (decode cX11_text 81 = .ok (.invokevirtual 130, 3)) ∧ (decode cX11_text 84 = .ok (.aload_n 0, 1)) ∧ (decode cX11_text 85 = .ok (.iconst 0, 1)) ∧ (decode cX11_text 86 = .ok (.putfield 87, 3)) ∧ (decode cX11_text 89 = .ok (.aload_n 0, 1)) ∧ (decode cX11_text 90 = .ok (.getfield 96, 3)) ∧ (decode cX11_text 93 = .ok (.ifCond .le 11, 3)) ∧ (decode cX11_text 96 = .ok (.bipush (-10), 2)) := by decide +kernel
theorem dX11_text_64 : decode cX11_text 64 = .ok (.getfield 69, 3) := dg_cX11_text_74.1
theorem dX11_text_67 : decode cX11_text 67 = .ok (.aload_n 0, 1) := dg_cX11_text_74.2.1
theorem dX11_text_68 : decode cX11_text 68 = .ok (.getfield 60, 3) := dg_cX11_text_74.2.2.1
theorem dX11_text_71 : decode cX11_text 71 = .ok (.if_icmp .ge 7, 3) := dg_cX11_text_74.2.2.2.1
theorem dX11_text_74 : decode cX11_text 74 = .ok (.iconst 1, 1) := dg_cX11_text_74.2.2.2.2.1
theorem dX11_text_75 : decode cX11_text 75 = .ok (.goto 4, 3) := dg_cX11_text_74.2.2.2.2.2.1
theorem dX11_text_78 : decode cX11_text 78 = .ok (.iconst 0, 1) := dg_cX11_text_74.2.2.2.2.2.2.1
theorem dX11_text_79 : decode cX11_text 79 = .ok (.bipush 6, 2) := dg_cX11_text_74.2.2.2.2.2.2.2.1
theorem dX11_text_81 : decode cX11_text 81 = .ok (.invokevirtual 130, 3) := dg_cX11_text_74.2.2.2.2.2.2.2.2.1
theorem dX11_text_84 : decode cX11_text 84 = .ok (.aload_n 0, 1) := dg_cX11_text_74.2.2.2.2.2.2.2.2.2.1
theorem dX11_text_85 : decode cX11_text 85 = .ok (.iconst 0, 1) := dg_cX11_text_74.2.2.2.2.2.2.2.2.2.2.1
theorem dX11_text_86 : decode cX11_text 86 = .ok (.putfield 87, 3) := dg_cX11_text_74.2.2.2.2.2.2.2.2.2.2.2.1
theorem dX11_text_89 : decode cX11_text 89 = .ok (.aload_n 0, 1) := dg_cX11_text_74.2.2.2.2.2.2.2.2.2.2.2.2.1
theorem dX11_text_90 : decode cX11_text 90 = .ok (.getfield 96, 3) := dg_cX11_text_74.2.2.2.2.2.2.2.2.2.2.2.2.2.1
theorem dX11_text_93 : decode cX11_text 93 = .ok (.ifCond .le 11, 3) := dg_cX11_text_74.2.2.2.2.2.2.2.2.2.2.2.2.2.2.1
theorem dX11_text_96 : decode cX11_text 96 = .ok (.bipush (-10), 2) := dg_cX11_text_74.2.2.2.2.2.2.2.2.2.2.2.2.2.2.2
set_option maxRecDepth 100000 in
theorem dg_cX11_text_75 : (decode cX11_text 98 = .ok (.aload_n 0, 1)) ∧ (decode cX11_text 99 = .ok (.getfield 102, 3)) ∧ (decode cX11_text 102 = .ok (.isub, 1)) ∧ (decode cX11_text 103 = .ok (.ireturn, 1)) ∧ (decode cX11_text 104 = .ok (.aload_n 0, 1)) ∧ (decode cX11_text 105 = .ok (.invokevirtual 50, 3)) ∧ (decode cX11_text 108 = .ok (.iload_n 1, 1)) ∧ (decode cX11_text 109 = .ok (.ireturn, 1)) := by decide +kernel
theorem dX11_text_98 : decode cX11_text 98 = .ok (.aload_n 0, 1) := dg_cX11_text_75.1
theorem dX11_text_99 : decode cX11_text 99 = .ok (.getfield 102, 3) := dg_cX11_text_75.2.1
theorem dX11_text_102 : decode cX11_text 102 = .ok (.isub, 1) := dg_cX11_text_75.2.2.1
theorem dX11_text_103 : decode cX11_text 103 = .ok (.ireturn, 1) := dg_cX11_text_75.2.2.2.1
theorem dX11_text_104 : decode cX11_text 104 = .ok (.aload_n 0, 1) := dg_cX11_text_75.2.2.2.2.1
theorem dX11_text_105 : decode cX11_text 105 = .ok (.invokevirtual 50, 3) := dg_cX11_text_75.2.2.2.2.2.1
theorem dX11_text_108 : decode cX11_text 108 = .ok (.iload_n 1, 1) := dg_cX11_text_75.2.2.2.2.2.2.1
theorem dX11_text_109 : decode cX11_text 109 = .ok (.ireturn, 1) := dg_cX11_text_75.2.2.2.2.2.2.2
set_option maxRecDepth 100000 in
theorem dg_cX11_fault_76 : (decode cX11_fault 0 = .ok (.aload_n 0, 1)) ∧ (decode cX11_fault 1 = .ok (.getfield 96, 3)) ∧ (decode cX11_fault 4 = .ok (.ireturn, 1)) := by decide +kernel
theorem dX11_fault_0 : decode cX11_fault 0 = .ok (.aload_n 0, 1) := dg_cX11_fault_76.1
theorem dX11_fault_1 : decode cX11_fault 1 = .ok (.getfield 96, 3) := dg_cX11_fault_76.2.1
theorem dX11_fault_4 : decode cX11_fault 4 = .ok (.ireturn, 1) := dg_cX11_fault_76.2.2
set_option maxRecDepth 100000 in
theorem dg_cX11_rule_77 : (decode cX11_rule 0 = .ok (.iload_n 1, 1)) ∧ (decode cX11_rule 1 = .ok (.ifCond .ne 10, 3)) ∧ (decode cX11_rule 4 = .ok (.aload_n 0, 1)) ∧ (decode cX11_rule 5 = .ok (.getfield 75, 3)) ∧ (decode cX11_rule 8 = .ok (.goto 16, 3)) ∧ (decode cX11_rule 11 = .ok (.iload_n 1, 1)) ∧ (decode cX11_rule 12 = .ok (.iconst 1, 1)) ∧ (decode cX11_rule 13 = .ok (.if_icmp .ne 10, 3)) ∧ (decode cX11_rule 16 = .ok (.aload_n 0, 1)) ∧ (decode cX11_rule 17 = .ok (.getfield 78, 3)) ∧ (decode cX11_rule 20 = .ok (.goto 4, 3)) ∧ (decode cX11_rule 23 = .ok (.iconst (-1), 1)) ∧ (decode cX11_rule 24 = .ok (.ireturn, 1)) := by decide +kernel
theorem dX11_rule_0 : decode cX11_rule 0 = .ok (.iload_n 1, 1) := dg_cX11_rule_77.1
theorem dX11_rule_1 : decode cX11_rule 1 = .ok (.ifCond .ne 10, 3) := dg_cX11_rule_77.2.1
theorem dX11_rule_4 : decode cX11_rule 4 = .ok (.aload_n 0, 1) := dg_cX11_rule_77.2.2.1
theorem dX11_rule_5 : decode cX11_rule 5 = .ok (.getfield 75, 3) := dg_cX11_rule_77.2.2.2.1
theorem dX11_rule_8 : decode cX11_rule 8 = .ok (.goto 16, 3) := dg_cX11_rule_77.2.2.2.2.1
theorem dX11_rule_11 : decode cX11_rule 11 = .ok (.iload_n 1, 1) := dg_cX11_rule_77.2.2.2.2.2.1
theorem dX11_rule_12 : decode cX11_rule 12 = .ok (.iconst 1, 1) := dg_cX11_rule_77.2.2.2.2.2.2.1
theorem dX11_rule_13 : decode cX11_rule 13 = .ok (.if_icmp .ne 10, 3) := dg_cX11_rule_77.2.2.2.2.2.2.2.1
theorem dX11_rule_16 : decode cX11_rule 16 = .ok (.aload_n 0, 1) := dg_cX11_rule_77.2.2.2.2.2.2.2.2.1
theorem dX11_rule_17 : decode cX11_rule 17 = .ok (.getfield 78, 3) := dg_cX11_rule_77.2.2.2.2.2.2.2.2.2.1
theorem dX11_rule_20 : decode cX11_rule 20 = .ok (.goto 4, 3) := dg_cX11_rule_77.2.2.2.2.2.2.2.2.2.2.1
theorem dX11_rule_23 : decode cX11_rule 23 = .ok (.iconst (-1), 1) := dg_cX11_rule_77.2.2.2.2.2.2.2.2.2.2.2.1
theorem dX11_rule_24 : decode cX11_rule 24 = .ok (.ireturn, 1) := dg_cX11_rule_77.2.2.2.2.2.2.2.2.2.2.2.2
set_option maxRecDepth 100000 in
theorem dg_cX11_isHouse_78 : (decode cX11_isHouse 0 = .ok (.iload_n 1, 1)) ∧ (decode cX11_isHouse 1 = .ok (.i2l, 1)) ∧ (decode cX11_isHouse 2 = .ok (.lconst 0, 1)) ∧ (decode cX11_isHouse 3 = .ok (.aload_n 0, 1)) ∧ (decode cX11_isHouse 4 = .ok (.getfield 75, 3)) ∧ (decode cX11_isHouse 7 = .ok (.iconst 1, 1)) ∧ (decode cX11_isHouse 8 = .ok (.isub, 1)) ∧ (decode cX11_isHouse 9 = .ok (.i2l, 1)) ∧ (decode cX11_isHouse 10 = .ok (.invokestatic 92, 3)) ∧ (decode cX11_isHouse 13 = .ok (.ireturn, 1)) := by decide +kernel
theorem dX11_isHouse_0 : decode cX11_isHouse 0 = .ok (.iload_n 1, 1) := dg_cX11_isHouse_78.1
theorem dX11_isHouse_1 : decode cX11_isHouse 1 = .ok (.i2l, 1) := dg_cX11_isHouse_78.2.1
theorem dX11_isHouse_2 : decode cX11_isHouse 2 = .ok (.lconst 0, 1) := dg_cX11_isHouse_78.2.2.1
theorem dX11_isHouse_3 : decode cX11_isHouse 3 = .ok (.aload_n 0, 1) := dg_cX11_isHouse_78.2.2.2.1
theorem dX11_isHouse_4 : decode cX11_isHouse 4 = .ok (.getfield 75, 3) := dg_cX11_isHouse_78.2.2.2.2.1
theorem dX11_isHouse_7 : decode cX11_isHouse 7 = .ok (.iconst 1, 1) := dg_cX11_isHouse_78.2.2.2.2.2.1
theorem dX11_isHouse_8 : decode cX11_isHouse 8 = .ok (.isub, 1) := dg_cX11_isHouse_78.2.2.2.2.2.2.1
theorem dX11_isHouse_9 : decode cX11_isHouse 9 = .ok (.i2l, 1) := dg_cX11_isHouse_78.2.2.2.2.2.2.2.1
theorem dX11_isHouse_10 : decode cX11_isHouse 10 = .ok (.invokestatic 92, 3) := dg_cX11_isHouse_78.2.2.2.2.2.2.2.2.1
theorem dX11_isHouse_13 : decode cX11_isHouse 13 = .ok (.ireturn, 1) := dg_cX11_isHouse_78.2.2.2.2.2.2.2.2.2
set_option maxRecDepth 100000 in
theorem dg_cX11_isBell_79 : (decode cX11_isBell 0 = .ok (.iload_n 1, 1)) ∧ (decode cX11_isBell 1 = .ok (.i2l, 1)) ∧ (decode cX11_isBell 2 = .ok (.lconst 0, 1)) ∧ (decode cX11_isBell 3 = .ok (.aload_n 0, 1)) ∧ (decode cX11_isBell 4 = .ok (.getfield 81, 3)) ∧ (decode cX11_isBell 7 = .ok (.iconst 1, 1)) ∧ (decode cX11_isBell 8 = .ok (.isub, 1)) ∧ (decode cX11_isBell 9 = .ok (.i2l, 1)) ∧ (decode cX11_isBell 10 = .ok (.invokestatic 92, 3)) ∧ (decode cX11_isBell 13 = .ok (.ireturn, 1)) := by decide +kernel
theorem dX11_isBell_0 : decode cX11_isBell 0 = .ok (.iload_n 1, 1) := dg_cX11_isBell_79.1
theorem dX11_isBell_1 : decode cX11_isBell 1 = .ok (.i2l, 1) := dg_cX11_isBell_79.2.1
theorem dX11_isBell_2 : decode cX11_isBell 2 = .ok (.lconst 0, 1) := dg_cX11_isBell_79.2.2.1
theorem dX11_isBell_3 : decode cX11_isBell 3 = .ok (.aload_n 0, 1) := dg_cX11_isBell_79.2.2.2.1
theorem dX11_isBell_4 : decode cX11_isBell 4 = .ok (.getfield 81, 3) := dg_cX11_isBell_79.2.2.2.2.1
theorem dX11_isBell_7 : decode cX11_isBell 7 = .ok (.iconst 1, 1) := dg_cX11_isBell_79.2.2.2.2.2.1
theorem dX11_isBell_8 : decode cX11_isBell 8 = .ok (.isub, 1) := dg_cX11_isBell_79.2.2.2.2.2.2.1
theorem dX11_isBell_9 : decode cX11_isBell 9 = .ok (.i2l, 1) := dg_cX11_isBell_79.2.2.2.2.2.2.2.1
theorem dX11_isBell_10 : decode cX11_isBell 10 = .ok (.invokestatic 92, 3) := dg_cX11_isBell_79.2.2.2.2.2.2.2.2.1
theorem dX11_isBell_13 : decode cX11_isBell 13 = .ok (.ireturn, 1) := dg_cX11_isBell_79.2.2.2.2.2.2.2.2.2
set_option maxRecDepth 100000 in
theorem dg_cX11_isTune_80 : (decode cX11_isTune 0 = .ok (.iload_n 1, 1)) ∧ (decode cX11_isTune 1 = .ok (.i2l, 1)) ∧ (decode cX11_isTune 2 = .ok (.lconst 0, 1)) ∧ (decode cX11_isTune 3 = .ok (.aload_n 0, 1)) ∧ (decode cX11_isTune 4 = .ok (.getfield 84, 3)) ∧ (decode cX11_isTune 7 = .ok (.iconst 1, 1)) ∧ (decode cX11_isTune 8 = .ok (.isub, 1)) ∧ (decode cX11_isTune 9 = .ok (.i2l, 1)) ∧ (decode cX11_isTune 10 = .ok (.invokestatic 92, 3)) ∧ (decode cX11_isTune 13 = .ok (.ireturn, 1)) := by decide +kernel
theorem dX11_isTune_0 : decode cX11_isTune 0 = .ok (.iload_n 1, 1) := dg_cX11_isTune_80.1
theorem dX11_isTune_1 : decode cX11_isTune 1 = .ok (.i2l, 1) := dg_cX11_isTune_80.2.1
theorem dX11_isTune_2 : decode cX11_isTune 2 = .ok (.lconst 0, 1) := dg_cX11_isTune_80.2.2.1
theorem dX11_isTune_3 : decode cX11_isTune 3 = .ok (.aload_n 0, 1) := dg_cX11_isTune_80.2.2.2.1
theorem dX11_isTune_4 : decode cX11_isTune 4 = .ok (.getfield 84, 3) := dg_cX11_isTune_80.2.2.2.2.1
theorem dX11_isTune_7 : decode cX11_isTune 7 = .ok (.iconst 1, 1) := dg_cX11_isTune_80.2.2.2.2.2.1
theorem dX11_isTune_8 : decode cX11_isTune 8 = .ok (.isub, 1) := dg_cX11_isTune_80.2.2.2.2.2.2.1
theorem dX11_isTune_9 : decode cX11_isTune 9 = .ok (.i2l, 1) := dg_cX11_isTune_80.2.2.2.2.2.2.2.1
theorem dX11_isTune_10 : decode cX11_isTune 10 = .ok (.invokestatic 92, 3) := dg_cX11_isTune_80.2.2.2.2.2.2.2.2.1
theorem dX11_isTune_13 : decode cX11_isTune 13 = .ok (.ireturn, 1) := dg_cX11_isTune_80.2.2.2.2.2.2.2.2.2
set_option maxRecDepth 100000 in
theorem dg_cX11_of_81 : (decode cX11_of 0 = .ok (.aload_n 0, 1)) ∧ (decode cX11_of 1 = .ok (.getfield 7, 3)) ∧ (decode cX11_of 4 = .ok (.iconst 5, 1)) ∧ (decode cX11_of 5 = .ok (.iload_n 1, 1)) ∧ (decode cX11_of 6 = .ok (.imul, 1)) ∧ (decode cX11_of 7 = .ok (.iload_n 2, 1)) ∧ (decode cX11_of 8 = .ok (.iadd, 1)) ∧ (decode cX11_of 9 = .ok (.iaload, 1)) ∧ (decode cX11_of 10 = .ok (.ireturn, 1)) := by decide +kernel
theorem dX11_of_0 : decode cX11_of 0 = .ok (.aload_n 0, 1) := dg_cX11_of_81.1
theorem dX11_of_1 : decode cX11_of 1 = .ok (.getfield 7, 3) := dg_cX11_of_81.2.1
theorem dX11_of_4 : decode cX11_of 4 = .ok (.iconst 5, 1) := dg_cX11_of_81.2.2.1
theorem dX11_of_5 : decode cX11_of 5 = .ok (.iload_n 1, 1) := dg_cX11_of_81.2.2.2.1
theorem dX11_of_6 : decode cX11_of 6 = .ok (.imul, 1) := dg_cX11_of_81.2.2.2.2.1
theorem dX11_of_7 : decode cX11_of 7 = .ok (.iload_n 2, 1) := dg_cX11_of_81.2.2.2.2.2.1
theorem dX11_of_8 : decode cX11_of 8 = .ok (.iadd, 1) := dg_cX11_of_81.2.2.2.2.2.2.1
theorem dX11_of_9 : decode cX11_of 9 = .ok (.iaload, 1) := dg_cX11_of_81.2.2.2.2.2.2.2.1
theorem dX11_of_10 : decode cX11_of 10 = .ok (.ireturn, 1) := dg_cX11_of_81.2.2.2.2.2.2.2.2
set_option maxRecDepth 100000 in
theorem dg_cX11_strokes_82 : (decode cX11_strokes 0 = .ok (.aload_n 0, 1)) ∧ (decode cX11_strokes 1 = .ok (.getfield 17, 3)) ∧ (decode cX11_strokes 4 = .ok (.bipush 14, 2)) ∧ (decode cX11_strokes 6 = .ok (.iload_n 1, 1)) ∧ (decode cX11_strokes 7 = .ok (.imul, 1)) ∧ (decode cX11_strokes 8 = .ok (.iconst 1, 1)) ∧ (decode cX11_strokes 9 = .ok (.iadd, 1)) ∧ (decode cX11_strokes 10 = .ok (.iaload, 1)) ∧ (decode cX11_strokes 11 = .ok (.ireturn, 1)) := by decide +kernel
theorem dX11_strokes_0 : decode cX11_strokes 0 = .ok (.aload_n 0, 1) := dg_cX11_strokes_82.1
theorem dX11_strokes_1 : decode cX11_strokes 1 = .ok (.getfield 17, 3) := dg_cX11_strokes_82.2.1
theorem dX11_strokes_4 : decode cX11_strokes 4 = .ok (.bipush 14, 2) := dg_cX11_strokes_82.2.2.1
theorem dX11_strokes_6 : decode cX11_strokes 6 = .ok (.iload_n 1, 1) := dg_cX11_strokes_82.2.2.2.1
theorem dX11_strokes_7 : decode cX11_strokes 7 = .ok (.imul, 1) := dg_cX11_strokes_82.2.2.2.2.1
theorem dX11_strokes_8 : decode cX11_strokes 8 = .ok (.iconst 1, 1) := dg_cX11_strokes_82.2.2.2.2.2.1
theorem dX11_strokes_9 : decode cX11_strokes 9 = .ok (.iadd, 1) := dg_cX11_strokes_82.2.2.2.2.2.2.1
theorem dX11_strokes_10 : decode cX11_strokes 10 = .ok (.iaload, 1) := dg_cX11_strokes_82.2.2.2.2.2.2.2.1
theorem dX11_strokes_11 : decode cX11_strokes 11 = .ok (.ireturn, 1) := dg_cX11_strokes_82.2.2.2.2.2.2.2.2
set_option maxRecDepth 100000 in
theorem dg_cX11_stroke_83 : (decode cX11_stroke 0 = .ok (.aload_n 0, 1)) ∧ (decode cX11_stroke 1 = .ok (.getfield 17, 3)) ∧ (decode cX11_stroke 4 = .ok (.bipush 14, 2)) ∧ (decode cX11_stroke 6 = .ok (.iload_n 1, 1)) ∧ (decode cX11_stroke 7 = .ok (.imul, 1)) ∧ (decode cX11_stroke 8 = .ok (.iconst 2, 1)) ∧ (decode cX11_stroke 9 = .ok (.iadd, 1)) ∧ (decode cX11_stroke 10 = .ok (.iload_n 2, 1)) ∧ (decode cX11_stroke 11 = .ok (.iadd, 1)) ∧ (decode cX11_stroke 12 = .ok (.iaload, 1)) ∧ (decode cX11_stroke 13 = .ok (.ireturn, 1)) := by decide +kernel
theorem dX11_stroke_0 : decode cX11_stroke 0 = .ok (.aload_n 0, 1) := dg_cX11_stroke_83.1
theorem dX11_stroke_1 : decode cX11_stroke 1 = .ok (.getfield 17, 3) := dg_cX11_stroke_83.2.1
theorem dX11_stroke_4 : decode cX11_stroke 4 = .ok (.bipush 14, 2) := dg_cX11_stroke_83.2.2.1
theorem dX11_stroke_6 : decode cX11_stroke 6 = .ok (.iload_n 1, 1) := dg_cX11_stroke_83.2.2.2.1
theorem dX11_stroke_7 : decode cX11_stroke 7 = .ok (.imul, 1) := dg_cX11_stroke_83.2.2.2.2.1
theorem dX11_stroke_8 : decode cX11_stroke 8 = .ok (.iconst 2, 1) := dg_cX11_stroke_83.2.2.2.2.2.1
theorem dX11_stroke_9 : decode cX11_stroke 9 = .ok (.iadd, 1) := dg_cX11_stroke_83.2.2.2.2.2.2.1
theorem dX11_stroke_10 : decode cX11_stroke 10 = .ok (.iload_n 2, 1) := dg_cX11_stroke_83.2.2.2.2.2.2.2.1
theorem dX11_stroke_11 : decode cX11_stroke 11 = .ok (.iadd, 1) := dg_cX11_stroke_83.2.2.2.2.2.2.2.2.1
theorem dX11_stroke_12 : decode cX11_stroke 12 = .ok (.iaload, 1) := dg_cX11_stroke_83.2.2.2.2.2.2.2.2.2.1
theorem dX11_stroke_13 : decode cX11_stroke 13 = .ok (.ireturn, 1) := dg_cX11_stroke_83.2.2.2.2.2.2.2.2.2.2
set_option maxRecDepth 100000 in
theorem dg_cX11_bell_84 : (decode cX11_bell 0 = .ok (.aload_n 0, 1)) ∧ (decode cX11_bell 1 = .ok (.iload_n 1, 1)) ∧ (decode cX11_bell 2 = .ok (.invokevirtual 166, 3)) ∧ (decode cX11_bell 5 = .ok (.ifCond .eq 24, 3)) ∧ (decode cX11_bell 8 = .ok (.iload_n 2, 1)) ∧ (decode cX11_bell 9 = .ok (.i2l, 1)) ∧ (decode cX11_bell 10 = .ok (.lconst 0, 1)) ∧ (decode cX11_bell 11 = .ok (.ldc2_w 170, 3)) ∧ (decode cX11_bell 14 = .ok (.invokestatic 92, 3)) ∧ (decode cX11_bell 17 = .ok (.ifCond .eq 12, 3)) ∧ (decode cX11_bell 20 = .ok (.aload_n 0, 1)) ∧ (decode cX11_bell 21 = .ok (.iload_n 1, 1)) ∧ (decode cX11_bell 22 = .ok (.iload_n 2, 1)) ∧ (decode cX11_bell 23 = .ok (.invokevirtual 172, 3)) ∧ (decode cX11_bell 26 = .ok (.goto 4, 3)) ∧ (decode cX11_bell 29 = .ok (.iconst (-1), 1)) := by decide +kernel
theorem dX11_bell_0 : decode cX11_bell 0 = .ok (.aload_n 0, 1) := dg_cX11_bell_84.1
theorem dX11_bell_1 : decode cX11_bell 1 = .ok (.iload_n 1, 1) := dg_cX11_bell_84.2.1
theorem dX11_bell_2 : decode cX11_bell 2 = .ok (.invokevirtual 166, 3) := dg_cX11_bell_84.2.2.1
theorem dX11_bell_5 : decode cX11_bell 5 = .ok (.ifCond .eq 24, 3) := dg_cX11_bell_84.2.2.2.1
theorem dX11_bell_8 : decode cX11_bell 8 = .ok (.iload_n 2, 1) := dg_cX11_bell_84.2.2.2.2.1
theorem dX11_bell_9 : decode cX11_bell 9 = .ok (.i2l, 1) := dg_cX11_bell_84.2.2.2.2.2.1
theorem dX11_bell_10 : decode cX11_bell 10 = .ok (.lconst 0, 1) := dg_cX11_bell_84.2.2.2.2.2.2.1
theorem dX11_bell_11 : decode cX11_bell 11 = .ok (.ldc2_w 170, 3) := dg_cX11_bell_84.2.2.2.2.2.2.2.1
theorem dX11_bell_14 : decode cX11_bell 14 = .ok (.invokestatic 92, 3) := dg_cX11_bell_84.2.2.2.2.2.2.2.2.1
theorem dX11_bell_17 : decode cX11_bell 17 = .ok (.ifCond .eq 12, 3) := dg_cX11_bell_84.2.2.2.2.2.2.2.2.2.1
theorem dX11_bell_20 : decode cX11_bell 20 = .ok (.aload_n 0, 1) := dg_cX11_bell_84.2.2.2.2.2.2.2.2.2.2.1
theorem dX11_bell_21 : decode cX11_bell 21 = .ok (.iload_n 1, 1) := dg_cX11_bell_84.2.2.2.2.2.2.2.2.2.2.2.1
theorem dX11_bell_22 : decode cX11_bell 22 = .ok (.iload_n 2, 1) := dg_cX11_bell_84.2.2.2.2.2.2.2.2.2.2.2.2.1
theorem dX11_bell_23 : decode cX11_bell 23 = .ok (.invokevirtual 172, 3) := dg_cX11_bell_84.2.2.2.2.2.2.2.2.2.2.2.2.2.1
theorem dX11_bell_26 : decode cX11_bell 26 = .ok (.goto 4, 3) := dg_cX11_bell_84.2.2.2.2.2.2.2.2.2.2.2.2.2.2.1
theorem dX11_bell_29 : decode cX11_bell 29 = .ok (.iconst (-1), 1) := dg_cX11_bell_84.2.2.2.2.2.2.2.2.2.2.2.2.2.2.2
theorem dX11_bell_30 : decode cX11_bell 30 = .ok (.ireturn, 1) := by decide +kernel
set_option maxRecDepth 100000 in
theorem dg_cX11_tune_85 : (decode cX11_tune 0 = .ok (.aload_n 0, 1)) ∧ (decode cX11_tune 1 = .ok (.iload_n 1, 1)) ∧ (decode cX11_tune 2 = .ok (.invokevirtual 175, 3)) ∧ (decode cX11_tune 5 = .ok (.ifCond .ne 5, 3)) ∧ (decode cX11_tune 8 = .ok (.iconst (-1), 1)) ∧ (decode cX11_tune 9 = .ok (.ireturn, 1)) ∧ (decode cX11_tune 10 = .ok (.iload_n 2, 1)) ∧ (decode cX11_tune 11 = .ok (.i2l, 1)) ∧ (decode cX11_tune 12 = .ok (.lconst 0, 1)) ∧ (decode cX11_tune 13 = .ok (.lconst 1, 1)) ∧ (decode cX11_tune 14 = .ok (.invokestatic 92, 3)) ∧ (decode cX11_tune 17 = .ok (.ifCond .eq 17, 3)) ∧ (decode cX11_tune 20 = .ok (.aload_n 0, 1)) ∧ (decode cX11_tune 21 = .ok (.getfield 17, 3)) ∧ (decode cX11_tune 24 = .ok (.bipush 14, 2)) ∧ (decode cX11_tune 26 = .ok (.iload_n 1, 1)) := by decide +kernel
theorem dX11_tune_0 : decode cX11_tune 0 = .ok (.aload_n 0, 1) := dg_cX11_tune_85.1
theorem dX11_tune_1 : decode cX11_tune 1 = .ok (.iload_n 1, 1) := dg_cX11_tune_85.2.1
theorem dX11_tune_2 : decode cX11_tune 2 = .ok (.invokevirtual 175, 3) := dg_cX11_tune_85.2.2.1
theorem dX11_tune_5 : decode cX11_tune 5 = .ok (.ifCond .ne 5, 3) := dg_cX11_tune_85.2.2.2.1
theorem dX11_tune_8 : decode cX11_tune 8 = .ok (.iconst (-1), 1) := dg_cX11_tune_85.2.2.2.2.1
theorem dX11_tune_9 : decode cX11_tune 9 = .ok (.ireturn, 1) := dg_cX11_tune_85.2.2.2.2.2.1
theorem dX11_tune_10 : decode cX11_tune 10 = .ok (.iload_n 2, 1) := dg_cX11_tune_85.2.2.2.2.2.2.1
theorem dX11_tune_11 : decode cX11_tune 11 = .ok (.i2l, 1) := dg_cX11_tune_85.2.2.2.2.2.2.2.1
theorem dX11_tune_12 : decode cX11_tune 12 = .ok (.lconst 0, 1) := dg_cX11_tune_85.2.2.2.2.2.2.2.2.1
theorem dX11_tune_13 : decode cX11_tune 13 = .ok (.lconst 1, 1) := dg_cX11_tune_85.2.2.2.2.2.2.2.2.2.1
theorem dX11_tune_14 : decode cX11_tune 14 = .ok (.invokestatic 92, 3) := dg_cX11_tune_85.2.2.2.2.2.2.2.2.2.2.1
theorem dX11_tune_17 : decode cX11_tune 17 = .ok (.ifCond .eq 17, 3) := dg_cX11_tune_85.2.2.2.2.2.2.2.2.2.2.2.1
theorem dX11_tune_20 : decode cX11_tune 20 = .ok (.aload_n 0, 1) := dg_cX11_tune_85.2.2.2.2.2.2.2.2.2.2.2.2.1
theorem dX11_tune_21 : decode cX11_tune 21 = .ok (.getfield 17, 3) := dg_cX11_tune_85.2.2.2.2.2.2.2.2.2.2.2.2.2.1
theorem dX11_tune_24 : decode cX11_tune 24 = .ok (.bipush 14, 2) := dg_cX11_tune_85.2.2.2.2.2.2.2.2.2.2.2.2.2.2.1
theorem dX11_tune_26 : decode cX11_tune 26 = .ok (.iload_n 1, 1) := dg_cX11_tune_85.2.2.2.2.2.2.2.2.2.2.2.2.2.2.2
set_option maxRecDepth 100000 in
theorem dg_cX11_tune_86 : (decode cX11_tune 27 = .ok (.imul, 1)) ∧ (decode cX11_tune 28 = .ok (.iload_n 2, 1)) ∧ (decode cX11_tune 29 = .ok (.iadd, 1)) ∧ (decode cX11_tune 30 = .ok (.iaload, 1)) ∧ (decode cX11_tune 31 = .ok (.goto 36, 3)) ∧ (decode cX11_tune 34 = .ok (.iload_n 2, 1)) ∧ (decode cX11_tune 35 = .ok (.i2l, 1)) ∧ (decode cX11_tune 36 = .ok (.ldc2_w 178, 3)) ∧ (decode cX11_tune 39 = .ok (.bipush 9, 2)) ∧ (decode cX11_tune 41 = .ok (.aload_n 0, 1)) ∧ (decode cX11_tune 42 = .ok (.iload_n 1, 1)) ∧ (decode cX11_tune 43 = .ok (.invokevirtual 180, 3)) ∧ (decode cX11_tune 46 = .ok (.iadd, 1)) ∧ (decode cX11_tune 47 = .ok (.i2l, 1)) ∧ (decode cX11_tune 48 = .ok (.invokestatic 92, 3)) ∧ (decode cX11_tune 51 = .ok (.ifCond .eq 15, 3)) := by decide +kernel
theorem dX11_tune_27 : decode cX11_tune 27 = .ok (.imul, 1) := dg_cX11_tune_86.1
theorem dX11_tune_28 : decode cX11_tune 28 = .ok (.iload_n 2, 1) := dg_cX11_tune_86.2.1
theorem dX11_tune_29 : decode cX11_tune 29 = .ok (.iadd, 1) := dg_cX11_tune_86.2.2.1
theorem dX11_tune_30 : decode cX11_tune 30 = .ok (.iaload, 1) := dg_cX11_tune_86.2.2.2.1
theorem dX11_tune_31 : decode cX11_tune 31 = .ok (.goto 36, 3) := dg_cX11_tune_86.2.2.2.2.1
theorem dX11_tune_34 : decode cX11_tune 34 = .ok (.iload_n 2, 1) := dg_cX11_tune_86.2.2.2.2.2.1
theorem dX11_tune_35 : decode cX11_tune 35 = .ok (.i2l, 1) := dg_cX11_tune_86.2.2.2.2.2.2.1
theorem dX11_tune_36 : decode cX11_tune 36 = .ok (.ldc2_w 178, 3) := dg_cX11_tune_86.2.2.2.2.2.2.2.1
theorem dX11_tune_39 : decode cX11_tune 39 = .ok (.bipush 9, 2) := dg_cX11_tune_86.2.2.2.2.2.2.2.2.1
theorem dX11_tune_41 : decode cX11_tune 41 = .ok (.aload_n 0, 1) := dg_cX11_tune_86.2.2.2.2.2.2.2.2.2.1
theorem dX11_tune_42 : decode cX11_tune 42 = .ok (.iload_n 1, 1) := dg_cX11_tune_86.2.2.2.2.2.2.2.2.2.2.1
theorem dX11_tune_43 : decode cX11_tune 43 = .ok (.invokevirtual 180, 3) := dg_cX11_tune_86.2.2.2.2.2.2.2.2.2.2.2.1
theorem dX11_tune_46 : decode cX11_tune 46 = .ok (.iadd, 1) := dg_cX11_tune_86.2.2.2.2.2.2.2.2.2.2.2.2.1
theorem dX11_tune_47 : decode cX11_tune 47 = .ok (.i2l, 1) := dg_cX11_tune_86.2.2.2.2.2.2.2.2.2.2.2.2.2.1
theorem dX11_tune_48 : decode cX11_tune 48 = .ok (.invokestatic 92, 3) := dg_cX11_tune_86.2.2.2.2.2.2.2.2.2.2.2.2.2.2.1
theorem dX11_tune_51 : decode cX11_tune 51 = .ok (.ifCond .eq 15, 3) := dg_cX11_tune_86.2.2.2.2.2.2.2.2.2.2.2.2.2.2.2
set_option maxRecDepth 100000 in
theorem dg_cX11_tune_87 : (decode cX11_tune 54 = .ok (.aload_n 0, 1)) ∧ (decode cX11_tune 55 = .ok (.iload_n 1, 1)) ∧ (decode cX11_tune 56 = .ok (.iload_n 2, 1)) ∧ (decode cX11_tune 57 = .ok (.bipush 10, 2)) ∧ (decode cX11_tune 59 = .ok (.isub, 1)) ∧ (decode cX11_tune 60 = .ok (.invokevirtual 183, 3)) ∧ (decode cX11_tune 63 = .ok (.goto 4, 3)) ∧ (decode cX11_tune 66 = .ok (.iconst (-1), 1)) ∧ (decode cX11_tune 67 = .ok (.ireturn, 1)) := by decide +kernel
theorem dX11_tune_54 : decode cX11_tune 54 = .ok (.aload_n 0, 1) := dg_cX11_tune_87.1
theorem dX11_tune_55 : decode cX11_tune 55 = .ok (.iload_n 1, 1) := dg_cX11_tune_87.2.1
theorem dX11_tune_56 : decode cX11_tune 56 = .ok (.iload_n 2, 1) := dg_cX11_tune_87.2.2.1
theorem dX11_tune_57 : decode cX11_tune 57 = .ok (.bipush 10, 2) := dg_cX11_tune_87.2.2.2.1
theorem dX11_tune_59 : decode cX11_tune 59 = .ok (.isub, 1) := dg_cX11_tune_87.2.2.2.2.1
theorem dX11_tune_60 : decode cX11_tune 60 = .ok (.invokevirtual 183, 3) := dg_cX11_tune_87.2.2.2.2.2.1
theorem dX11_tune_63 : decode cX11_tune 63 = .ok (.goto 4, 3) := dg_cX11_tune_87.2.2.2.2.2.2.1
theorem dX11_tune_66 : decode cX11_tune 66 = .ok (.iconst (-1), 1) := dg_cX11_tune_87.2.2.2.2.2.2.2.1
theorem dX11_tune_67 : decode cX11_tune 67 = .ok (.ireturn, 1) := dg_cX11_tune_87.2.2.2.2.2.2.2.2
set_option maxRecDepth 100000 in
theorem dg_cX11_feuds_88 : (decode cX11_feuds 0 = .ok (.aload_n 0, 1)) ∧ (decode cX11_feuds 1 = .ok (.iload_n 1, 1)) ∧ (decode cX11_feuds 2 = .ok (.invokevirtual 186, 3)) ∧ (decode cX11_feuds 5 = .ok (.ifCond .eq 15, 3)) ∧ (decode cX11_feuds 8 = .ok (.aload_n 0, 1)) ∧ (decode cX11_feuds 9 = .ok (.getfield 7, 3)) ∧ (decode cX11_feuds 12 = .ok (.bipush 60, 2)) ∧ (decode cX11_feuds 14 = .ok (.iload_n 1, 1)) ∧ (decode cX11_feuds 15 = .ok (.iadd, 1)) ∧ (decode cX11_feuds 16 = .ok (.iaload, 1)) ∧ (decode cX11_feuds 17 = .ok (.goto 4, 3)) ∧ (decode cX11_feuds 20 = .ok (.iconst (-1), 1)) ∧ (decode cX11_feuds 21 = .ok (.ireturn, 1)) := by decide +kernel
theorem dX11_feuds_0 : decode cX11_feuds 0 = .ok (.aload_n 0, 1) := dg_cX11_feuds_88.1
theorem dX11_feuds_1 : decode cX11_feuds 1 = .ok (.iload_n 1, 1) := dg_cX11_feuds_88.2.1
theorem dX11_feuds_2 : decode cX11_feuds 2 = .ok (.invokevirtual 186, 3) := dg_cX11_feuds_88.2.2.1
theorem dX11_feuds_5 : decode cX11_feuds 5 = .ok (.ifCond .eq 15, 3) := dg_cX11_feuds_88.2.2.2.1
theorem dX11_feuds_8 : decode cX11_feuds 8 = .ok (.aload_n 0, 1) := dg_cX11_feuds_88.2.2.2.2.1
theorem dX11_feuds_9 : decode cX11_feuds 9 = .ok (.getfield 7, 3) := dg_cX11_feuds_88.2.2.2.2.2.1
theorem dX11_feuds_12 : decode cX11_feuds 12 = .ok (.bipush 60, 2) := dg_cX11_feuds_88.2.2.2.2.2.2.1
theorem dX11_feuds_14 : decode cX11_feuds 14 = .ok (.iload_n 1, 1) := dg_cX11_feuds_88.2.2.2.2.2.2.2.1
theorem dX11_feuds_15 : decode cX11_feuds 15 = .ok (.iadd, 1) := dg_cX11_feuds_88.2.2.2.2.2.2.2.2.1
theorem dX11_feuds_16 : decode cX11_feuds 16 = .ok (.iaload, 1) := dg_cX11_feuds_88.2.2.2.2.2.2.2.2.2.1
theorem dX11_feuds_17 : decode cX11_feuds 17 = .ok (.goto 4, 3) := dg_cX11_feuds_88.2.2.2.2.2.2.2.2.2.2.1
theorem dX11_feuds_20 : decode cX11_feuds 20 = .ok (.iconst (-1), 1) := dg_cX11_feuds_88.2.2.2.2.2.2.2.2.2.2.2.1
theorem dX11_feuds_21 : decode cX11_feuds 21 = .ok (.ireturn, 1) := dg_cX11_feuds_88.2.2.2.2.2.2.2.2.2.2.2.2
set_option maxRecDepth 100000 in
theorem dg_cX11_fee_89 : (decode cX11_fee 0 = .ok (.aload_n 0, 1)) ∧ (decode cX11_fee 1 = .ok (.iload_n 1, 1)) ∧ (decode cX11_fee 2 = .ok (.invokevirtual 166, 3)) ∧ (decode cX11_fee 5 = .ok (.ifCond .eq 15, 3)) ∧ (decode cX11_fee 8 = .ok (.iload_n 2, 1)) ∧ (decode cX11_fee 9 = .ok (.i2l, 1)) ∧ (decode cX11_fee 10 = .ok (.lconst 0, 1)) ∧ (decode cX11_fee 11 = .ok (.ldc2_w 189, 3)) ∧ (decode cX11_fee 14 = .ok (.invokestatic 92, 3)) ∧ (decode cX11_fee 17 = .ok (.ifCond .ne 5, 3)) ∧ (decode cX11_fee 20 = .ok (.iconst (-1), 1)) ∧ (decode cX11_fee 21 = .ok (.ireturn, 1)) ∧ (decode cX11_fee 22 = .ok (.aload_n 0, 1)) ∧ (decode cX11_fee 23 = .ok (.iload_n 1, 1)) ∧ (decode cX11_fee 24 = .ok (.iconst 1, 1)) ∧ (decode cX11_fee 25 = .ok (.invokevirtual 172, 3)) := by decide +kernel
theorem dX11_fee_0 : decode cX11_fee 0 = .ok (.aload_n 0, 1) := dg_cX11_fee_89.1
theorem dX11_fee_1 : decode cX11_fee 1 = .ok (.iload_n 1, 1) := dg_cX11_fee_89.2.1
theorem dX11_fee_2 : decode cX11_fee 2 = .ok (.invokevirtual 166, 3) := dg_cX11_fee_89.2.2.1
theorem dX11_fee_5 : decode cX11_fee 5 = .ok (.ifCond .eq 15, 3) := dg_cX11_fee_89.2.2.2.1
theorem dX11_fee_8 : decode cX11_fee 8 = .ok (.iload_n 2, 1) := dg_cX11_fee_89.2.2.2.2.1
theorem dX11_fee_9 : decode cX11_fee 9 = .ok (.i2l, 1) := dg_cX11_fee_89.2.2.2.2.2.1
theorem dX11_fee_10 : decode cX11_fee 10 = .ok (.lconst 0, 1) := dg_cX11_fee_89.2.2.2.2.2.2.1
theorem dX11_fee_11 : decode cX11_fee 11 = .ok (.ldc2_w 189, 3) := dg_cX11_fee_89.2.2.2.2.2.2.2.1
theorem dX11_fee_14 : decode cX11_fee 14 = .ok (.invokestatic 92, 3) := dg_cX11_fee_89.2.2.2.2.2.2.2.2.1
theorem dX11_fee_17 : decode cX11_fee 17 = .ok (.ifCond .ne 5, 3) := dg_cX11_fee_89.2.2.2.2.2.2.2.2.2.1
theorem dX11_fee_20 : decode cX11_fee 20 = .ok (.iconst (-1), 1) := dg_cX11_fee_89.2.2.2.2.2.2.2.2.2.2.1
theorem dX11_fee_21 : decode cX11_fee 21 = .ok (.ireturn, 1) := dg_cX11_fee_89.2.2.2.2.2.2.2.2.2.2.2.1
theorem dX11_fee_22 : decode cX11_fee 22 = .ok (.aload_n 0, 1) := dg_cX11_fee_89.2.2.2.2.2.2.2.2.2.2.2.2.1
theorem dX11_fee_23 : decode cX11_fee 23 = .ok (.iload_n 1, 1) := dg_cX11_fee_89.2.2.2.2.2.2.2.2.2.2.2.2.2.1
theorem dX11_fee_24 : decode cX11_fee 24 = .ok (.iconst 1, 1) := dg_cX11_fee_89.2.2.2.2.2.2.2.2.2.2.2.2.2.2.1
theorem dX11_fee_25 : decode cX11_fee 25 = .ok (.invokevirtual 172, 3) := dg_cX11_fee_89.2.2.2.2.2.2.2.2.2.2.2.2.2.2.2
set_option maxRecDepth 100000 in
theorem dg_cX11_fee_90 : (decode cX11_fee 28 = .ok (.istore_n 3, 1)) ∧ (decode cX11_fee 29 = .ok (.aload_n 0, 1)) ∧ (decode cX11_fee 30 = .ok (.getfield 7, 3)) ∧ (decode cX11_fee 33 = .ok (.iconst 5, 1)) ∧ (decode cX11_fee 34 = .ok (.iload_n 1, 1)) ∧ (decode cX11_fee 35 = .ok (.imul, 1)) ∧ (decode cX11_fee 36 = .ok (.iconst 1, 1)) ∧ (decode cX11_fee 37 = .ok (.iadd, 1)) ∧ (decode cX11_fee 38 = .ok (.iload_n 2, 1)) ∧ (decode cX11_fee 39 = .ok (.iastore, 1)) ∧ (decode cX11_fee 40 = .ok (.iload_n 3, 1)) ∧ (decode cX11_fee 41 = .ok (.ireturn, 1)) := by decide +kernel
theorem dX11_fee_28 : decode cX11_fee 28 = .ok (.istore_n 3, 1) := dg_cX11_fee_90.1
theorem dX11_fee_29 : decode cX11_fee 29 = .ok (.aload_n 0, 1) := dg_cX11_fee_90.2.1
theorem dX11_fee_30 : decode cX11_fee 30 = .ok (.getfield 7, 3) := dg_cX11_fee_90.2.2.1
theorem dX11_fee_33 : decode cX11_fee 33 = .ok (.iconst 5, 1) := dg_cX11_fee_90.2.2.2.1
theorem dX11_fee_34 : decode cX11_fee 34 = .ok (.iload_n 1, 1) := dg_cX11_fee_90.2.2.2.2.1
theorem dX11_fee_35 : decode cX11_fee 35 = .ok (.imul, 1) := dg_cX11_fee_90.2.2.2.2.2.1
theorem dX11_fee_36 : decode cX11_fee 36 = .ok (.iconst 1, 1) := dg_cX11_fee_90.2.2.2.2.2.2.1
theorem dX11_fee_37 : decode cX11_fee 37 = .ok (.iadd, 1) := dg_cX11_fee_90.2.2.2.2.2.2.2.1
theorem dX11_fee_38 : decode cX11_fee 38 = .ok (.iload_n 2, 1) := dg_cX11_fee_90.2.2.2.2.2.2.2.2.1
theorem dX11_fee_39 : decode cX11_fee 39 = .ok (.iastore, 1) := dg_cX11_fee_90.2.2.2.2.2.2.2.2.2.1
theorem dX11_fee_40 : decode cX11_fee 40 = .ok (.iload_n 3, 1) := dg_cX11_fee_90.2.2.2.2.2.2.2.2.2.2.1
theorem dX11_fee_41 : decode cX11_fee 41 = .ok (.ireturn, 1) := dg_cX11_fee_90.2.2.2.2.2.2.2.2.2.2.2
set_option maxRecDepth 100000 in
theorem dg_cX11_shut_91 : (decode cX11_shut 0 = .ok (.aload_n 0, 1)) ∧ (decode cX11_shut 1 = .ok (.iload_n 1, 1)) ∧ (decode cX11_shut 2 = .ok (.invokevirtual 166, 3)) ∧ (decode cX11_shut 5 = .ok (.ifCond .ne 5, 3)) ∧ (decode cX11_shut 8 = .ok (.iconst (-1), 1)) ∧ (decode cX11_shut 9 = .ok (.ireturn, 1)) ∧ (decode cX11_shut 10 = .ok (.aload_n 0, 1)) ∧ (decode cX11_shut 11 = .ok (.iload_n 1, 1)) ∧ (decode cX11_shut 12 = .ok (.iconst 3, 1)) ∧ (decode cX11_shut 13 = .ok (.invokevirtual 172, 3)) ∧ (decode cX11_shut 16 = .ok (.istore_n 3, 1)) ∧ (decode cX11_shut 17 = .ok (.aload_n 0, 1)) ∧ (decode cX11_shut 18 = .ok (.getfield 7, 3)) ∧ (decode cX11_shut 21 = .ok (.iconst 5, 1)) ∧ (decode cX11_shut 22 = .ok (.iload_n 1, 1)) ∧ (decode cX11_shut 23 = .ok (.imul, 1)) := by decide +kernel
theorem dX11_shut_0 : decode cX11_shut 0 = .ok (.aload_n 0, 1) := dg_cX11_shut_91.1
theorem dX11_shut_1 : decode cX11_shut 1 = .ok (.iload_n 1, 1) := dg_cX11_shut_91.2.1
theorem dX11_shut_2 : decode cX11_shut 2 = .ok (.invokevirtual 166, 3) := dg_cX11_shut_91.2.2.1
theorem dX11_shut_5 : decode cX11_shut 5 = .ok (.ifCond .ne 5, 3) := dg_cX11_shut_91.2.2.2.1
theorem dX11_shut_8 : decode cX11_shut 8 = .ok (.iconst (-1), 1) := dg_cX11_shut_91.2.2.2.2.1
theorem dX11_shut_9 : decode cX11_shut 9 = .ok (.ireturn, 1) := dg_cX11_shut_91.2.2.2.2.2.1
theorem dX11_shut_10 : decode cX11_shut 10 = .ok (.aload_n 0, 1) := dg_cX11_shut_91.2.2.2.2.2.2.1
theorem dX11_shut_11 : decode cX11_shut 11 = .ok (.iload_n 1, 1) := dg_cX11_shut_91.2.2.2.2.2.2.2.1
theorem dX11_shut_12 : decode cX11_shut 12 = .ok (.iconst 3, 1) := dg_cX11_shut_91.2.2.2.2.2.2.2.2.1
theorem dX11_shut_13 : decode cX11_shut 13 = .ok (.invokevirtual 172, 3) := dg_cX11_shut_91.2.2.2.2.2.2.2.2.2.1
theorem dX11_shut_16 : decode cX11_shut 16 = .ok (.istore_n 3, 1) := dg_cX11_shut_91.2.2.2.2.2.2.2.2.2.2.1
theorem dX11_shut_17 : decode cX11_shut 17 = .ok (.aload_n 0, 1) := dg_cX11_shut_91.2.2.2.2.2.2.2.2.2.2.2.1
theorem dX11_shut_18 : decode cX11_shut 18 = .ok (.getfield 7, 3) := dg_cX11_shut_91.2.2.2.2.2.2.2.2.2.2.2.2.1
theorem dX11_shut_21 : decode cX11_shut 21 = .ok (.iconst 5, 1) := dg_cX11_shut_91.2.2.2.2.2.2.2.2.2.2.2.2.2.1
theorem dX11_shut_22 : decode cX11_shut 22 = .ok (.iload_n 1, 1) := dg_cX11_shut_91.2.2.2.2.2.2.2.2.2.2.2.2.2.2.1
theorem dX11_shut_23 : decode cX11_shut 23 = .ok (.imul, 1) := dg_cX11_shut_91.2.2.2.2.2.2.2.2.2.2.2.2.2.2.2
set_option maxRecDepth 100000 in
theorem dg_cX11_shut_92 : (decode cX11_shut 24 = .ok (.iconst 3, 1)) ∧ (decode cX11_shut 25 = .ok (.iadd, 1)) ∧ (decode cX11_shut 26 = .ok (.iload_n 2, 1)) ∧ (decode cX11_shut 27 = .ok (.invokestatic 191, 3)) ∧ (decode cX11_shut 30 = .ok (.iastore, 1)) ∧ (decode cX11_shut 31 = .ok (.iload_n 3, 1)) ∧ (decode cX11_shut 32 = .ok (.ireturn, 1)) := by decide +kernel
theorem dX11_shut_24 : decode cX11_shut 24 = .ok (.iconst 3, 1) := dg_cX11_shut_92.1
theorem dX11_shut_25 : decode cX11_shut 25 = .ok (.iadd, 1) := dg_cX11_shut_92.2.1
theorem dX11_shut_26 : decode cX11_shut 26 = .ok (.iload_n 2, 1) := dg_cX11_shut_92.2.2.1
theorem dX11_shut_27 : decode cX11_shut 27 = .ok (.invokestatic 191, 3) := dg_cX11_shut_92.2.2.2.1
theorem dX11_shut_30 : decode cX11_shut 30 = .ok (.iastore, 1) := dg_cX11_shut_92.2.2.2.2.1
theorem dX11_shut_31 : decode cX11_shut 31 = .ok (.iload_n 3, 1) := dg_cX11_shut_92.2.2.2.2.2.1
theorem dX11_shut_32 : decode cX11_shut 32 = .ok (.ireturn, 1) := dg_cX11_shut_92.2.2.2.2.2.2
set_option maxRecDepth 100000 in
theorem dg_cX11_sell_93 : (decode cX11_sell 0 = .ok (.aload_n 0, 1)) ∧ (decode cX11_sell 1 = .ok (.iload_n 1, 1)) ∧ (decode cX11_sell 2 = .ok (.invokevirtual 166, 3)) ∧ (decode cX11_sell 5 = .ok (.ifCond .eq 11, 3)) ∧ (decode cX11_sell 8 = .ok (.aload_n 0, 1)) ∧ (decode cX11_sell 9 = .ok (.iload_n 2, 1)) ∧ (decode cX11_sell 10 = .ok (.invokevirtual 186, 3)) ∧ (decode cX11_sell 13 = .ok (.ifCond .ne 5, 3)) ∧ (decode cX11_sell 16 = .ok (.iconst (-1), 1)) ∧ (decode cX11_sell 17 = .ok (.ireturn, 1)) ∧ (decode cX11_sell 18 = .ok (.aload_n 0, 1)) ∧ (decode cX11_sell 19 = .ok (.iload_n 1, 1)) ∧ (decode cX11_sell 20 = .ok (.iconst 0, 1)) ∧ (decode cX11_sell 21 = .ok (.invokevirtual 172, 3)) ∧ (decode cX11_sell 24 = .ok (.istore_n 3, 1)) ∧ (decode cX11_sell 25 = .ok (.iload_n 3, 1)) := by decide +kernel
theorem dX11_sell_0 : decode cX11_sell 0 = .ok (.aload_n 0, 1) := dg_cX11_sell_93.1
theorem dX11_sell_1 : decode cX11_sell 1 = .ok (.iload_n 1, 1) := dg_cX11_sell_93.2.1
theorem dX11_sell_2 : decode cX11_sell 2 = .ok (.invokevirtual 166, 3) := dg_cX11_sell_93.2.2.1
theorem dX11_sell_5 : decode cX11_sell 5 = .ok (.ifCond .eq 11, 3) := dg_cX11_sell_93.2.2.2.1
theorem dX11_sell_8 : decode cX11_sell 8 = .ok (.aload_n 0, 1) := dg_cX11_sell_93.2.2.2.2.1
theorem dX11_sell_9 : decode cX11_sell 9 = .ok (.iload_n 2, 1) := dg_cX11_sell_93.2.2.2.2.2.1
theorem dX11_sell_10 : decode cX11_sell 10 = .ok (.invokevirtual 186, 3) := dg_cX11_sell_93.2.2.2.2.2.2.1
theorem dX11_sell_13 : decode cX11_sell 13 = .ok (.ifCond .ne 5, 3) := dg_cX11_sell_93.2.2.2.2.2.2.2.1
theorem dX11_sell_16 : decode cX11_sell 16 = .ok (.iconst (-1), 1) := dg_cX11_sell_93.2.2.2.2.2.2.2.2.1
theorem dX11_sell_17 : decode cX11_sell 17 = .ok (.ireturn, 1) := dg_cX11_sell_93.2.2.2.2.2.2.2.2.2.1
theorem dX11_sell_18 : decode cX11_sell 18 = .ok (.aload_n 0, 1) := dg_cX11_sell_93.2.2.2.2.2.2.2.2.2.2.1
theorem dX11_sell_19 : decode cX11_sell 19 = .ok (.iload_n 1, 1) := dg_cX11_sell_93.2.2.2.2.2.2.2.2.2.2.2.1
theorem dX11_sell_20 : decode cX11_sell 20 = .ok (.iconst 0, 1) := dg_cX11_sell_93.2.2.2.2.2.2.2.2.2.2.2.2.1
theorem dX11_sell_21 : decode cX11_sell 21 = .ok (.invokevirtual 172, 3) := dg_cX11_sell_93.2.2.2.2.2.2.2.2.2.2.2.2.2.1
theorem dX11_sell_24 : decode cX11_sell 24 = .ok (.istore_n 3, 1) := dg_cX11_sell_93.2.2.2.2.2.2.2.2.2.2.2.2.2.2.1
theorem dX11_sell_25 : decode cX11_sell 25 = .ok (.iload_n 3, 1) := dg_cX11_sell_93.2.2.2.2.2.2.2.2.2.2.2.2.2.2.2
set_option maxRecDepth 100000 in
theorem dg_cX11_sell_94 : (decode cX11_sell 26 = .ok (.iload_n 2, 1)) ∧ (decode cX11_sell 27 = .ok (.if_icmp .ne 6, 3)) ∧ (decode cX11_sell 30 = .ok (.bipush (-2), 2)) ∧ (decode cX11_sell 32 = .ok (.ireturn, 1)) ∧ (decode cX11_sell 33 = .ok (.aload_n 0, 1)) ∧ (decode cX11_sell 34 = .ok (.getfield 7, 3)) ∧ (decode cX11_sell 37 = .ok (.iconst 5, 1)) ∧ (decode cX11_sell 38 = .ok (.iload_n 1, 1)) ∧ (decode cX11_sell 39 = .ok (.imul, 1)) ∧ (decode cX11_sell 40 = .ok (.iconst 0, 1)) ∧ (decode cX11_sell 41 = .ok (.iadd, 1)) ∧ (decode cX11_sell 42 = .ok (.iload_n 2, 1)) ∧ (decode cX11_sell 43 = .ok (.iastore, 1)) ∧ (decode cX11_sell 44 = .ok (.aload_n 0, 1)) ∧ (decode cX11_sell 45 = .ok (.getfield 7, 3)) ∧ (decode cX11_sell 48 = .ok (.iconst 5, 1)) := by decide +kernel
theorem dX11_sell_26 : decode cX11_sell 26 = .ok (.iload_n 2, 1) := dg_cX11_sell_94.1
theorem dX11_sell_27 : decode cX11_sell 27 = .ok (.if_icmp .ne 6, 3) := dg_cX11_sell_94.2.1
theorem dX11_sell_30 : decode cX11_sell 30 = .ok (.bipush (-2), 2) := dg_cX11_sell_94.2.2.1
theorem dX11_sell_32 : decode cX11_sell 32 = .ok (.ireturn, 1) := dg_cX11_sell_94.2.2.2.1
theorem dX11_sell_33 : decode cX11_sell 33 = .ok (.aload_n 0, 1) := dg_cX11_sell_94.2.2.2.2.1
theorem dX11_sell_34 : decode cX11_sell 34 = .ok (.getfield 7, 3) := dg_cX11_sell_94.2.2.2.2.2.1
theorem dX11_sell_37 : decode cX11_sell 37 = .ok (.iconst 5, 1) := dg_cX11_sell_94.2.2.2.2.2.2.1
theorem dX11_sell_38 : decode cX11_sell 38 = .ok (.iload_n 1, 1) := dg_cX11_sell_94.2.2.2.2.2.2.2.1
theorem dX11_sell_39 : decode cX11_sell 39 = .ok (.imul, 1) := dg_cX11_sell_94.2.2.2.2.2.2.2.2.1
theorem dX11_sell_40 : decode cX11_sell 40 = .ok (.iconst 0, 1) := dg_cX11_sell_94.2.2.2.2.2.2.2.2.2.1
theorem dX11_sell_41 : decode cX11_sell 41 = .ok (.iadd, 1) := dg_cX11_sell_94.2.2.2.2.2.2.2.2.2.2.1
theorem dX11_sell_42 : decode cX11_sell 42 = .ok (.iload_n 2, 1) := dg_cX11_sell_94.2.2.2.2.2.2.2.2.2.2.2.1
theorem dX11_sell_43 : decode cX11_sell 43 = .ok (.iastore, 1) := dg_cX11_sell_94.2.2.2.2.2.2.2.2.2.2.2.2.1
theorem dX11_sell_44 : decode cX11_sell 44 = .ok (.aload_n 0, 1) := dg_cX11_sell_94.2.2.2.2.2.2.2.2.2.2.2.2.2.1
theorem dX11_sell_45 : decode cX11_sell 45 = .ok (.getfield 7, 3) := dg_cX11_sell_94.2.2.2.2.2.2.2.2.2.2.2.2.2.2.1
theorem dX11_sell_48 : decode cX11_sell 48 = .ok (.iconst 5, 1) := dg_cX11_sell_94.2.2.2.2.2.2.2.2.2.2.2.2.2.2.2
set_option maxRecDepth 100000 in
theorem dg_cX11_sell_95 : (decode cX11_sell 49 = .ok (.iload_n 1, 1)) ∧ (decode cX11_sell 50 = .ok (.imul, 1)) ∧ (decode cX11_sell 51 = .ok (.iconst 4, 1)) ∧ (decode cX11_sell 52 = .ok (.iadd, 1)) ∧ (decode cX11_sell 53 = .ok (.aload_n 0, 1)) ∧ (decode cX11_sell 54 = .ok (.iload_n 1, 1)) ∧ (decode cX11_sell 55 = .ok (.iconst 4, 1)) ∧ (decode cX11_sell 56 = .ok (.invokevirtual 172, 3)) ∧ (decode cX11_sell 59 = .ok (.iload_n 2, 1)) ∧ (decode cX11_sell 60 = .ok (.if_icmp .ne 8, 3)) ∧ (decode cX11_sell 63 = .ok (.bipush (-4), 2)) ∧ (decode cX11_sell 65 = .ok (.goto 9, 3)) ∧ (decode cX11_sell 68 = .ok (.aload_n 0, 1)) ∧ (decode cX11_sell 69 = .ok (.iload_n 1, 1)) ∧ (decode cX11_sell 70 = .ok (.iconst 4, 1)) ∧ (decode cX11_sell 71 = .ok (.invokevirtual 172, 3)) := by decide +kernel
theorem dX11_sell_49 : decode cX11_sell 49 = .ok (.iload_n 1, 1) := dg_cX11_sell_95.1
theorem dX11_sell_50 : decode cX11_sell 50 = .ok (.imul, 1) := dg_cX11_sell_95.2.1
theorem dX11_sell_51 : decode cX11_sell 51 = .ok (.iconst 4, 1) := dg_cX11_sell_95.2.2.1
theorem dX11_sell_52 : decode cX11_sell 52 = .ok (.iadd, 1) := dg_cX11_sell_95.2.2.2.1
theorem dX11_sell_53 : decode cX11_sell 53 = .ok (.aload_n 0, 1) := dg_cX11_sell_95.2.2.2.2.1
theorem dX11_sell_54 : decode cX11_sell 54 = .ok (.iload_n 1, 1) := dg_cX11_sell_95.2.2.2.2.2.1
theorem dX11_sell_55 : decode cX11_sell 55 = .ok (.iconst 4, 1) := dg_cX11_sell_95.2.2.2.2.2.2.1
theorem dX11_sell_56 : decode cX11_sell 56 = .ok (.invokevirtual 172, 3) := dg_cX11_sell_95.2.2.2.2.2.2.2.1
theorem dX11_sell_59 : decode cX11_sell 59 = .ok (.iload_n 2, 1) := dg_cX11_sell_95.2.2.2.2.2.2.2.2.1
theorem dX11_sell_60 : decode cX11_sell 60 = .ok (.if_icmp .ne 8, 3) := dg_cX11_sell_95.2.2.2.2.2.2.2.2.2.1
theorem dX11_sell_63 : decode cX11_sell 63 = .ok (.bipush (-4), 2) := dg_cX11_sell_95.2.2.2.2.2.2.2.2.2.2.1
theorem dX11_sell_65 : decode cX11_sell 65 = .ok (.goto 9, 3) := dg_cX11_sell_95.2.2.2.2.2.2.2.2.2.2.2.1
theorem dX11_sell_68 : decode cX11_sell 68 = .ok (.aload_n 0, 1) := dg_cX11_sell_95.2.2.2.2.2.2.2.2.2.2.2.2.1
theorem dX11_sell_69 : decode cX11_sell 69 = .ok (.iload_n 1, 1) := dg_cX11_sell_95.2.2.2.2.2.2.2.2.2.2.2.2.2.1
theorem dX11_sell_70 : decode cX11_sell 70 = .ok (.iconst 4, 1) := dg_cX11_sell_95.2.2.2.2.2.2.2.2.2.2.2.2.2.2.1
theorem dX11_sell_71 : decode cX11_sell 71 = .ok (.invokevirtual 172, 3) := dg_cX11_sell_95.2.2.2.2.2.2.2.2.2.2.2.2.2.2.2
set_option maxRecDepth 100000 in
theorem dg_cX11_sell_96 : (decode cX11_sell 74 = .ok (.iastore, 1)) ∧ (decode cX11_sell 75 = .ok (.iload_n 3, 1)) ∧ (decode cX11_sell 76 = .ok (.ireturn, 1)) := by decide +kernel
theorem dX11_sell_74 : decode cX11_sell 74 = .ok (.iastore, 1) := dg_cX11_sell_96.1
theorem dX11_sell_75 : decode cX11_sell 75 = .ok (.iload_n 3, 1) := dg_cX11_sell_96.2.1
theorem dX11_sell_76 : decode cX11_sell 76 = .ok (.ireturn, 1) := dg_cX11_sell_96.2.2
set_option maxRecDepth 100000 in
theorem dg_cX11_half_97 : (decode cX11_half 0 = .ok (.aload_n 0, 1)) ∧ (decode cX11_half 1 = .ok (.iload_n 1, 1)) ∧ (decode cX11_half 2 = .ok (.invokevirtual 166, 3)) ∧ (decode cX11_half 5 = .ok (.ifCond .eq 17, 3)) ∧ (decode cX11_half 8 = .ok (.iload_n 2, 1)) ∧ (decode cX11_half 9 = .ok (.bipush (-4), 2)) ∧ (decode cX11_half 11 = .ok (.if_icmp .eq 13, 3)) ∧ (decode cX11_half 14 = .ok (.aload_n 0, 1)) ∧ (decode cX11_half 15 = .ok (.iload_n 2, 1)) ∧ (decode cX11_half 16 = .ok (.invokevirtual 186, 3)) ∧ (decode cX11_half 19 = .ok (.ifCond .ne 5, 3)) ∧ (decode cX11_half 22 = .ok (.iconst (-1), 1)) ∧ (decode cX11_half 23 = .ok (.ireturn, 1)) ∧ (decode cX11_half 24 = .ok (.aload_n 0, 1)) ∧ (decode cX11_half 25 = .ok (.iload_n 1, 1)) ∧ (decode cX11_half 26 = .ok (.iconst 0, 1)) := by decide +kernel
theorem dX11_half_0 : decode cX11_half 0 = .ok (.aload_n 0, 1) := dg_cX11_half_97.1
theorem dX11_half_1 : decode cX11_half 1 = .ok (.iload_n 1, 1) := dg_cX11_half_97.2.1
theorem dX11_half_2 : decode cX11_half 2 = .ok (.invokevirtual 166, 3) := dg_cX11_half_97.2.2.1
theorem dX11_half_5 : decode cX11_half 5 = .ok (.ifCond .eq 17, 3) := dg_cX11_half_97.2.2.2.1
theorem dX11_half_8 : decode cX11_half 8 = .ok (.iload_n 2, 1) := dg_cX11_half_97.2.2.2.2.1
theorem dX11_half_9 : decode cX11_half 9 = .ok (.bipush (-4), 2) := dg_cX11_half_97.2.2.2.2.2.1
theorem dX11_half_11 : decode cX11_half 11 = .ok (.if_icmp .eq 13, 3) := dg_cX11_half_97.2.2.2.2.2.2.1
theorem dX11_half_14 : decode cX11_half 14 = .ok (.aload_n 0, 1) := dg_cX11_half_97.2.2.2.2.2.2.2.1
theorem dX11_half_15 : decode cX11_half 15 = .ok (.iload_n 2, 1) := dg_cX11_half_97.2.2.2.2.2.2.2.2.1
theorem dX11_half_16 : decode cX11_half 16 = .ok (.invokevirtual 186, 3) := dg_cX11_half_97.2.2.2.2.2.2.2.2.2.1
theorem dX11_half_19 : decode cX11_half 19 = .ok (.ifCond .ne 5, 3) := dg_cX11_half_97.2.2.2.2.2.2.2.2.2.2.1
theorem dX11_half_22 : decode cX11_half 22 = .ok (.iconst (-1), 1) := dg_cX11_half_97.2.2.2.2.2.2.2.2.2.2.2.1
theorem dX11_half_23 : decode cX11_half 23 = .ok (.ireturn, 1) := dg_cX11_half_97.2.2.2.2.2.2.2.2.2.2.2.2.1
theorem dX11_half_24 : decode cX11_half 24 = .ok (.aload_n 0, 1) := dg_cX11_half_97.2.2.2.2.2.2.2.2.2.2.2.2.2.1
theorem dX11_half_25 : decode cX11_half 25 = .ok (.iload_n 1, 1) := dg_cX11_half_97.2.2.2.2.2.2.2.2.2.2.2.2.2.2.1
theorem dX11_half_26 : decode cX11_half 26 = .ok (.iconst 0, 1) := dg_cX11_half_97.2.2.2.2.2.2.2.2.2.2.2.2.2.2.2
set_option maxRecDepth 100000 in
theorem dg_cX11_half_98 : (decode cX11_half 27 = .ok (.invokevirtual 172, 3)) ∧ (decode cX11_half 30 = .ok (.iload_n 2, 1)) ∧ (decode cX11_half 31 = .ok (.if_icmp .ne 6, 3)) ∧ (decode cX11_half 34 = .ok (.bipush (-2), 2)) ∧ (decode cX11_half 36 = .ok (.ireturn, 1)) ∧ (decode cX11_half 37 = .ok (.aload_n 0, 1)) ∧ (decode cX11_half 38 = .ok (.iload_n 1, 1)) ∧ (decode cX11_half 39 = .ok (.iconst 4, 1)) ∧ (decode cX11_half 40 = .ok (.invokevirtual 172, 3)) ∧ (decode cX11_half 43 = .ok (.istore_n 3, 1)) ∧ (decode cX11_half 44 = .ok (.aload_n 0, 1)) ∧ (decode cX11_half 45 = .ok (.getfield 7, 3)) ∧ (decode cX11_half 48 = .ok (.iconst 5, 1)) ∧ (decode cX11_half 49 = .ok (.iload_n 1, 1)) ∧ (decode cX11_half 50 = .ok (.imul, 1)) ∧ (decode cX11_half 51 = .ok (.iconst 4, 1)) := by decide +kernel
theorem dX11_half_27 : decode cX11_half 27 = .ok (.invokevirtual 172, 3) := dg_cX11_half_98.1
theorem dX11_half_30 : decode cX11_half 30 = .ok (.iload_n 2, 1) := dg_cX11_half_98.2.1
theorem dX11_half_31 : decode cX11_half 31 = .ok (.if_icmp .ne 6, 3) := dg_cX11_half_98.2.2.1
theorem dX11_half_34 : decode cX11_half 34 = .ok (.bipush (-2), 2) := dg_cX11_half_98.2.2.2.1
theorem dX11_half_36 : decode cX11_half 36 = .ok (.ireturn, 1) := dg_cX11_half_98.2.2.2.2.1
theorem dX11_half_37 : decode cX11_half 37 = .ok (.aload_n 0, 1) := dg_cX11_half_98.2.2.2.2.2.1
theorem dX11_half_38 : decode cX11_half 38 = .ok (.iload_n 1, 1) := dg_cX11_half_98.2.2.2.2.2.2.1
theorem dX11_half_39 : decode cX11_half 39 = .ok (.iconst 4, 1) := dg_cX11_half_98.2.2.2.2.2.2.2.1
theorem dX11_half_40 : decode cX11_half 40 = .ok (.invokevirtual 172, 3) := dg_cX11_half_98.2.2.2.2.2.2.2.2.1
theorem dX11_half_43 : decode cX11_half 43 = .ok (.istore_n 3, 1) := dg_cX11_half_98.2.2.2.2.2.2.2.2.2.1
theorem dX11_half_44 : decode cX11_half 44 = .ok (.aload_n 0, 1) := dg_cX11_half_98.2.2.2.2.2.2.2.2.2.2.1
theorem dX11_half_45 : decode cX11_half 45 = .ok (.getfield 7, 3) := dg_cX11_half_98.2.2.2.2.2.2.2.2.2.2.2.1
theorem dX11_half_48 : decode cX11_half 48 = .ok (.iconst 5, 1) := dg_cX11_half_98.2.2.2.2.2.2.2.2.2.2.2.2.1
theorem dX11_half_49 : decode cX11_half 49 = .ok (.iload_n 1, 1) := dg_cX11_half_98.2.2.2.2.2.2.2.2.2.2.2.2.2.1
theorem dX11_half_50 : decode cX11_half 50 = .ok (.imul, 1) := dg_cX11_half_98.2.2.2.2.2.2.2.2.2.2.2.2.2.2.1
theorem dX11_half_51 : decode cX11_half 51 = .ok (.iconst 4, 1) := dg_cX11_half_98.2.2.2.2.2.2.2.2.2.2.2.2.2.2.2
set_option maxRecDepth 100000 in
theorem dg_cX11_half_99 : (decode cX11_half 52 = .ok (.iadd, 1)) ∧ (decode cX11_half 53 = .ok (.iload_n 2, 1)) ∧ (decode cX11_half 54 = .ok (.iastore, 1)) ∧ (decode cX11_half 55 = .ok (.iload_n 3, 1)) ∧ (decode cX11_half 56 = .ok (.ireturn, 1)) := by decide +kernel
theorem dX11_half_52 : decode cX11_half 52 = .ok (.iadd, 1) := dg_cX11_half_99.1
theorem dX11_half_53 : decode cX11_half 53 = .ok (.iload_n 2, 1) := dg_cX11_half_99.2.1
theorem dX11_half_54 : decode cX11_half 54 = .ok (.iastore, 1) := dg_cX11_half_99.2.2.1
theorem dX11_half_55 : decode cX11_half 55 = .ok (.iload_n 3, 1) := dg_cX11_half_99.2.2.2.1
theorem dX11_half_56 : decode cX11_half 56 = .ok (.ireturn, 1) := dg_cX11_half_99.2.2.2.2
set_option maxRecDepth 100000 in
theorem dg_cX11_isFeud_100 : (decode cX11_isFeud 0 = .ok (.aload_n 0, 1)) ∧ (decode cX11_isFeud 1 = .ok (.getfield 7, 3)) ∧ (decode cX11_isFeud 4 = .ok (.bipush 60, 2)) ∧ (decode cX11_isFeud 6 = .ok (.iload_n 1, 1)) ∧ (decode cX11_isFeud 7 = .ok (.iadd, 1)) ∧ (decode cX11_isFeud 8 = .ok (.iaload, 1)) ∧ (decode cX11_isFeud 9 = .ok (.iload_n 2, 1)) ∧ (decode cX11_isFeud 10 = .ok (.ishr, 1)) ∧ (decode cX11_isFeud 11 = .ok (.iconst 1, 1)) ∧ (decode cX11_isFeud 12 = .ok (.iand, 1)) ∧ (decode cX11_isFeud 13 = .ok (.iconst 1, 1)) ∧ (decode cX11_isFeud 14 = .ok (.if_icmp .ne 7, 3)) ∧ (decode cX11_isFeud 17 = .ok (.iconst 1, 1)) ∧ (decode cX11_isFeud 18 = .ok (.goto 4, 3)) ∧ (decode cX11_isFeud 21 = .ok (.iconst 0, 1)) ∧ (decode cX11_isFeud 22 = .ok (.ireturn, 1)) := by decide +kernel
theorem dX11_isFeud_0 : decode cX11_isFeud 0 = .ok (.aload_n 0, 1) := dg_cX11_isFeud_100.1
theorem dX11_isFeud_1 : decode cX11_isFeud 1 = .ok (.getfield 7, 3) := dg_cX11_isFeud_100.2.1
theorem dX11_isFeud_4 : decode cX11_isFeud 4 = .ok (.bipush 60, 2) := dg_cX11_isFeud_100.2.2.1
theorem dX11_isFeud_6 : decode cX11_isFeud 6 = .ok (.iload_n 1, 1) := dg_cX11_isFeud_100.2.2.2.1
theorem dX11_isFeud_7 : decode cX11_isFeud 7 = .ok (.iadd, 1) := dg_cX11_isFeud_100.2.2.2.2.1
theorem dX11_isFeud_8 : decode cX11_isFeud 8 = .ok (.iaload, 1) := dg_cX11_isFeud_100.2.2.2.2.2.1
theorem dX11_isFeud_9 : decode cX11_isFeud 9 = .ok (.iload_n 2, 1) := dg_cX11_isFeud_100.2.2.2.2.2.2.1
theorem dX11_isFeud_10 : decode cX11_isFeud 10 = .ok (.ishr, 1) := dg_cX11_isFeud_100.2.2.2.2.2.2.2.1
theorem dX11_isFeud_11 : decode cX11_isFeud 11 = .ok (.iconst 1, 1) := dg_cX11_isFeud_100.2.2.2.2.2.2.2.2.1
theorem dX11_isFeud_12 : decode cX11_isFeud 12 = .ok (.iand, 1) := dg_cX11_isFeud_100.2.2.2.2.2.2.2.2.2.1
theorem dX11_isFeud_13 : decode cX11_isFeud 13 = .ok (.iconst 1, 1) := dg_cX11_isFeud_100.2.2.2.2.2.2.2.2.2.2.1
theorem dX11_isFeud_14 : decode cX11_isFeud 14 = .ok (.if_icmp .ne 7, 3) := dg_cX11_isFeud_100.2.2.2.2.2.2.2.2.2.2.2.1
theorem dX11_isFeud_17 : decode cX11_isFeud 17 = .ok (.iconst 1, 1) := dg_cX11_isFeud_100.2.2.2.2.2.2.2.2.2.2.2.2.1
theorem dX11_isFeud_18 : decode cX11_isFeud 18 = .ok (.goto 4, 3) := dg_cX11_isFeud_100.2.2.2.2.2.2.2.2.2.2.2.2.2.1
theorem dX11_isFeud_21 : decode cX11_isFeud 21 = .ok (.iconst 0, 1) := dg_cX11_isFeud_100.2.2.2.2.2.2.2.2.2.2.2.2.2.2.1
theorem dX11_isFeud_22 : decode cX11_isFeud 22 = .ok (.ireturn, 1) := dg_cX11_isFeud_100.2.2.2.2.2.2.2.2.2.2.2.2.2.2.2
set_option maxRecDepth 100000 in
theorem dg_cX11_setsFeud_101 : (decode cX11_setsFeud 0 = .ok (.aload_n 0, 1)) ∧ (decode cX11_setsFeud 1 = .ok (.getfield 7, 3)) ∧ (decode cX11_setsFeud 4 = .ok (.bipush 60, 2)) ∧ (decode cX11_setsFeud 6 = .ok (.iload_n 1, 1)) ∧ (decode cX11_setsFeud 7 = .ok (.iadd, 1)) ∧ (decode cX11_setsFeud 8 = .ok (.iload_n 3, 1)) ∧ (decode cX11_setsFeud 9 = .ok (.ifCond .eq 19, 3)) ∧ (decode cX11_setsFeud 12 = .ok (.aload_n 0, 1)) ∧ (decode cX11_setsFeud 13 = .ok (.getfield 7, 3)) ∧ (decode cX11_setsFeud 16 = .ok (.bipush 60, 2)) ∧ (decode cX11_setsFeud 18 = .ok (.iload_n 1, 1)) ∧ (decode cX11_setsFeud 19 = .ok (.iadd, 1)) ∧ (decode cX11_setsFeud 20 = .ok (.iaload, 1)) ∧ (decode cX11_setsFeud 21 = .ok (.iconst 1, 1)) ∧ (decode cX11_setsFeud 22 = .ok (.iload_n 2, 1)) ∧ (decode cX11_setsFeud 23 = .ok (.ishl, 1)) := by decide +kernel
theorem dX11_setsFeud_0 : decode cX11_setsFeud 0 = .ok (.aload_n 0, 1) := dg_cX11_setsFeud_101.1
theorem dX11_setsFeud_1 : decode cX11_setsFeud 1 = .ok (.getfield 7, 3) := dg_cX11_setsFeud_101.2.1
theorem dX11_setsFeud_4 : decode cX11_setsFeud 4 = .ok (.bipush 60, 2) := dg_cX11_setsFeud_101.2.2.1
theorem dX11_setsFeud_6 : decode cX11_setsFeud 6 = .ok (.iload_n 1, 1) := dg_cX11_setsFeud_101.2.2.2.1
theorem dX11_setsFeud_7 : decode cX11_setsFeud 7 = .ok (.iadd, 1) := dg_cX11_setsFeud_101.2.2.2.2.1
theorem dX11_setsFeud_8 : decode cX11_setsFeud 8 = .ok (.iload_n 3, 1) := dg_cX11_setsFeud_101.2.2.2.2.2.1
theorem dX11_setsFeud_9 : decode cX11_setsFeud 9 = .ok (.ifCond .eq 19, 3) := dg_cX11_setsFeud_101.2.2.2.2.2.2.1
theorem dX11_setsFeud_12 : decode cX11_setsFeud 12 = .ok (.aload_n 0, 1) := dg_cX11_setsFeud_101.2.2.2.2.2.2.2.1
theorem dX11_setsFeud_13 : decode cX11_setsFeud 13 = .ok (.getfield 7, 3) := dg_cX11_setsFeud_101.2.2.2.2.2.2.2.2.1
theorem dX11_setsFeud_16 : decode cX11_setsFeud 16 = .ok (.bipush 60, 2) := dg_cX11_setsFeud_101.2.2.2.2.2.2.2.2.2.1
theorem dX11_setsFeud_18 : decode cX11_setsFeud 18 = .ok (.iload_n 1, 1) := dg_cX11_setsFeud_101.2.2.2.2.2.2.2.2.2.2.1
theorem dX11_setsFeud_19 : decode cX11_setsFeud 19 = .ok (.iadd, 1) := dg_cX11_setsFeud_101.2.2.2.2.2.2.2.2.2.2.2.1
theorem dX11_setsFeud_20 : decode cX11_setsFeud 20 = .ok (.iaload, 1) := dg_cX11_setsFeud_101.2.2.2.2.2.2.2.2.2.2.2.2.1
theorem dX11_setsFeud_21 : decode cX11_setsFeud 21 = .ok (.iconst 1, 1) := dg_cX11_setsFeud_101.2.2.2.2.2.2.2.2.2.2.2.2.2.1
theorem dX11_setsFeud_22 : decode cX11_setsFeud 22 = .ok (.iload_n 2, 1) := dg_cX11_setsFeud_101.2.2.2.2.2.2.2.2.2.2.2.2.2.2.1
theorem dX11_setsFeud_23 : decode cX11_setsFeud 23 = .ok (.ishl, 1) := dg_cX11_setsFeud_101.2.2.2.2.2.2.2.2.2.2.2.2.2.2.2
set_option maxRecDepth 100000 in
theorem dg_cX11_setsFeud_102 : (decode cX11_setsFeud 24 = .ok (.ior, 1)) ∧ (decode cX11_setsFeud 25 = .ok (.goto 18, 3)) ∧ (decode cX11_setsFeud 28 = .ok (.aload_n 0, 1)) ∧ (decode cX11_setsFeud 29 = .ok (.getfield 7, 3)) ∧ (decode cX11_setsFeud 32 = .ok (.bipush 60, 2)) ∧ (decode cX11_setsFeud 34 = .ok (.iload_n 1, 1)) ∧ (decode cX11_setsFeud 35 = .ok (.iadd, 1)) ∧ (decode cX11_setsFeud 36 = .ok (.iaload, 1)) ∧ (decode cX11_setsFeud 37 = .ok (.iconst 1, 1)) ∧ (decode cX11_setsFeud 38 = .ok (.iload_n 2, 1)) ∧ (decode cX11_setsFeud 39 = .ok (.ishl, 1)) ∧ (decode cX11_setsFeud 40 = .ok (.iconst (-1), 1)) ∧ (decode cX11_setsFeud 41 = .ok (.ixor, 1)) ∧ (decode cX11_setsFeud 42 = .ok (.iand, 1)) ∧ (decode cX11_setsFeud 43 = .ok (.iastore, 1)) ∧ (decode cX11_setsFeud 44 = .ok (.aload_n 0, 1)) := by decide +kernel
theorem dX11_setsFeud_24 : decode cX11_setsFeud 24 = .ok (.ior, 1) := dg_cX11_setsFeud_102.1
theorem dX11_setsFeud_25 : decode cX11_setsFeud 25 = .ok (.goto 18, 3) := dg_cX11_setsFeud_102.2.1
theorem dX11_setsFeud_28 : decode cX11_setsFeud 28 = .ok (.aload_n 0, 1) := dg_cX11_setsFeud_102.2.2.1
theorem dX11_setsFeud_29 : decode cX11_setsFeud 29 = .ok (.getfield 7, 3) := dg_cX11_setsFeud_102.2.2.2.1
theorem dX11_setsFeud_32 : decode cX11_setsFeud 32 = .ok (.bipush 60, 2) := dg_cX11_setsFeud_102.2.2.2.2.1
theorem dX11_setsFeud_34 : decode cX11_setsFeud 34 = .ok (.iload_n 1, 1) := dg_cX11_setsFeud_102.2.2.2.2.2.1
theorem dX11_setsFeud_35 : decode cX11_setsFeud 35 = .ok (.iadd, 1) := dg_cX11_setsFeud_102.2.2.2.2.2.2.1
theorem dX11_setsFeud_36 : decode cX11_setsFeud 36 = .ok (.iaload, 1) := dg_cX11_setsFeud_102.2.2.2.2.2.2.2.1
theorem dX11_setsFeud_37 : decode cX11_setsFeud 37 = .ok (.iconst 1, 1) := dg_cX11_setsFeud_102.2.2.2.2.2.2.2.2.1
theorem dX11_setsFeud_38 : decode cX11_setsFeud 38 = .ok (.iload_n 2, 1) := dg_cX11_setsFeud_102.2.2.2.2.2.2.2.2.2.1
theorem dX11_setsFeud_39 : decode cX11_setsFeud 39 = .ok (.ishl, 1) := dg_cX11_setsFeud_102.2.2.2.2.2.2.2.2.2.2.1
theorem dX11_setsFeud_40 : decode cX11_setsFeud 40 = .ok (.iconst (-1), 1) := dg_cX11_setsFeud_102.2.2.2.2.2.2.2.2.2.2.2.1
theorem dX11_setsFeud_41 : decode cX11_setsFeud 41 = .ok (.ixor, 1) := dg_cX11_setsFeud_102.2.2.2.2.2.2.2.2.2.2.2.2.1
theorem dX11_setsFeud_42 : decode cX11_setsFeud 42 = .ok (.iand, 1) := dg_cX11_setsFeud_102.2.2.2.2.2.2.2.2.2.2.2.2.2.1
theorem dX11_setsFeud_43 : decode cX11_setsFeud 43 = .ok (.iastore, 1) := dg_cX11_setsFeud_102.2.2.2.2.2.2.2.2.2.2.2.2.2.2.1
theorem dX11_setsFeud_44 : decode cX11_setsFeud 44 = .ok (.aload_n 0, 1) := dg_cX11_setsFeud_102.2.2.2.2.2.2.2.2.2.2.2.2.2.2.2
set_option maxRecDepth 100000 in
theorem dg_cX11_setsFeud_103 : (decode cX11_setsFeud 45 = .ok (.getfield 7, 3)) ∧ (decode cX11_setsFeud 48 = .ok (.bipush 60, 2)) ∧ (decode cX11_setsFeud 50 = .ok (.iload_n 2, 1)) ∧ (decode cX11_setsFeud 51 = .ok (.iadd, 1)) ∧ (decode cX11_setsFeud 52 = .ok (.iload_n 3, 1)) ∧ (decode cX11_setsFeud 53 = .ok (.ifCond .eq 19, 3)) ∧ (decode cX11_setsFeud 56 = .ok (.aload_n 0, 1)) ∧ (decode cX11_setsFeud 57 = .ok (.getfield 7, 3)) ∧ (decode cX11_setsFeud 60 = .ok (.bipush 60, 2)) ∧ (decode cX11_setsFeud 62 = .ok (.iload_n 2, 1)) ∧ (decode cX11_setsFeud 63 = .ok (.iadd, 1)) ∧ (decode cX11_setsFeud 64 = .ok (.iaload, 1)) ∧ (decode cX11_setsFeud 65 = .ok (.iconst 1, 1)) ∧ (decode cX11_setsFeud 66 = .ok (.iload_n 1, 1)) ∧ (decode cX11_setsFeud 67 = .ok (.ishl, 1)) ∧ (decode cX11_setsFeud 68 = .ok (.ior, 1)) := by decide +kernel
theorem dX11_setsFeud_45 : decode cX11_setsFeud 45 = .ok (.getfield 7, 3) := dg_cX11_setsFeud_103.1
theorem dX11_setsFeud_48 : decode cX11_setsFeud 48 = .ok (.bipush 60, 2) := dg_cX11_setsFeud_103.2.1
theorem dX11_setsFeud_50 : decode cX11_setsFeud 50 = .ok (.iload_n 2, 1) := dg_cX11_setsFeud_103.2.2.1
theorem dX11_setsFeud_51 : decode cX11_setsFeud 51 = .ok (.iadd, 1) := dg_cX11_setsFeud_103.2.2.2.1
theorem dX11_setsFeud_52 : decode cX11_setsFeud 52 = .ok (.iload_n 3, 1) := dg_cX11_setsFeud_103.2.2.2.2.1
theorem dX11_setsFeud_53 : decode cX11_setsFeud 53 = .ok (.ifCond .eq 19, 3) := dg_cX11_setsFeud_103.2.2.2.2.2.1
theorem dX11_setsFeud_56 : decode cX11_setsFeud 56 = .ok (.aload_n 0, 1) := dg_cX11_setsFeud_103.2.2.2.2.2.2.1
theorem dX11_setsFeud_57 : decode cX11_setsFeud 57 = .ok (.getfield 7, 3) := dg_cX11_setsFeud_103.2.2.2.2.2.2.2.1
theorem dX11_setsFeud_60 : decode cX11_setsFeud 60 = .ok (.bipush 60, 2) := dg_cX11_setsFeud_103.2.2.2.2.2.2.2.2.1
theorem dX11_setsFeud_62 : decode cX11_setsFeud 62 = .ok (.iload_n 2, 1) := dg_cX11_setsFeud_103.2.2.2.2.2.2.2.2.2.1
theorem dX11_setsFeud_63 : decode cX11_setsFeud 63 = .ok (.iadd, 1) := dg_cX11_setsFeud_103.2.2.2.2.2.2.2.2.2.2.1
theorem dX11_setsFeud_64 : decode cX11_setsFeud 64 = .ok (.iaload, 1) := dg_cX11_setsFeud_103.2.2.2.2.2.2.2.2.2.2.2.1
theorem dX11_setsFeud_65 : decode cX11_setsFeud 65 = .ok (.iconst 1, 1) := dg_cX11_setsFeud_103.2.2.2.2.2.2.2.2.2.2.2.2.1
theorem dX11_setsFeud_66 : decode cX11_setsFeud 66 = .ok (.iload_n 1, 1) := dg_cX11_setsFeud_103.2.2.2.2.2.2.2.2.2.2.2.2.2.1
theorem dX11_setsFeud_67 : decode cX11_setsFeud 67 = .ok (.ishl, 1) := dg_cX11_setsFeud_103.2.2.2.2.2.2.2.2.2.2.2.2.2.2.1
theorem dX11_setsFeud_68 : decode cX11_setsFeud 68 = .ok (.ior, 1) := dg_cX11_setsFeud_103.2.2.2.2.2.2.2.2.2.2.2.2.2.2.2
set_option maxRecDepth 100000 in
theorem dg_cX11_setsFeud_104 : (decode cX11_setsFeud 69 = .ok (.goto 18, 3)) ∧ (decode cX11_setsFeud 72 = .ok (.aload_n 0, 1)) ∧ (decode cX11_setsFeud 73 = .ok (.getfield 7, 3)) ∧ (decode cX11_setsFeud 76 = .ok (.bipush 60, 2)) ∧ (decode cX11_setsFeud 78 = .ok (.iload_n 2, 1)) ∧ (decode cX11_setsFeud 79 = .ok (.iadd, 1)) ∧ (decode cX11_setsFeud 80 = .ok (.iaload, 1)) ∧ (decode cX11_setsFeud 81 = .ok (.iconst 1, 1)) ∧ (decode cX11_setsFeud 82 = .ok (.iload_n 1, 1)) ∧ (decode cX11_setsFeud 83 = .ok (.ishl, 1)) ∧ (decode cX11_setsFeud 84 = .ok (.iconst (-1), 1)) ∧ (decode cX11_setsFeud 85 = .ok (.ixor, 1)) ∧ (decode cX11_setsFeud 86 = .ok (.iand, 1)) ∧ (decode cX11_setsFeud 87 = .ok (.iastore, 1)) ∧ (decode cX11_setsFeud 88 = .ok (.return_, 1)) := by decide +kernel
theorem dX11_setsFeud_69 : decode cX11_setsFeud 69 = .ok (.goto 18, 3) := dg_cX11_setsFeud_104.1
theorem dX11_setsFeud_72 : decode cX11_setsFeud 72 = .ok (.aload_n 0, 1) := dg_cX11_setsFeud_104.2.1
theorem dX11_setsFeud_73 : decode cX11_setsFeud 73 = .ok (.getfield 7, 3) := dg_cX11_setsFeud_104.2.2.1
theorem dX11_setsFeud_76 : decode cX11_setsFeud 76 = .ok (.bipush 60, 2) := dg_cX11_setsFeud_104.2.2.2.1
theorem dX11_setsFeud_78 : decode cX11_setsFeud 78 = .ok (.iload_n 2, 1) := dg_cX11_setsFeud_104.2.2.2.2.1
theorem dX11_setsFeud_79 : decode cX11_setsFeud 79 = .ok (.iadd, 1) := dg_cX11_setsFeud_104.2.2.2.2.2.1
theorem dX11_setsFeud_80 : decode cX11_setsFeud 80 = .ok (.iaload, 1) := dg_cX11_setsFeud_104.2.2.2.2.2.2.1
theorem dX11_setsFeud_81 : decode cX11_setsFeud 81 = .ok (.iconst 1, 1) := dg_cX11_setsFeud_104.2.2.2.2.2.2.2.1
theorem dX11_setsFeud_82 : decode cX11_setsFeud 82 = .ok (.iload_n 1, 1) := dg_cX11_setsFeud_104.2.2.2.2.2.2.2.2.1
theorem dX11_setsFeud_83 : decode cX11_setsFeud 83 = .ok (.ishl, 1) := dg_cX11_setsFeud_104.2.2.2.2.2.2.2.2.2.1
theorem dX11_setsFeud_84 : decode cX11_setsFeud 84 = .ok (.iconst (-1), 1) := dg_cX11_setsFeud_104.2.2.2.2.2.2.2.2.2.2.1
theorem dX11_setsFeud_85 : decode cX11_setsFeud 85 = .ok (.ixor, 1) := dg_cX11_setsFeud_104.2.2.2.2.2.2.2.2.2.2.2.1
theorem dX11_setsFeud_86 : decode cX11_setsFeud 86 = .ok (.iand, 1) := dg_cX11_setsFeud_104.2.2.2.2.2.2.2.2.2.2.2.2.1
theorem dX11_setsFeud_87 : decode cX11_setsFeud 87 = .ok (.iastore, 1) := dg_cX11_setsFeud_104.2.2.2.2.2.2.2.2.2.2.2.2.2.1
theorem dX11_setsFeud_88 : decode cX11_setsFeud 88 = .ok (.return_, 1) := dg_cX11_setsFeud_104.2.2.2.2.2.2.2.2.2.2.2.2.2.2
set_option maxRecDepth 100000 in
theorem dg_cX11_feud_105 : (decode cX11_feud 0 = .ok (.aload_n 0, 1)) ∧ (decode cX11_feud 1 = .ok (.iload_n 1, 1)) ∧ (decode cX11_feud 2 = .ok (.invokevirtual 186, 3)) ∧ (decode cX11_feud 5 = .ok (.ifCond .eq 16, 3)) ∧ (decode cX11_feud 8 = .ok (.aload_n 0, 1)) ∧ (decode cX11_feud 9 = .ok (.iload_n 2, 1)) ∧ (decode cX11_feud 10 = .ok (.invokevirtual 186, 3)) ∧ (decode cX11_feud 13 = .ok (.ifCond .eq 8, 3)) ∧ (decode cX11_feud 16 = .ok (.iload_n 1, 1)) ∧ (decode cX11_feud 17 = .ok (.iload_n 2, 1)) ∧ (decode cX11_feud 18 = .ok (.if_icmp .ne 5, 3)) ∧ (decode cX11_feud 21 = .ok (.iconst (-1), 1)) ∧ (decode cX11_feud 22 = .ok (.ireturn, 1)) ∧ (decode cX11_feud 23 = .ok (.aload_n 0, 1)) ∧ (decode cX11_feud 24 = .ok (.iload_n 1, 1)) ∧ (decode cX11_feud 25 = .ok (.iload_n 2, 1)) := by decide +kernel
theorem dX11_feud_0 : decode cX11_feud 0 = .ok (.aload_n 0, 1) := dg_cX11_feud_105.1
theorem dX11_feud_1 : decode cX11_feud 1 = .ok (.iload_n 1, 1) := dg_cX11_feud_105.2.1
theorem dX11_feud_2 : decode cX11_feud 2 = .ok (.invokevirtual 186, 3) := dg_cX11_feud_105.2.2.1
theorem dX11_feud_5 : decode cX11_feud 5 = .ok (.ifCond .eq 16, 3) := dg_cX11_feud_105.2.2.2.1
theorem dX11_feud_8 : decode cX11_feud 8 = .ok (.aload_n 0, 1) := dg_cX11_feud_105.2.2.2.2.1
theorem dX11_feud_9 : decode cX11_feud 9 = .ok (.iload_n 2, 1) := dg_cX11_feud_105.2.2.2.2.2.1
theorem dX11_feud_10 : decode cX11_feud 10 = .ok (.invokevirtual 186, 3) := dg_cX11_feud_105.2.2.2.2.2.2.1
theorem dX11_feud_13 : decode cX11_feud 13 = .ok (.ifCond .eq 8, 3) := dg_cX11_feud_105.2.2.2.2.2.2.2.1
theorem dX11_feud_16 : decode cX11_feud 16 = .ok (.iload_n 1, 1) := dg_cX11_feud_105.2.2.2.2.2.2.2.2.1
theorem dX11_feud_17 : decode cX11_feud 17 = .ok (.iload_n 2, 1) := dg_cX11_feud_105.2.2.2.2.2.2.2.2.2.1
theorem dX11_feud_18 : decode cX11_feud 18 = .ok (.if_icmp .ne 5, 3) := dg_cX11_feud_105.2.2.2.2.2.2.2.2.2.2.1
theorem dX11_feud_21 : decode cX11_feud 21 = .ok (.iconst (-1), 1) := dg_cX11_feud_105.2.2.2.2.2.2.2.2.2.2.2.1
theorem dX11_feud_22 : decode cX11_feud 22 = .ok (.ireturn, 1) := dg_cX11_feud_105.2.2.2.2.2.2.2.2.2.2.2.2.1
theorem dX11_feud_23 : decode cX11_feud 23 = .ok (.aload_n 0, 1) := dg_cX11_feud_105.2.2.2.2.2.2.2.2.2.2.2.2.2.1
theorem dX11_feud_24 : decode cX11_feud 24 = .ok (.iload_n 1, 1) := dg_cX11_feud_105.2.2.2.2.2.2.2.2.2.2.2.2.2.2.1
theorem dX11_feud_25 : decode cX11_feud 25 = .ok (.iload_n 2, 1) := dg_cX11_feud_105.2.2.2.2.2.2.2.2.2.2.2.2.2.2.2
set_option maxRecDepth 100000 in
theorem dg_cX11_feud_106 : (decode cX11_feud 26 = .ok (.invokevirtual 195, 3)) ∧ (decode cX11_feud 29 = .ok (.invokestatic 191, 3)) ∧ (decode cX11_feud 32 = .ok (.istore 4, 2)) ∧ (decode cX11_feud 34 = .ok (.aload_n 0, 1)) ∧ (decode cX11_feud 35 = .ok (.iload_n 1, 1)) ∧ (decode cX11_feud 36 = .ok (.iload_n 2, 1)) ∧ (decode cX11_feud 37 = .ok (.iload_n 3, 1)) ∧ (decode cX11_feud 38 = .ok (.invokevirtual 199, 3)) ∧ (decode cX11_feud 41 = .ok (.iload 4, 2)) ∧ (decode cX11_feud 43 = .ok (.ireturn, 1)) := by decide +kernel
theorem dX11_feud_26 : decode cX11_feud 26 = .ok (.invokevirtual 195, 3) := dg_cX11_feud_106.1
theorem dX11_feud_29 : decode cX11_feud 29 = .ok (.invokestatic 191, 3) := dg_cX11_feud_106.2.1
theorem dX11_feud_32 : decode cX11_feud 32 = .ok (.istore 4, 2) := dg_cX11_feud_106.2.2.1
theorem dX11_feud_34 : decode cX11_feud 34 = .ok (.aload_n 0, 1) := dg_cX11_feud_106.2.2.2.1
theorem dX11_feud_35 : decode cX11_feud 35 = .ok (.iload_n 1, 1) := dg_cX11_feud_106.2.2.2.2.1
theorem dX11_feud_36 : decode cX11_feud 36 = .ok (.iload_n 2, 1) := dg_cX11_feud_106.2.2.2.2.2.1
theorem dX11_feud_37 : decode cX11_feud 37 = .ok (.iload_n 3, 1) := dg_cX11_feud_106.2.2.2.2.2.2.1
theorem dX11_feud_38 : decode cX11_feud 38 = .ok (.invokevirtual 199, 3) := dg_cX11_feud_106.2.2.2.2.2.2.2.1
theorem dX11_feud_41 : decode cX11_feud 41 = .ok (.iload 4, 2) := dg_cX11_feud_106.2.2.2.2.2.2.2.2.1
theorem dX11_feud_43 : decode cX11_feud 43 = .ok (.ireturn, 1) := dg_cX11_feud_106.2.2.2.2.2.2.2.2.2
set_option maxRecDepth 100000 in
theorem dg_cX11_feuding_107 : (decode cX11_feuding 0 = .ok (.iload_n 1, 1)) ∧ (decode cX11_feuding 1 = .ok (.istore_n 2, 1)) ∧ (decode cX11_feuding 2 = .ok (.iconst 0, 1)) ∧ (decode cX11_feuding 3 = .ok (.istore_n 3, 1)) ∧ (decode cX11_feuding 4 = .ok (.iconst 1, 1)) ∧ (decode cX11_feuding 5 = .ok (.istore 4, 2)) ∧ (decode cX11_feuding 7 = .ok (.iload 4, 2)) ∧ (decode cX11_feuding 9 = .ok (.aload_n 0, 1)) ∧ (decode cX11_feuding 10 = .ok (.getfield 75, 3)) ∧ (decode cX11_feuding 13 = .ok (.if_icmp .ge 72, 3)) ∧ (decode cX11_feuding 16 = .ok (.iconst 0, 1)) ∧ (decode cX11_feuding 17 = .ok (.istore 5, 2)) ∧ (decode cX11_feuding 19 = .ok (.iload 5, 2)) ∧ (decode cX11_feuding 21 = .ok (.iload 4, 2)) ∧ (decode cX11_feuding 23 = .ok (.if_icmp .ge 56, 3)) ∧ (decode cX11_feuding 26 = .ok (.iload_n 2, 1)) := by decide +kernel
theorem dX11_feuding_0 : decode cX11_feuding 0 = .ok (.iload_n 1, 1) := dg_cX11_feuding_107.1
theorem dX11_feuding_1 : decode cX11_feuding 1 = .ok (.istore_n 2, 1) := dg_cX11_feuding_107.2.1
theorem dX11_feuding_2 : decode cX11_feuding 2 = .ok (.iconst 0, 1) := dg_cX11_feuding_107.2.2.1
theorem dX11_feuding_3 : decode cX11_feuding 3 = .ok (.istore_n 3, 1) := dg_cX11_feuding_107.2.2.2.1
theorem dX11_feuding_4 : decode cX11_feuding 4 = .ok (.iconst 1, 1) := dg_cX11_feuding_107.2.2.2.2.1
theorem dX11_feuding_5 : decode cX11_feuding 5 = .ok (.istore 4, 2) := dg_cX11_feuding_107.2.2.2.2.2.1
theorem dX11_feuding_7 : decode cX11_feuding 7 = .ok (.iload 4, 2) := dg_cX11_feuding_107.2.2.2.2.2.2.1
theorem dX11_feuding_9 : decode cX11_feuding 9 = .ok (.aload_n 0, 1) := dg_cX11_feuding_107.2.2.2.2.2.2.2.1
theorem dX11_feuding_10 : decode cX11_feuding 10 = .ok (.getfield 75, 3) := dg_cX11_feuding_107.2.2.2.2.2.2.2.2.1
theorem dX11_feuding_13 : decode cX11_feuding 13 = .ok (.if_icmp .ge 72, 3) := dg_cX11_feuding_107.2.2.2.2.2.2.2.2.2.1
theorem dX11_feuding_16 : decode cX11_feuding 16 = .ok (.iconst 0, 1) := dg_cX11_feuding_107.2.2.2.2.2.2.2.2.2.2.1
theorem dX11_feuding_17 : decode cX11_feuding 17 = .ok (.istore 5, 2) := dg_cX11_feuding_107.2.2.2.2.2.2.2.2.2.2.2.1
theorem dX11_feuding_19 : decode cX11_feuding 19 = .ok (.iload 5, 2) := dg_cX11_feuding_107.2.2.2.2.2.2.2.2.2.2.2.2.1
theorem dX11_feuding_21 : decode cX11_feuding 21 = .ok (.iload 4, 2) := dg_cX11_feuding_107.2.2.2.2.2.2.2.2.2.2.2.2.2.1
theorem dX11_feuding_23 : decode cX11_feuding 23 = .ok (.if_icmp .ge 56, 3) := dg_cX11_feuding_107.2.2.2.2.2.2.2.2.2.2.2.2.2.2.1
theorem dX11_feuding_26 : decode cX11_feuding 26 = .ok (.iload_n 2, 1) := dg_cX11_feuding_107.2.2.2.2.2.2.2.2.2.2.2.2.2.2.2
set_option maxRecDepth 100000 in
theorem dg_cX11_feuding_108 : (decode cX11_feuding 27 = .ok (.ldc 203, 2)) ∧ (decode cX11_feuding 29 = .ok (.imul, 1)) ∧ (decode cX11_feuding 30 = .ok (.sipush 12345, 3)) ∧ (decode cX11_feuding 33 = .ok (.iadd, 1)) ∧ (decode cX11_feuding 34 = .ok (.istore_n 2, 1)) ∧ (decode cX11_feuding 35 = .ok (.iload_n 2, 1)) ∧ (decode cX11_feuding 36 = .ok (.bipush 16, 2)) ∧ (decode cX11_feuding 38 = .ok (.ishr, 1)) ∧ (decode cX11_feuding 39 = .ok (.sipush 32767, 3)) ∧ (decode cX11_feuding 42 = .ok (.iand, 1)) ∧ (decode cX11_feuding 43 = .ok (.iconst 4, 1)) ∧ (decode cX11_feuding 44 = .ok (.irem, 1)) ∧ (decode cX11_feuding 45 = .ok (.ifCond .ne 7, 3)) ∧ (decode cX11_feuding 48 = .ok (.iconst 1, 1)) ∧ (decode cX11_feuding 49 = .ok (.goto 4, 3)) ∧ (decode cX11_feuding 52 = .ok (.iconst 0, 1)) := by decide +kernel
theorem dX11_feuding_27 : decode cX11_feuding 27 = .ok (.ldc 203, 2) := dg_cX11_feuding_108.1
theorem dX11_feuding_29 : decode cX11_feuding 29 = .ok (.imul, 1) := dg_cX11_feuding_108.2.1
theorem dX11_feuding_30 : decode cX11_feuding 30 = .ok (.sipush 12345, 3) := dg_cX11_feuding_108.2.2.1
theorem dX11_feuding_33 : decode cX11_feuding 33 = .ok (.iadd, 1) := dg_cX11_feuding_108.2.2.2.1
theorem dX11_feuding_34 : decode cX11_feuding 34 = .ok (.istore_n 2, 1) := dg_cX11_feuding_108.2.2.2.2.1
theorem dX11_feuding_35 : decode cX11_feuding 35 = .ok (.iload_n 2, 1) := dg_cX11_feuding_108.2.2.2.2.2.1
theorem dX11_feuding_36 : decode cX11_feuding 36 = .ok (.bipush 16, 2) := dg_cX11_feuding_108.2.2.2.2.2.2.1
theorem dX11_feuding_38 : decode cX11_feuding 38 = .ok (.ishr, 1) := dg_cX11_feuding_108.2.2.2.2.2.2.2.1
theorem dX11_feuding_39 : decode cX11_feuding 39 = .ok (.sipush 32767, 3) := dg_cX11_feuding_108.2.2.2.2.2.2.2.2.1
theorem dX11_feuding_42 : decode cX11_feuding 42 = .ok (.iand, 1) := dg_cX11_feuding_108.2.2.2.2.2.2.2.2.2.1
theorem dX11_feuding_43 : decode cX11_feuding 43 = .ok (.iconst 4, 1) := dg_cX11_feuding_108.2.2.2.2.2.2.2.2.2.2.1
theorem dX11_feuding_44 : decode cX11_feuding 44 = .ok (.irem, 1) := dg_cX11_feuding_108.2.2.2.2.2.2.2.2.2.2.2.1
theorem dX11_feuding_45 : decode cX11_feuding 45 = .ok (.ifCond .ne 7, 3) := dg_cX11_feuding_108.2.2.2.2.2.2.2.2.2.2.2.2.1
theorem dX11_feuding_48 : decode cX11_feuding 48 = .ok (.iconst 1, 1) := dg_cX11_feuding_108.2.2.2.2.2.2.2.2.2.2.2.2.2.1
theorem dX11_feuding_49 : decode cX11_feuding 49 = .ok (.goto 4, 3) := dg_cX11_feuding_108.2.2.2.2.2.2.2.2.2.2.2.2.2.2.1
theorem dX11_feuding_52 : decode cX11_feuding 52 = .ok (.iconst 0, 1) := dg_cX11_feuding_108.2.2.2.2.2.2.2.2.2.2.2.2.2.2.2
set_option maxRecDepth 100000 in
theorem dg_cX11_feuding_109 : (decode cX11_feuding 53 = .ok (.istore 6, 2)) ∧ (decode cX11_feuding 55 = .ok (.aload_n 0, 1)) ∧ (decode cX11_feuding 56 = .ok (.iload 5, 2)) ∧ (decode cX11_feuding 58 = .ok (.iload 4, 2)) ∧ (decode cX11_feuding 60 = .ok (.iload 6, 2)) ∧ (decode cX11_feuding 62 = .ok (.invokevirtual 199, 3)) ∧ (decode cX11_feuding 65 = .ok (.iload_n 3, 1)) ∧ (decode cX11_feuding 66 = .ok (.iload 6, 2)) ∧ (decode cX11_feuding 68 = .ok (.invokestatic 191, 3)) ∧ (decode cX11_feuding 71 = .ok (.iadd, 1)) ∧ (decode cX11_feuding 72 = .ok (.istore_n 3, 1)) ∧ (decode cX11_feuding 73 = .ok (.iinc 5 1, 3)) ∧ (decode cX11_feuding 76 = .ok (.goto (-57), 3)) ∧ (decode cX11_feuding 79 = .ok (.iinc 4 1, 3)) ∧ (decode cX11_feuding 82 = .ok (.goto (-75), 3)) ∧ (decode cX11_feuding 85 = .ok (.iload_n 3, 1)) := by decide +kernel
theorem dX11_feuding_53 : decode cX11_feuding 53 = .ok (.istore 6, 2) := dg_cX11_feuding_109.1
theorem dX11_feuding_55 : decode cX11_feuding 55 = .ok (.aload_n 0, 1) := dg_cX11_feuding_109.2.1
theorem dX11_feuding_56 : decode cX11_feuding 56 = .ok (.iload 5, 2) := dg_cX11_feuding_109.2.2.1
theorem dX11_feuding_58 : decode cX11_feuding 58 = .ok (.iload 4, 2) := dg_cX11_feuding_109.2.2.2.1
theorem dX11_feuding_60 : decode cX11_feuding 60 = .ok (.iload 6, 2) := dg_cX11_feuding_109.2.2.2.2.1
theorem dX11_feuding_62 : decode cX11_feuding 62 = .ok (.invokevirtual 199, 3) := dg_cX11_feuding_109.2.2.2.2.2.1
theorem dX11_feuding_65 : decode cX11_feuding 65 = .ok (.iload_n 3, 1) := dg_cX11_feuding_109.2.2.2.2.2.2.1
theorem dX11_feuding_66 : decode cX11_feuding 66 = .ok (.iload 6, 2) := dg_cX11_feuding_109.2.2.2.2.2.2.2.1
theorem dX11_feuding_68 : decode cX11_feuding 68 = .ok (.invokestatic 191, 3) := dg_cX11_feuding_109.2.2.2.2.2.2.2.2.1
theorem dX11_feuding_71 : decode cX11_feuding 71 = .ok (.iadd, 1) := dg_cX11_feuding_109.2.2.2.2.2.2.2.2.2.1
theorem dX11_feuding_72 : decode cX11_feuding 72 = .ok (.istore_n 3, 1) := dg_cX11_feuding_109.2.2.2.2.2.2.2.2.2.2.1
theorem dX11_feuding_73 : decode cX11_feuding 73 = .ok (.iinc 5 1, 3) := dg_cX11_feuding_109.2.2.2.2.2.2.2.2.2.2.2.1
theorem dX11_feuding_76 : decode cX11_feuding 76 = .ok (.goto (-57), 3) := dg_cX11_feuding_109.2.2.2.2.2.2.2.2.2.2.2.2.1
theorem dX11_feuding_79 : decode cX11_feuding 79 = .ok (.iinc 4 1, 3) := dg_cX11_feuding_109.2.2.2.2.2.2.2.2.2.2.2.2.2.1
theorem dX11_feuding_82 : decode cX11_feuding 82 = .ok (.goto (-75), 3) := dg_cX11_feuding_109.2.2.2.2.2.2.2.2.2.2.2.2.2.2.1
theorem dX11_feuding_85 : decode cX11_feuding 85 = .ok (.iload_n 3, 1) := dg_cX11_feuding_109.2.2.2.2.2.2.2.2.2.2.2.2.2.2.2
theorem dX11_feuding_86 : decode cX11_feuding 86 = .ok (.ireturn, 1) := by decide +kernel
set_option maxRecDepth 100000 in
theorem dg_cX11_noRung_110 : (decode cX11_noRung 0 = .ok (.iconst 0, 1)) ∧ (decode cX11_noRung 1 = .ok (.istore_n 1, 1)) ∧ (decode cX11_noRung 2 = .ok (.iload_n 1, 1)) ∧ (decode cX11_noRung 3 = .ok (.bipush 6, 2)) ∧ (decode cX11_noRung 5 = .ok (.if_icmp .ge 16, 3)) ∧ (decode cX11_noRung 8 = .ok (.aload_n 0, 1)) ∧ (decode cX11_noRung 9 = .ok (.getfield 29, 3)) ∧ (decode cX11_noRung 12 = .ok (.iload_n 1, 1)) ∧ (decode cX11_noRung 13 = .ok (.iconst 0, 1)) ∧ (decode cX11_noRung 14 = .ok (.iastore, 1)) ∧ (decode cX11_noRung 15 = .ok (.iinc 1 1, 3)) ∧ (decode cX11_noRung 18 = .ok (.goto (-16), 3)) ∧ (decode cX11_noRung 21 = .ok (.return_, 1)) := by decide +kernel
theorem dX11_noRung_0 : decode cX11_noRung 0 = .ok (.iconst 0, 1) := dg_cX11_noRung_110.1
theorem dX11_noRung_1 : decode cX11_noRung 1 = .ok (.istore_n 1, 1) := dg_cX11_noRung_110.2.1
theorem dX11_noRung_2 : decode cX11_noRung 2 = .ok (.iload_n 1, 1) := dg_cX11_noRung_110.2.2.1
theorem dX11_noRung_3 : decode cX11_noRung 3 = .ok (.bipush 6, 2) := dg_cX11_noRung_110.2.2.2.1
theorem dX11_noRung_5 : decode cX11_noRung 5 = .ok (.if_icmp .ge 16, 3) := dg_cX11_noRung_110.2.2.2.2.1
theorem dX11_noRung_8 : decode cX11_noRung 8 = .ok (.aload_n 0, 1) := dg_cX11_noRung_110.2.2.2.2.2.1
theorem dX11_noRung_9 : decode cX11_noRung 9 = .ok (.getfield 29, 3) := dg_cX11_noRung_110.2.2.2.2.2.2.1
theorem dX11_noRung_12 : decode cX11_noRung 12 = .ok (.iload_n 1, 1) := dg_cX11_noRung_110.2.2.2.2.2.2.2.1
theorem dX11_noRung_13 : decode cX11_noRung 13 = .ok (.iconst 0, 1) := dg_cX11_noRung_110.2.2.2.2.2.2.2.2.1
theorem dX11_noRung_14 : decode cX11_noRung 14 = .ok (.iastore, 1) := dg_cX11_noRung_110.2.2.2.2.2.2.2.2.2.1
theorem dX11_noRung_15 : decode cX11_noRung 15 = .ok (.iinc 1 1, 3) := dg_cX11_noRung_110.2.2.2.2.2.2.2.2.2.2.1
theorem dX11_noRung_18 : decode cX11_noRung 18 = .ok (.goto (-16), 3) := dg_cX11_noRung_110.2.2.2.2.2.2.2.2.2.2.2.1
theorem dX11_noRung_21 : decode cX11_noRung 21 = .ok (.return_, 1) := dg_cX11_noRung_110.2.2.2.2.2.2.2.2.2.2.2.2
set_option maxRecDepth 100000 in
theorem dg_cX11_rings_111 : (decode cX11_rings 0 = .ok (.aload_n 0, 1)) ∧ (decode cX11_rings 1 = .ok (.iconst 0, 1)) ∧ (decode cX11_rings 2 = .ok (.putfield 204, 3)) ∧ (decode cX11_rings 5 = .ok (.aload_n 0, 1)) ∧ (decode cX11_rings 6 = .ok (.iconst 0, 1)) ∧ (decode cX11_rings 7 = .ok (.putfield 207, 3)) ∧ (decode cX11_rings 10 = .ok (.aload_n 0, 1)) ∧ (decode cX11_rings 11 = .ok (.iconst 0, 1)) ∧ (decode cX11_rings 12 = .ok (.putfield 210, 3)) ∧ (decode cX11_rings 15 = .ok (.aload_n 0, 1)) ∧ (decode cX11_rings 16 = .ok (.iconst 0, 1)) ∧ (decode cX11_rings 17 = .ok (.putfield 213, 3)) ∧ (decode cX11_rings 20 = .ok (.bipush (-4), 2)) ∧ (decode cX11_rings 22 = .ok (.istore_n 2, 1)) ∧ (decode cX11_rings 23 = .ok (.iconst 0, 1)) ∧ (decode cX11_rings 24 = .ok (.istore_n 3, 1)) := by decide +kernel
theorem dX11_rings_0 : decode cX11_rings 0 = .ok (.aload_n 0, 1) := dg_cX11_rings_111.1
theorem dX11_rings_1 : decode cX11_rings 1 = .ok (.iconst 0, 1) := dg_cX11_rings_111.2.1
theorem dX11_rings_2 : decode cX11_rings 2 = .ok (.putfield 204, 3) := dg_cX11_rings_111.2.2.1
theorem dX11_rings_5 : decode cX11_rings 5 = .ok (.aload_n 0, 1) := dg_cX11_rings_111.2.2.2.1
theorem dX11_rings_6 : decode cX11_rings 6 = .ok (.iconst 0, 1) := dg_cX11_rings_111.2.2.2.2.1
theorem dX11_rings_7 : decode cX11_rings 7 = .ok (.putfield 207, 3) := dg_cX11_rings_111.2.2.2.2.2.1
theorem dX11_rings_10 : decode cX11_rings 10 = .ok (.aload_n 0, 1) := dg_cX11_rings_111.2.2.2.2.2.2.1
theorem dX11_rings_11 : decode cX11_rings 11 = .ok (.iconst 0, 1) := dg_cX11_rings_111.2.2.2.2.2.2.2.1
theorem dX11_rings_12 : decode cX11_rings 12 = .ok (.putfield 210, 3) := dg_cX11_rings_111.2.2.2.2.2.2.2.2.1
theorem dX11_rings_15 : decode cX11_rings 15 = .ok (.aload_n 0, 1) := dg_cX11_rings_111.2.2.2.2.2.2.2.2.2.1
theorem dX11_rings_16 : decode cX11_rings 16 = .ok (.iconst 0, 1) := dg_cX11_rings_111.2.2.2.2.2.2.2.2.2.2.1
theorem dX11_rings_17 : decode cX11_rings 17 = .ok (.putfield 213, 3) := dg_cX11_rings_111.2.2.2.2.2.2.2.2.2.2.2.1
theorem dX11_rings_20 : decode cX11_rings 20 = .ok (.bipush (-4), 2) := dg_cX11_rings_111.2.2.2.2.2.2.2.2.2.2.2.2.1
theorem dX11_rings_22 : decode cX11_rings 22 = .ok (.istore_n 2, 1) := dg_cX11_rings_111.2.2.2.2.2.2.2.2.2.2.2.2.2.1
theorem dX11_rings_23 : decode cX11_rings 23 = .ok (.iconst 0, 1) := dg_cX11_rings_111.2.2.2.2.2.2.2.2.2.2.2.2.2.2.1
theorem dX11_rings_24 : decode cX11_rings 24 = .ok (.istore_n 3, 1) := dg_cX11_rings_111.2.2.2.2.2.2.2.2.2.2.2.2.2.2.2
set_option maxRecDepth 100000 in
theorem dg_cX11_rings_112 : (decode cX11_rings 25 = .ok (.iload_n 3, 1)) ∧ (decode cX11_rings 26 = .ok (.aload_n 0, 1)) ∧ (decode cX11_rings 27 = .ok (.iload_n 1, 1)) ∧ (decode cX11_rings 28 = .ok (.invokevirtual 180, 3)) ∧ (decode cX11_rings 31 = .ok (.if_icmp .ge 124, 3)) ∧ (decode cX11_rings 34 = .ok (.aload_n 0, 1)) ∧ (decode cX11_rings 35 = .ok (.iload_n 1, 1)) ∧ (decode cX11_rings 36 = .ok (.iload_n 3, 1)) ∧ (decode cX11_rings 37 = .ok (.invokevirtual 183, 3)) ∧ (decode cX11_rings 40 = .ok (.istore 4, 2)) ∧ (decode cX11_rings 42 = .ok (.aload_n 0, 1)) ∧ (decode cX11_rings 43 = .ok (.iload 4, 2)) ∧ (decode cX11_rings 45 = .ok (.iconst 0, 1)) ∧ (decode cX11_rings 46 = .ok (.invokevirtual 172, 3)) ∧ (decode cX11_rings 49 = .ok (.istore 5, 2)) ∧ (decode cX11_rings 51 = .ok (.aload_n 0, 1)) := by decide +kernel
theorem dX11_rings_25 : decode cX11_rings 25 = .ok (.iload_n 3, 1) := dg_cX11_rings_112.1
theorem dX11_rings_26 : decode cX11_rings 26 = .ok (.aload_n 0, 1) := dg_cX11_rings_112.2.1
theorem dX11_rings_27 : decode cX11_rings 27 = .ok (.iload_n 1, 1) := dg_cX11_rings_112.2.2.1
theorem dX11_rings_28 : decode cX11_rings 28 = .ok (.invokevirtual 180, 3) := dg_cX11_rings_112.2.2.2.1
theorem dX11_rings_31 : decode cX11_rings 31 = .ok (.if_icmp .ge 124, 3) := dg_cX11_rings_112.2.2.2.2.1
theorem dX11_rings_34 : decode cX11_rings 34 = .ok (.aload_n 0, 1) := dg_cX11_rings_112.2.2.2.2.2.1
theorem dX11_rings_35 : decode cX11_rings 35 = .ok (.iload_n 1, 1) := dg_cX11_rings_112.2.2.2.2.2.2.1
theorem dX11_rings_36 : decode cX11_rings 36 = .ok (.iload_n 3, 1) := dg_cX11_rings_112.2.2.2.2.2.2.2.1
theorem dX11_rings_37 : decode cX11_rings 37 = .ok (.invokevirtual 183, 3) := dg_cX11_rings_112.2.2.2.2.2.2.2.2.1
theorem dX11_rings_40 : decode cX11_rings 40 = .ok (.istore 4, 2) := dg_cX11_rings_112.2.2.2.2.2.2.2.2.2.1
theorem dX11_rings_42 : decode cX11_rings 42 = .ok (.aload_n 0, 1) := dg_cX11_rings_112.2.2.2.2.2.2.2.2.2.2.1
theorem dX11_rings_43 : decode cX11_rings 43 = .ok (.iload 4, 2) := dg_cX11_rings_112.2.2.2.2.2.2.2.2.2.2.2.1
theorem dX11_rings_45 : decode cX11_rings 45 = .ok (.iconst 0, 1) := dg_cX11_rings_112.2.2.2.2.2.2.2.2.2.2.2.2.1
theorem dX11_rings_46 : decode cX11_rings 46 = .ok (.invokevirtual 172, 3) := dg_cX11_rings_112.2.2.2.2.2.2.2.2.2.2.2.2.2.1
theorem dX11_rings_49 : decode cX11_rings 49 = .ok (.istore 5, 2) := dg_cX11_rings_112.2.2.2.2.2.2.2.2.2.2.2.2.2.2.1
theorem dX11_rings_51 : decode cX11_rings 51 = .ok (.aload_n 0, 1) := dg_cX11_rings_112.2.2.2.2.2.2.2.2.2.2.2.2.2.2.2
set_option maxRecDepth 100000 in
theorem dg_cX11_rings_113 : (decode cX11_rings 52 = .ok (.iload 4, 2)) ∧ (decode cX11_rings 54 = .ok (.iconst 3, 1)) ∧ (decode cX11_rings 55 = .ok (.invokevirtual 172, 3)) ∧ (decode cX11_rings 58 = .ok (.iconst 1, 1)) ∧ (decode cX11_rings 59 = .ok (.if_icmp .eq 19, 3)) ∧ (decode cX11_rings 62 = .ok (.iload_n 2, 1)) ∧ (decode cX11_rings 63 = .ok (.bipush (-4), 2)) ∧ (decode cX11_rings 65 = .ok (.if_icmp .eq 38, 3)) ∧ (decode cX11_rings 68 = .ok (.aload_n 0, 1)) ∧ (decode cX11_rings 69 = .ok (.iload_n 2, 1)) ∧ (decode cX11_rings 70 = .ok (.iload 5, 2)) ∧ (decode cX11_rings 72 = .ok (.invokevirtual 195, 3)) ∧ (decode cX11_rings 75 = .ok (.ifCond .eq 28, 3)) ∧ (decode cX11_rings 78 = .ok (.aload_n 0, 1)) ∧ (decode cX11_rings 79 = .ok (.dup, 1)) ∧ (decode cX11_rings 80 = .ok (.getfield 210, 3)) := by decide +kernel
theorem dX11_rings_52 : decode cX11_rings 52 = .ok (.iload 4, 2) := dg_cX11_rings_113.1
theorem dX11_rings_54 : decode cX11_rings 54 = .ok (.iconst 3, 1) := dg_cX11_rings_113.2.1
theorem dX11_rings_55 : decode cX11_rings 55 = .ok (.invokevirtual 172, 3) := dg_cX11_rings_113.2.2.1
theorem dX11_rings_58 : decode cX11_rings 58 = .ok (.iconst 1, 1) := dg_cX11_rings_113.2.2.2.1
theorem dX11_rings_59 : decode cX11_rings 59 = .ok (.if_icmp .eq 19, 3) := dg_cX11_rings_113.2.2.2.2.1
theorem dX11_rings_62 : decode cX11_rings 62 = .ok (.iload_n 2, 1) := dg_cX11_rings_113.2.2.2.2.2.1
theorem dX11_rings_63 : decode cX11_rings 63 = .ok (.bipush (-4), 2) := dg_cX11_rings_113.2.2.2.2.2.2.1
theorem dX11_rings_65 : decode cX11_rings 65 = .ok (.if_icmp .eq 38, 3) := dg_cX11_rings_113.2.2.2.2.2.2.2.1
theorem dX11_rings_68 : decode cX11_rings 68 = .ok (.aload_n 0, 1) := dg_cX11_rings_113.2.2.2.2.2.2.2.2.1
theorem dX11_rings_69 : decode cX11_rings 69 = .ok (.iload_n 2, 1) := dg_cX11_rings_113.2.2.2.2.2.2.2.2.2.1
theorem dX11_rings_70 : decode cX11_rings 70 = .ok (.iload 5, 2) := dg_cX11_rings_113.2.2.2.2.2.2.2.2.2.2.1
theorem dX11_rings_72 : decode cX11_rings 72 = .ok (.invokevirtual 195, 3) := dg_cX11_rings_113.2.2.2.2.2.2.2.2.2.2.2.1
theorem dX11_rings_75 : decode cX11_rings 75 = .ok (.ifCond .eq 28, 3) := dg_cX11_rings_113.2.2.2.2.2.2.2.2.2.2.2.2.1
theorem dX11_rings_78 : decode cX11_rings 78 = .ok (.aload_n 0, 1) := dg_cX11_rings_113.2.2.2.2.2.2.2.2.2.2.2.2.2.1
theorem dX11_rings_79 : decode cX11_rings 79 = .ok (.dup, 1) := dg_cX11_rings_113.2.2.2.2.2.2.2.2.2.2.2.2.2.2.1
theorem dX11_rings_80 : decode cX11_rings 80 = .ok (.getfield 210, 3) := dg_cX11_rings_113.2.2.2.2.2.2.2.2.2.2.2.2.2.2.2
set_option maxRecDepth 100000 in
theorem dg_cX11_rings_114 : (decode cX11_rings 83 = .ok (.iconst 1, 1)) ∧ (decode cX11_rings 84 = .ok (.iload_n 3, 1)) ∧ (decode cX11_rings 85 = .ok (.ishl, 1)) ∧ (decode cX11_rings 86 = .ok (.ior, 1)) ∧ (decode cX11_rings 87 = .ok (.putfield 210, 3)) ∧ (decode cX11_rings 90 = .ok (.aload_n 0, 1)) ∧ (decode cX11_rings 91 = .ok (.dup, 1)) ∧ (decode cX11_rings 92 = .ok (.getfield 213, 3)) ∧ (decode cX11_rings 95 = .ok (.iconst 1, 1)) ∧ (decode cX11_rings 96 = .ok (.iadd, 1)) ∧ (decode cX11_rings 97 = .ok (.putfield 213, 3)) ∧ (decode cX11_rings 100 = .ok (.goto 49, 3)) ∧ (decode cX11_rings 103 = .ok (.aload_n 0, 1)) ∧ (decode cX11_rings 104 = .ok (.dup, 1)) ∧ (decode cX11_rings 105 = .ok (.getfield 204, 3)) ∧ (decode cX11_rings 108 = .ok (.aload_n 0, 1)) := by decide +kernel
theorem dX11_rings_83 : decode cX11_rings 83 = .ok (.iconst 1, 1) := dg_cX11_rings_114.1
theorem dX11_rings_84 : decode cX11_rings 84 = .ok (.iload_n 3, 1) := dg_cX11_rings_114.2.1
theorem dX11_rings_85 : decode cX11_rings 85 = .ok (.ishl, 1) := dg_cX11_rings_114.2.2.1
theorem dX11_rings_86 : decode cX11_rings 86 = .ok (.ior, 1) := dg_cX11_rings_114.2.2.2.1
theorem dX11_rings_87 : decode cX11_rings 87 = .ok (.putfield 210, 3) := dg_cX11_rings_114.2.2.2.2.1
theorem dX11_rings_90 : decode cX11_rings 90 = .ok (.aload_n 0, 1) := dg_cX11_rings_114.2.2.2.2.2.1
theorem dX11_rings_91 : decode cX11_rings 91 = .ok (.dup, 1) := dg_cX11_rings_114.2.2.2.2.2.2.1
theorem dX11_rings_92 : decode cX11_rings 92 = .ok (.getfield 213, 3) := dg_cX11_rings_114.2.2.2.2.2.2.2.1
theorem dX11_rings_95 : decode cX11_rings 95 = .ok (.iconst 1, 1) := dg_cX11_rings_114.2.2.2.2.2.2.2.2.1
theorem dX11_rings_96 : decode cX11_rings 96 = .ok (.iadd, 1) := dg_cX11_rings_114.2.2.2.2.2.2.2.2.2.1
theorem dX11_rings_97 : decode cX11_rings 97 = .ok (.putfield 213, 3) := dg_cX11_rings_114.2.2.2.2.2.2.2.2.2.2.1
theorem dX11_rings_100 : decode cX11_rings 100 = .ok (.goto 49, 3) := dg_cX11_rings_114.2.2.2.2.2.2.2.2.2.2.2.1
theorem dX11_rings_103 : decode cX11_rings 103 = .ok (.aload_n 0, 1) := dg_cX11_rings_114.2.2.2.2.2.2.2.2.2.2.2.2.1
theorem dX11_rings_104 : decode cX11_rings 104 = .ok (.dup, 1) := dg_cX11_rings_114.2.2.2.2.2.2.2.2.2.2.2.2.2.1
theorem dX11_rings_105 : decode cX11_rings 105 = .ok (.getfield 204, 3) := dg_cX11_rings_114.2.2.2.2.2.2.2.2.2.2.2.2.2.2.1
theorem dX11_rings_108 : decode cX11_rings 108 = .ok (.aload_n 0, 1) := dg_cX11_rings_114.2.2.2.2.2.2.2.2.2.2.2.2.2.2.2
set_option maxRecDepth 100000 in
theorem dg_cX11_rings_115 : (decode cX11_rings 109 = .ok (.iload 4, 2)) ∧ (decode cX11_rings 111 = .ok (.iconst 1, 1)) ∧ (decode cX11_rings 112 = .ok (.invokevirtual 172, 3)) ∧ (decode cX11_rings 115 = .ok (.iadd, 1)) ∧ (decode cX11_rings 116 = .ok (.putfield 204, 3)) ∧ (decode cX11_rings 119 = .ok (.aload_n 0, 1)) ∧ (decode cX11_rings 120 = .ok (.dup, 1)) ∧ (decode cX11_rings 121 = .ok (.getfield 207, 3)) ∧ (decode cX11_rings 124 = .ok (.aload_n 0, 1)) ∧ (decode cX11_rings 125 = .ok (.iload 4, 2)) ∧ (decode cX11_rings 127 = .ok (.iconst 2, 1)) ∧ (decode cX11_rings 128 = .ok (.invokevirtual 172, 3)) ∧ (decode cX11_rings 131 = .ok (.iadd, 1)) ∧ (decode cX11_rings 132 = .ok (.putfield 207, 3)) ∧ (decode cX11_rings 135 = .ok (.aload_n 0, 1)) ∧ (decode cX11_rings 136 = .ok (.getfield 29, 3)) := by decide +kernel
theorem dX11_rings_109 : decode cX11_rings 109 = .ok (.iload 4, 2) := dg_cX11_rings_115.1
theorem dX11_rings_111 : decode cX11_rings 111 = .ok (.iconst 1, 1) := dg_cX11_rings_115.2.1
theorem dX11_rings_112 : decode cX11_rings 112 = .ok (.invokevirtual 172, 3) := dg_cX11_rings_115.2.2.1
theorem dX11_rings_115 : decode cX11_rings 115 = .ok (.iadd, 1) := dg_cX11_rings_115.2.2.2.1
theorem dX11_rings_116 : decode cX11_rings 116 = .ok (.putfield 204, 3) := dg_cX11_rings_115.2.2.2.2.1
theorem dX11_rings_119 : decode cX11_rings 119 = .ok (.aload_n 0, 1) := dg_cX11_rings_115.2.2.2.2.2.1
theorem dX11_rings_120 : decode cX11_rings 120 = .ok (.dup, 1) := dg_cX11_rings_115.2.2.2.2.2.2.1
theorem dX11_rings_121 : decode cX11_rings 121 = .ok (.getfield 207, 3) := dg_cX11_rings_115.2.2.2.2.2.2.2.1
theorem dX11_rings_124 : decode cX11_rings 124 = .ok (.aload_n 0, 1) := dg_cX11_rings_115.2.2.2.2.2.2.2.2.1
theorem dX11_rings_125 : decode cX11_rings 125 = .ok (.iload 4, 2) := dg_cX11_rings_115.2.2.2.2.2.2.2.2.2.1
theorem dX11_rings_127 : decode cX11_rings 127 = .ok (.iconst 2, 1) := dg_cX11_rings_115.2.2.2.2.2.2.2.2.2.2.1
theorem dX11_rings_128 : decode cX11_rings 128 = .ok (.invokevirtual 172, 3) := dg_cX11_rings_115.2.2.2.2.2.2.2.2.2.2.2.1
theorem dX11_rings_131 : decode cX11_rings 131 = .ok (.iadd, 1) := dg_cX11_rings_115.2.2.2.2.2.2.2.2.2.2.2.2.1
theorem dX11_rings_132 : decode cX11_rings 132 = .ok (.putfield 207, 3) := dg_cX11_rings_115.2.2.2.2.2.2.2.2.2.2.2.2.2.1
theorem dX11_rings_135 : decode cX11_rings 135 = .ok (.aload_n 0, 1) := dg_cX11_rings_115.2.2.2.2.2.2.2.2.2.2.2.2.2.2.1
theorem dX11_rings_136 : decode cX11_rings 136 = .ok (.getfield 29, 3) := dg_cX11_rings_115.2.2.2.2.2.2.2.2.2.2.2.2.2.2.2
set_option maxRecDepth 100000 in
theorem dg_cX11_rings_116 : (decode cX11_rings 139 = .ok (.iload 5, 2)) ∧ (decode cX11_rings 141 = .ok (.dup2, 1)) ∧ (decode cX11_rings 142 = .ok (.iaload, 1)) ∧ (decode cX11_rings 143 = .ok (.iconst 1, 1)) ∧ (decode cX11_rings 144 = .ok (.iadd, 1)) ∧ (decode cX11_rings 145 = .ok (.iastore, 1)) ∧ (decode cX11_rings 146 = .ok (.iload 5, 2)) ∧ (decode cX11_rings 148 = .ok (.istore_n 2, 1)) ∧ (decode cX11_rings 149 = .ok (.iinc 3 1, 3)) ∧ (decode cX11_rings 152 = .ok (.goto (-127), 3)) ∧ (decode cX11_rings 155 = .ok (.return_, 1)) := by decide +kernel
theorem dX11_rings_139 : decode cX11_rings 139 = .ok (.iload 5, 2) := dg_cX11_rings_116.1
theorem dX11_rings_141 : decode cX11_rings 141 = .ok (.dup2, 1) := dg_cX11_rings_116.2.1
theorem dX11_rings_142 : decode cX11_rings 142 = .ok (.iaload, 1) := dg_cX11_rings_116.2.2.1
theorem dX11_rings_143 : decode cX11_rings 143 = .ok (.iconst 1, 1) := dg_cX11_rings_116.2.2.2.1
theorem dX11_rings_144 : decode cX11_rings 144 = .ok (.iadd, 1) := dg_cX11_rings_116.2.2.2.2.1
theorem dX11_rings_145 : decode cX11_rings 145 = .ok (.iastore, 1) := dg_cX11_rings_116.2.2.2.2.2.1
theorem dX11_rings_146 : decode cX11_rings 146 = .ok (.iload 5, 2) := dg_cX11_rings_116.2.2.2.2.2.2.1
theorem dX11_rings_148 : decode cX11_rings 148 = .ok (.istore_n 2, 1) := dg_cX11_rings_116.2.2.2.2.2.2.2.1
theorem dX11_rings_149 : decode cX11_rings 149 = .ok (.iinc 3 1, 3) := dg_cX11_rings_116.2.2.2.2.2.2.2.2.1
theorem dX11_rings_152 : decode cX11_rings 152 = .ok (.goto (-127), 3) := dg_cX11_rings_116.2.2.2.2.2.2.2.2.2.1
theorem dX11_rings_155 : decode cX11_rings 155 = .ok (.return_, 1) := dg_cX11_rings_116.2.2.2.2.2.2.2.2.2.2
set_option maxRecDepth 100000 in
theorem dg_cX11_valueOf_117 : (decode cX11_valueOf 0 = .ok (.aload_n 0, 1)) ∧ (decode cX11_valueOf 1 = .ok (.iload_n 1, 1)) ∧ (decode cX11_valueOf 2 = .ok (.invokevirtual 216, 3)) ∧ (decode cX11_valueOf 5 = .ok (.aload_n 0, 1)) ∧ (decode cX11_valueOf 6 = .ok (.getfield 17, 3)) ∧ (decode cX11_valueOf 9 = .ok (.bipush 14, 2)) ∧ (decode cX11_valueOf 11 = .ok (.iload_n 1, 1)) ∧ (decode cX11_valueOf 12 = .ok (.imul, 1)) ∧ (decode cX11_valueOf 13 = .ok (.iaload, 1)) ∧ (decode cX11_valueOf 14 = .ok (.aload_n 0, 1)) ∧ (decode cX11_valueOf 15 = .ok (.getfield 204, 3)) ∧ (decode cX11_valueOf 18 = .ok (.isub, 1)) ∧ (decode cX11_valueOf 19 = .ok (.aload_n 0, 1)) ∧ (decode cX11_valueOf 20 = .ok (.getfield 207, 3)) ∧ (decode cX11_valueOf 23 = .ok (.isub, 1)) ∧ (decode cX11_valueOf 24 = .ok (.aload_n 0, 1)) := by decide +kernel
theorem dX11_valueOf_0 : decode cX11_valueOf 0 = .ok (.aload_n 0, 1) := dg_cX11_valueOf_117.1
theorem dX11_valueOf_1 : decode cX11_valueOf 1 = .ok (.iload_n 1, 1) := dg_cX11_valueOf_117.2.1
theorem dX11_valueOf_2 : decode cX11_valueOf 2 = .ok (.invokevirtual 216, 3) := dg_cX11_valueOf_117.2.2.1
theorem dX11_valueOf_5 : decode cX11_valueOf 5 = .ok (.aload_n 0, 1) := dg_cX11_valueOf_117.2.2.2.1
theorem dX11_valueOf_6 : decode cX11_valueOf 6 = .ok (.getfield 17, 3) := dg_cX11_valueOf_117.2.2.2.2.1
theorem dX11_valueOf_9 : decode cX11_valueOf 9 = .ok (.bipush 14, 2) := dg_cX11_valueOf_117.2.2.2.2.2.1
theorem dX11_valueOf_11 : decode cX11_valueOf 11 = .ok (.iload_n 1, 1) := dg_cX11_valueOf_117.2.2.2.2.2.2.1
theorem dX11_valueOf_12 : decode cX11_valueOf 12 = .ok (.imul, 1) := dg_cX11_valueOf_117.2.2.2.2.2.2.2.1
theorem dX11_valueOf_13 : decode cX11_valueOf 13 = .ok (.iaload, 1) := dg_cX11_valueOf_117.2.2.2.2.2.2.2.2.1
theorem dX11_valueOf_14 : decode cX11_valueOf 14 = .ok (.aload_n 0, 1) := dg_cX11_valueOf_117.2.2.2.2.2.2.2.2.2.1
theorem dX11_valueOf_15 : decode cX11_valueOf 15 = .ok (.getfield 204, 3) := dg_cX11_valueOf_117.2.2.2.2.2.2.2.2.2.2.1
theorem dX11_valueOf_18 : decode cX11_valueOf 18 = .ok (.isub, 1) := dg_cX11_valueOf_117.2.2.2.2.2.2.2.2.2.2.2.1
theorem dX11_valueOf_19 : decode cX11_valueOf 19 = .ok (.aload_n 0, 1) := dg_cX11_valueOf_117.2.2.2.2.2.2.2.2.2.2.2.2.1
theorem dX11_valueOf_20 : decode cX11_valueOf 20 = .ok (.getfield 207, 3) := dg_cX11_valueOf_117.2.2.2.2.2.2.2.2.2.2.2.2.2.1
theorem dX11_valueOf_23 : decode cX11_valueOf 23 = .ok (.isub, 1) := dg_cX11_valueOf_117.2.2.2.2.2.2.2.2.2.2.2.2.2.2.1
theorem dX11_valueOf_24 : decode cX11_valueOf 24 = .ok (.aload_n 0, 1) := dg_cX11_valueOf_117.2.2.2.2.2.2.2.2.2.2.2.2.2.2.2
set_option maxRecDepth 100000 in
theorem dg_cX11_valueOf_118 : (decode cX11_valueOf 25 = .ok (.getfield 78, 3)) ∧ (decode cX11_valueOf 28 = .ok (.aload_n 0, 1)) ∧ (decode cX11_valueOf 29 = .ok (.getfield 213, 3)) ∧ (decode cX11_valueOf 32 = .ok (.imul, 1)) ∧ (decode cX11_valueOf 33 = .ok (.isub, 1)) ∧ (decode cX11_valueOf 34 = .ok (.ireturn, 1)) := by decide +kernel
theorem dX11_valueOf_25 : decode cX11_valueOf 25 = .ok (.getfield 78, 3) := dg_cX11_valueOf_118.1
theorem dX11_valueOf_28 : decode cX11_valueOf 28 = .ok (.aload_n 0, 1) := dg_cX11_valueOf_118.2.1
theorem dX11_valueOf_29 : decode cX11_valueOf 29 = .ok (.getfield 213, 3) := dg_cX11_valueOf_118.2.2.1
theorem dX11_valueOf_32 : decode cX11_valueOf 32 = .ok (.imul, 1) := dg_cX11_valueOf_118.2.2.2.1
theorem dX11_valueOf_33 : decode cX11_valueOf 33 = .ok (.isub, 1) := dg_cX11_valueOf_118.2.2.2.2.1
theorem dX11_valueOf_34 : decode cX11_valueOf 34 = .ok (.ireturn, 1) := dg_cX11_valueOf_118.2.2.2.2.2
set_option maxRecDepth 100000 in
theorem dg_cX11_ring_119 : (decode cX11_ring 0 = .ok (.aload_n 0, 1)) ∧ (decode cX11_ring 1 = .ok (.iload_n 1, 1)) ∧ (decode cX11_ring 2 = .ok (.invokevirtual 175, 3)) ∧ (decode cX11_ring 5 = .ok (.ifCond .ne 5, 3)) ∧ (decode cX11_ring 8 = .ok (.iconst (-1), 1)) ∧ (decode cX11_ring 9 = .ok (.ireturn, 1)) ∧ (decode cX11_ring 10 = .ok (.aload_n 0, 1)) ∧ (decode cX11_ring 11 = .ok (.iload_n 1, 1)) ∧ (decode cX11_ring 12 = .ok (.invokevirtual 220, 3)) ∧ (decode cX11_ring 15 = .ok (.istore_n 3, 1)) ∧ (decode cX11_ring 16 = .ok (.iload_n 2, 1)) ∧ (decode cX11_ring 17 = .ok (.tableswitch 52 0 3 #[31, 36, 41, 46], 31)) ∧ (decode cX11_ring 48 = .ok (.aload_n 0, 1)) ∧ (decode cX11_ring 49 = .ok (.getfield 204, 3)) ∧ (decode cX11_ring 52 = .ok (.ireturn, 1)) ∧ (decode cX11_ring 53 = .ok (.aload_n 0, 1)) := by decide +kernel
theorem dX11_ring_0 : decode cX11_ring 0 = .ok (.aload_n 0, 1) := dg_cX11_ring_119.1
theorem dX11_ring_1 : decode cX11_ring 1 = .ok (.iload_n 1, 1) := dg_cX11_ring_119.2.1
theorem dX11_ring_2 : decode cX11_ring 2 = .ok (.invokevirtual 175, 3) := dg_cX11_ring_119.2.2.1
theorem dX11_ring_5 : decode cX11_ring 5 = .ok (.ifCond .ne 5, 3) := dg_cX11_ring_119.2.2.2.1
theorem dX11_ring_8 : decode cX11_ring 8 = .ok (.iconst (-1), 1) := dg_cX11_ring_119.2.2.2.2.1
theorem dX11_ring_9 : decode cX11_ring 9 = .ok (.ireturn, 1) := dg_cX11_ring_119.2.2.2.2.2.1
theorem dX11_ring_10 : decode cX11_ring 10 = .ok (.aload_n 0, 1) := dg_cX11_ring_119.2.2.2.2.2.2.1
theorem dX11_ring_11 : decode cX11_ring 11 = .ok (.iload_n 1, 1) := dg_cX11_ring_119.2.2.2.2.2.2.2.1
theorem dX11_ring_12 : decode cX11_ring 12 = .ok (.invokevirtual 220, 3) := dg_cX11_ring_119.2.2.2.2.2.2.2.2.1
theorem dX11_ring_15 : decode cX11_ring 15 = .ok (.istore_n 3, 1) := dg_cX11_ring_119.2.2.2.2.2.2.2.2.2.1
theorem dX11_ring_16 : decode cX11_ring 16 = .ok (.iload_n 2, 1) := dg_cX11_ring_119.2.2.2.2.2.2.2.2.2.2.1
theorem dX11_ring_17 : decode cX11_ring 17 = .ok (.tableswitch 52 0 3 #[31, 36, 41, 46], 31) := dg_cX11_ring_119.2.2.2.2.2.2.2.2.2.2.2.1
theorem dX11_ring_48 : decode cX11_ring 48 = .ok (.aload_n 0, 1) := dg_cX11_ring_119.2.2.2.2.2.2.2.2.2.2.2.2.1
theorem dX11_ring_49 : decode cX11_ring 49 = .ok (.getfield 204, 3) := dg_cX11_ring_119.2.2.2.2.2.2.2.2.2.2.2.2.2.1
theorem dX11_ring_52 : decode cX11_ring 52 = .ok (.ireturn, 1) := dg_cX11_ring_119.2.2.2.2.2.2.2.2.2.2.2.2.2.2.1
theorem dX11_ring_53 : decode cX11_ring 53 = .ok (.aload_n 0, 1) := dg_cX11_ring_119.2.2.2.2.2.2.2.2.2.2.2.2.2.2.2
set_option maxRecDepth 100000 in
theorem dg_cX11_ring_120 : (decode cX11_ring 54 = .ok (.getfield 210, 3)) ∧ (decode cX11_ring 57 = .ok (.ireturn, 1)) ∧ (decode cX11_ring 58 = .ok (.aload_n 0, 1)) ∧ (decode cX11_ring 59 = .ok (.getfield 207, 3)) ∧ (decode cX11_ring 62 = .ok (.ireturn, 1)) ∧ (decode cX11_ring 63 = .ok (.iload_n 3, 1)) ∧ (decode cX11_ring 64 = .ok (.sipush 1000, 3)) ∧ (decode cX11_ring 67 = .ok (.iadd, 1)) ∧ (decode cX11_ring 68 = .ok (.ireturn, 1)) ∧ (decode cX11_ring 69 = .ok (.iconst (-1), 1)) ∧ (decode cX11_ring 70 = .ok (.ireturn, 1)) := by decide +kernel
theorem dX11_ring_54 : decode cX11_ring 54 = .ok (.getfield 210, 3) := dg_cX11_ring_120.1
theorem dX11_ring_57 : decode cX11_ring 57 = .ok (.ireturn, 1) := dg_cX11_ring_120.2.1
theorem dX11_ring_58 : decode cX11_ring 58 = .ok (.aload_n 0, 1) := dg_cX11_ring_120.2.2.1
theorem dX11_ring_59 : decode cX11_ring 59 = .ok (.getfield 207, 3) := dg_cX11_ring_120.2.2.2.1
theorem dX11_ring_62 : decode cX11_ring 62 = .ok (.ireturn, 1) := dg_cX11_ring_120.2.2.2.2.1
theorem dX11_ring_63 : decode cX11_ring 63 = .ok (.iload_n 3, 1) := dg_cX11_ring_120.2.2.2.2.2.1
theorem dX11_ring_64 : decode cX11_ring 64 = .ok (.sipush 1000, 3) := dg_cX11_ring_120.2.2.2.2.2.2.1
theorem dX11_ring_67 : decode cX11_ring 67 = .ok (.iadd, 1) := dg_cX11_ring_120.2.2.2.2.2.2.2.1
theorem dX11_ring_68 : decode cX11_ring 68 = .ok (.ireturn, 1) := dg_cX11_ring_120.2.2.2.2.2.2.2.2.1
theorem dX11_ring_69 : decode cX11_ring 69 = .ok (.iconst (-1), 1) := dg_cX11_ring_120.2.2.2.2.2.2.2.2.2.1
theorem dX11_ring_70 : decode cX11_ring 70 = .ok (.ireturn, 1) := dg_cX11_ring_120.2.2.2.2.2.2.2.2.2.2
set_option maxRecDepth 100000 in
theorem dg_cX11_takenNow_121 : (decode cX11_takenNow 0 = .ok (.bipush (-4), 2)) ∧ (decode cX11_takenNow 2 = .ok (.istore_n 1, 1)) ∧ (decode cX11_takenNow 3 = .ok (.iconst 0, 1)) ∧ (decode cX11_takenNow 4 = .ok (.istore_n 2, 1)) ∧ (decode cX11_takenNow 5 = .ok (.iconst 0, 1)) ∧ (decode cX11_takenNow 6 = .ok (.istore_n 3, 1)) ∧ (decode cX11_takenNow 7 = .ok (.iload_n 3, 1)) ∧ (decode cX11_takenNow 8 = .ok (.aload_n 0, 1)) ∧ (decode cX11_takenNow 9 = .ok (.getfield 84, 3)) ∧ (decode cX11_takenNow 12 = .ok (.if_icmp .ge 41, 3)) ∧ (decode cX11_takenNow 15 = .ok (.aload_n 0, 1)) ∧ (decode cX11_takenNow 16 = .ok (.iload_n 3, 1)) ∧ (decode cX11_takenNow 17 = .ok (.invokevirtual 220, 3)) ∧ (decode cX11_takenNow 20 = .ok (.istore 4, 2)) ∧ (decode cX11_takenNow 22 = .ok (.iload 4, 2)) ∧ (decode cX11_takenNow 24 = .ok (.iload_n 2, 1)) := by decide +kernel
theorem dX11_takenNow_0 : decode cX11_takenNow 0 = .ok (.bipush (-4), 2) := dg_cX11_takenNow_121.1
theorem dX11_takenNow_2 : decode cX11_takenNow 2 = .ok (.istore_n 1, 1) := dg_cX11_takenNow_121.2.1
theorem dX11_takenNow_3 : decode cX11_takenNow 3 = .ok (.iconst 0, 1) := dg_cX11_takenNow_121.2.2.1
theorem dX11_takenNow_4 : decode cX11_takenNow 4 = .ok (.istore_n 2, 1) := dg_cX11_takenNow_121.2.2.2.1
theorem dX11_takenNow_5 : decode cX11_takenNow 5 = .ok (.iconst 0, 1) := dg_cX11_takenNow_121.2.2.2.2.1
theorem dX11_takenNow_6 : decode cX11_takenNow 6 = .ok (.istore_n 3, 1) := dg_cX11_takenNow_121.2.2.2.2.2.1
theorem dX11_takenNow_7 : decode cX11_takenNow 7 = .ok (.iload_n 3, 1) := dg_cX11_takenNow_121.2.2.2.2.2.2.1
theorem dX11_takenNow_8 : decode cX11_takenNow 8 = .ok (.aload_n 0, 1) := dg_cX11_takenNow_121.2.2.2.2.2.2.2.1
theorem dX11_takenNow_9 : decode cX11_takenNow 9 = .ok (.getfield 84, 3) := dg_cX11_takenNow_121.2.2.2.2.2.2.2.2.1
theorem dX11_takenNow_12 : decode cX11_takenNow 12 = .ok (.if_icmp .ge 41, 3) := dg_cX11_takenNow_121.2.2.2.2.2.2.2.2.2.1
theorem dX11_takenNow_15 : decode cX11_takenNow 15 = .ok (.aload_n 0, 1) := dg_cX11_takenNow_121.2.2.2.2.2.2.2.2.2.2.1
theorem dX11_takenNow_16 : decode cX11_takenNow 16 = .ok (.iload_n 3, 1) := dg_cX11_takenNow_121.2.2.2.2.2.2.2.2.2.2.2.1
theorem dX11_takenNow_17 : decode cX11_takenNow 17 = .ok (.invokevirtual 220, 3) := dg_cX11_takenNow_121.2.2.2.2.2.2.2.2.2.2.2.2.1
theorem dX11_takenNow_20 : decode cX11_takenNow 20 = .ok (.istore 4, 2) := dg_cX11_takenNow_121.2.2.2.2.2.2.2.2.2.2.2.2.2.1
theorem dX11_takenNow_22 : decode cX11_takenNow 22 = .ok (.iload 4, 2) := dg_cX11_takenNow_121.2.2.2.2.2.2.2.2.2.2.2.2.2.2.1
theorem dX11_takenNow_24 : decode cX11_takenNow 24 = .ok (.iload_n 2, 1) := dg_cX11_takenNow_121.2.2.2.2.2.2.2.2.2.2.2.2.2.2.2
set_option maxRecDepth 100000 in
theorem dg_cX11_takenNow_122 : (decode cX11_takenNow 25 = .ok (.if_icmp .le 7, 3)) ∧ (decode cX11_takenNow 28 = .ok (.iload_n 3, 1)) ∧ (decode cX11_takenNow 29 = .ok (.goto 4, 3)) ∧ (decode cX11_takenNow 32 = .ok (.iload_n 1, 1)) ∧ (decode cX11_takenNow 33 = .ok (.istore_n 1, 1)) ∧ (decode cX11_takenNow 34 = .ok (.iload 4, 2)) ∧ (decode cX11_takenNow 36 = .ok (.iload_n 2, 1)) ∧ (decode cX11_takenNow 37 = .ok (.if_icmp .le 8, 3)) ∧ (decode cX11_takenNow 40 = .ok (.iload 4, 2)) ∧ (decode cX11_takenNow 42 = .ok (.goto 4, 3)) ∧ (decode cX11_takenNow 45 = .ok (.iload_n 2, 1)) ∧ (decode cX11_takenNow 46 = .ok (.istore_n 2, 1)) ∧ (decode cX11_takenNow 47 = .ok (.iinc 3 1, 3)) ∧ (decode cX11_takenNow 50 = .ok (.goto (-43), 3)) ∧ (decode cX11_takenNow 53 = .ok (.iload_n 1, 1)) ∧ (decode cX11_takenNow 54 = .ok (.ireturn, 1)) := by decide +kernel
theorem dX11_takenNow_25 : decode cX11_takenNow 25 = .ok (.if_icmp .le 7, 3) := dg_cX11_takenNow_122.1
theorem dX11_takenNow_28 : decode cX11_takenNow 28 = .ok (.iload_n 3, 1) := dg_cX11_takenNow_122.2.1
theorem dX11_takenNow_29 : decode cX11_takenNow 29 = .ok (.goto 4, 3) := dg_cX11_takenNow_122.2.2.1
theorem dX11_takenNow_32 : decode cX11_takenNow 32 = .ok (.iload_n 1, 1) := dg_cX11_takenNow_122.2.2.2.1
theorem dX11_takenNow_33 : decode cX11_takenNow 33 = .ok (.istore_n 1, 1) := dg_cX11_takenNow_122.2.2.2.2.1
theorem dX11_takenNow_34 : decode cX11_takenNow 34 = .ok (.iload 4, 2) := dg_cX11_takenNow_122.2.2.2.2.2.1
theorem dX11_takenNow_36 : decode cX11_takenNow 36 = .ok (.iload_n 2, 1) := dg_cX11_takenNow_122.2.2.2.2.2.2.1
theorem dX11_takenNow_37 : decode cX11_takenNow 37 = .ok (.if_icmp .le 8, 3) := dg_cX11_takenNow_122.2.2.2.2.2.2.2.1
theorem dX11_takenNow_40 : decode cX11_takenNow 40 = .ok (.iload 4, 2) := dg_cX11_takenNow_122.2.2.2.2.2.2.2.2.1
theorem dX11_takenNow_42 : decode cX11_takenNow 42 = .ok (.goto 4, 3) := dg_cX11_takenNow_122.2.2.2.2.2.2.2.2.2.1
theorem dX11_takenNow_45 : decode cX11_takenNow 45 = .ok (.iload_n 2, 1) := dg_cX11_takenNow_122.2.2.2.2.2.2.2.2.2.2.1
theorem dX11_takenNow_46 : decode cX11_takenNow 46 = .ok (.istore_n 2, 1) := dg_cX11_takenNow_122.2.2.2.2.2.2.2.2.2.2.2.1
theorem dX11_takenNow_47 : decode cX11_takenNow 47 = .ok (.iinc 3 1, 3) := dg_cX11_takenNow_122.2.2.2.2.2.2.2.2.2.2.2.2.1
theorem dX11_takenNow_50 : decode cX11_takenNow 50 = .ok (.goto (-43), 3) := dg_cX11_takenNow_122.2.2.2.2.2.2.2.2.2.2.2.2.2.1
theorem dX11_takenNow_53 : decode cX11_takenNow 53 = .ok (.iload_n 1, 1) := dg_cX11_takenNow_122.2.2.2.2.2.2.2.2.2.2.2.2.2.2.1
theorem dX11_takenNow_54 : decode cX11_takenNow 54 = .ok (.ireturn, 1) := dg_cX11_takenNow_122.2.2.2.2.2.2.2.2.2.2.2.2.2.2.2
set_option maxRecDepth 100000 in
theorem dg_cX11_taken_123 : (decode cX11_taken 0 = .ok (.aload_n 0, 1)) ∧ (decode cX11_taken 1 = .ok (.invokevirtual 223, 3)) ∧ (decode cX11_taken 4 = .ok (.ireturn, 1)) := by decide +kernel
theorem dX11_taken_0 : decode cX11_taken 0 = .ok (.aload_n 0, 1) := dg_cX11_taken_123.1
theorem dX11_taken_1 : decode cX11_taken 1 = .ok (.invokevirtual 223, 3) := dg_cX11_taken_123.2.1
theorem dX11_taken_4 : decode cX11_taken 4 = .ok (.ireturn, 1) := dg_cX11_taken_123.2.2
set_option maxRecDepth 100000 in
theorem dg_cX11_getsOf_124 : (decode cX11_getsOf 0 = .ok (.aload_n 0, 1)) ∧ (decode cX11_getsOf 1 = .ok (.iload_n 2, 1)) ∧ (decode cX11_getsOf 2 = .ok (.iconst 4, 1)) ∧ (decode cX11_getsOf 3 = .ok (.invokevirtual 172, 3)) ∧ (decode cX11_getsOf 6 = .ok (.bipush (-4), 2)) ∧ (decode cX11_getsOf 8 = .ok (.if_icmp .eq 7, 3)) ∧ (decode cX11_getsOf 11 = .ok (.iconst 1, 1)) ∧ (decode cX11_getsOf 12 = .ok (.goto 4, 3)) ∧ (decode cX11_getsOf 15 = .ok (.iconst 0, 1)) ∧ (decode cX11_getsOf 16 = .ok (.istore_n 3, 1)) ∧ (decode cX11_getsOf 17 = .ok (.aload_n 0, 1)) ∧ (decode cX11_getsOf 18 = .ok (.iload_n 2, 1)) ∧ (decode cX11_getsOf 19 = .ok (.iconst 0, 1)) ∧ (decode cX11_getsOf 20 = .ok (.invokevirtual 172, 3)) ∧ (decode cX11_getsOf 23 = .ok (.iload_n 1, 1)) ∧ (decode cX11_getsOf 24 = .ok (.if_icmp .ne 27, 3)) := by decide +kernel
theorem dX11_getsOf_0 : decode cX11_getsOf 0 = .ok (.aload_n 0, 1) := dg_cX11_getsOf_124.1
theorem dX11_getsOf_1 : decode cX11_getsOf 1 = .ok (.iload_n 2, 1) := dg_cX11_getsOf_124.2.1
theorem dX11_getsOf_2 : decode cX11_getsOf 2 = .ok (.iconst 4, 1) := dg_cX11_getsOf_124.2.2.1
theorem dX11_getsOf_3 : decode cX11_getsOf 3 = .ok (.invokevirtual 172, 3) := dg_cX11_getsOf_124.2.2.2.1
theorem dX11_getsOf_6 : decode cX11_getsOf 6 = .ok (.bipush (-4), 2) := dg_cX11_getsOf_124.2.2.2.2.1
theorem dX11_getsOf_8 : decode cX11_getsOf 8 = .ok (.if_icmp .eq 7, 3) := dg_cX11_getsOf_124.2.2.2.2.2.1
theorem dX11_getsOf_11 : decode cX11_getsOf 11 = .ok (.iconst 1, 1) := dg_cX11_getsOf_124.2.2.2.2.2.2.1
theorem dX11_getsOf_12 : decode cX11_getsOf 12 = .ok (.goto 4, 3) := dg_cX11_getsOf_124.2.2.2.2.2.2.2.1
theorem dX11_getsOf_15 : decode cX11_getsOf 15 = .ok (.iconst 0, 1) := dg_cX11_getsOf_124.2.2.2.2.2.2.2.2.1
theorem dX11_getsOf_16 : decode cX11_getsOf 16 = .ok (.istore_n 3, 1) := dg_cX11_getsOf_124.2.2.2.2.2.2.2.2.2.1
theorem dX11_getsOf_17 : decode cX11_getsOf 17 = .ok (.aload_n 0, 1) := dg_cX11_getsOf_124.2.2.2.2.2.2.2.2.2.2.1
theorem dX11_getsOf_18 : decode cX11_getsOf 18 = .ok (.iload_n 2, 1) := dg_cX11_getsOf_124.2.2.2.2.2.2.2.2.2.2.2.1
theorem dX11_getsOf_19 : decode cX11_getsOf 19 = .ok (.iconst 0, 1) := dg_cX11_getsOf_124.2.2.2.2.2.2.2.2.2.2.2.2.1
theorem dX11_getsOf_20 : decode cX11_getsOf 20 = .ok (.invokevirtual 172, 3) := dg_cX11_getsOf_124.2.2.2.2.2.2.2.2.2.2.2.2.2.1
theorem dX11_getsOf_23 : decode cX11_getsOf 23 = .ok (.iload_n 1, 1) := dg_cX11_getsOf_124.2.2.2.2.2.2.2.2.2.2.2.2.2.2.1
theorem dX11_getsOf_24 : decode cX11_getsOf 24 = .ok (.if_icmp .ne 27, 3) := dg_cX11_getsOf_124.2.2.2.2.2.2.2.2.2.2.2.2.2.2.2
set_option maxRecDepth 100000 in
theorem dg_cX11_getsOf_125 : (decode cX11_getsOf 27 = .ok (.iload_n 3, 1)) ∧ (decode cX11_getsOf 28 = .ok (.ifCond .eq 12, 3)) ∧ (decode cX11_getsOf 31 = .ok (.aload_n 0, 1)) ∧ (decode cX11_getsOf 32 = .ok (.iload_n 2, 1)) ∧ (decode cX11_getsOf 33 = .ok (.iconst 1, 1)) ∧ (decode cX11_getsOf 34 = .ok (.invokevirtual 172, 3)) ∧ (decode cX11_getsOf 37 = .ok (.goto 34, 3)) ∧ (decode cX11_getsOf 40 = .ok (.iconst 2, 1)) ∧ (decode cX11_getsOf 41 = .ok (.aload_n 0, 1)) ∧ (decode cX11_getsOf 42 = .ok (.iload_n 2, 1)) ∧ (decode cX11_getsOf 43 = .ok (.iconst 1, 1)) ∧ (decode cX11_getsOf 44 = .ok (.invokevirtual 172, 3)) ∧ (decode cX11_getsOf 47 = .ok (.imul, 1)) ∧ (decode cX11_getsOf 48 = .ok (.goto 23, 3)) ∧ (decode cX11_getsOf 51 = .ok (.aload_n 0, 1)) ∧ (decode cX11_getsOf 52 = .ok (.iload_n 2, 1)) := by decide +kernel
theorem dX11_getsOf_27 : decode cX11_getsOf 27 = .ok (.iload_n 3, 1) := dg_cX11_getsOf_125.1
theorem dX11_getsOf_28 : decode cX11_getsOf 28 = .ok (.ifCond .eq 12, 3) := dg_cX11_getsOf_125.2.1
theorem dX11_getsOf_31 : decode cX11_getsOf 31 = .ok (.aload_n 0, 1) := dg_cX11_getsOf_125.2.2.1
theorem dX11_getsOf_32 : decode cX11_getsOf 32 = .ok (.iload_n 2, 1) := dg_cX11_getsOf_125.2.2.2.1
theorem dX11_getsOf_33 : decode cX11_getsOf 33 = .ok (.iconst 1, 1) := dg_cX11_getsOf_125.2.2.2.2.1
theorem dX11_getsOf_34 : decode cX11_getsOf 34 = .ok (.invokevirtual 172, 3) := dg_cX11_getsOf_125.2.2.2.2.2.1
theorem dX11_getsOf_37 : decode cX11_getsOf 37 = .ok (.goto 34, 3) := dg_cX11_getsOf_125.2.2.2.2.2.2.1
theorem dX11_getsOf_40 : decode cX11_getsOf 40 = .ok (.iconst 2, 1) := dg_cX11_getsOf_125.2.2.2.2.2.2.2.1
theorem dX11_getsOf_41 : decode cX11_getsOf 41 = .ok (.aload_n 0, 1) := dg_cX11_getsOf_125.2.2.2.2.2.2.2.2.1
theorem dX11_getsOf_42 : decode cX11_getsOf 42 = .ok (.iload_n 2, 1) := dg_cX11_getsOf_125.2.2.2.2.2.2.2.2.2.1
theorem dX11_getsOf_43 : decode cX11_getsOf 43 = .ok (.iconst 1, 1) := dg_cX11_getsOf_125.2.2.2.2.2.2.2.2.2.2.1
theorem dX11_getsOf_44 : decode cX11_getsOf 44 = .ok (.invokevirtual 172, 3) := dg_cX11_getsOf_125.2.2.2.2.2.2.2.2.2.2.2.1
theorem dX11_getsOf_47 : decode cX11_getsOf 47 = .ok (.imul, 1) := dg_cX11_getsOf_125.2.2.2.2.2.2.2.2.2.2.2.2.1
theorem dX11_getsOf_48 : decode cX11_getsOf 48 = .ok (.goto 23, 3) := dg_cX11_getsOf_125.2.2.2.2.2.2.2.2.2.2.2.2.2.1
theorem dX11_getsOf_51 : decode cX11_getsOf 51 = .ok (.aload_n 0, 1) := dg_cX11_getsOf_125.2.2.2.2.2.2.2.2.2.2.2.2.2.2.1
theorem dX11_getsOf_52 : decode cX11_getsOf 52 = .ok (.iload_n 2, 1) := dg_cX11_getsOf_125.2.2.2.2.2.2.2.2.2.2.2.2.2.2.2
set_option maxRecDepth 100000 in
theorem dg_cX11_getsOf_126 : (decode cX11_getsOf 53 = .ok (.iconst 4, 1)) ∧ (decode cX11_getsOf 54 = .ok (.invokevirtual 172, 3)) ∧ (decode cX11_getsOf 57 = .ok (.iload_n 1, 1)) ∧ (decode cX11_getsOf 58 = .ok (.if_icmp .ne 12, 3)) ∧ (decode cX11_getsOf 61 = .ok (.aload_n 0, 1)) ∧ (decode cX11_getsOf 62 = .ok (.iload_n 2, 1)) ∧ (decode cX11_getsOf 63 = .ok (.iconst 1, 1)) ∧ (decode cX11_getsOf 64 = .ok (.invokevirtual 172, 3)) ∧ (decode cX11_getsOf 67 = .ok (.goto 4, 3)) ∧ (decode cX11_getsOf 70 = .ok (.iconst 0, 1)) ∧ (decode cX11_getsOf 71 = .ok (.ireturn, 1)) := by decide +kernel
theorem dX11_getsOf_53 : decode cX11_getsOf 53 = .ok (.iconst 4, 1) := dg_cX11_getsOf_126.1
theorem dX11_getsOf_54 : decode cX11_getsOf 54 = .ok (.invokevirtual 172, 3) := dg_cX11_getsOf_126.2.1
theorem dX11_getsOf_57 : decode cX11_getsOf 57 = .ok (.iload_n 1, 1) := dg_cX11_getsOf_126.2.2.1
theorem dX11_getsOf_58 : decode cX11_getsOf 58 = .ok (.if_icmp .ne 12, 3) := dg_cX11_getsOf_126.2.2.2.1
theorem dX11_getsOf_61 : decode cX11_getsOf 61 = .ok (.aload_n 0, 1) := dg_cX11_getsOf_126.2.2.2.2.1
theorem dX11_getsOf_62 : decode cX11_getsOf 62 = .ok (.iload_n 2, 1) := dg_cX11_getsOf_126.2.2.2.2.2.1
theorem dX11_getsOf_63 : decode cX11_getsOf 63 = .ok (.iconst 1, 1) := dg_cX11_getsOf_126.2.2.2.2.2.2.1
theorem dX11_getsOf_64 : decode cX11_getsOf 64 = .ok (.invokevirtual 172, 3) := dg_cX11_getsOf_126.2.2.2.2.2.2.2.1
theorem dX11_getsOf_67 : decode cX11_getsOf 67 = .ok (.goto 4, 3) := dg_cX11_getsOf_126.2.2.2.2.2.2.2.2.1
theorem dX11_getsOf_70 : decode cX11_getsOf 70 = .ok (.iconst 0, 1) := dg_cX11_getsOf_126.2.2.2.2.2.2.2.2.2.1
theorem dX11_getsOf_71 : decode cX11_getsOf 71 = .ok (.ireturn, 1) := dg_cX11_getsOf_126.2.2.2.2.2.2.2.2.2.2
set_option maxRecDepth 100000 in
theorem dg_cX11_getsNow_127 : (decode cX11_getsNow 0 = .ok (.aload_n 0, 1)) ∧ (decode cX11_getsNow 1 = .ok (.iload_n 2, 1)) ∧ (decode cX11_getsNow 2 = .ok (.invokevirtual 216, 3)) ∧ (decode cX11_getsNow 5 = .ok (.iconst 0, 1)) ∧ (decode cX11_getsNow 6 = .ok (.istore_n 3, 1)) ∧ (decode cX11_getsNow 7 = .ok (.iconst 0, 1)) ∧ (decode cX11_getsNow 8 = .ok (.istore 4, 2)) ∧ (decode cX11_getsNow 10 = .ok (.iload 4, 2)) ∧ (decode cX11_getsNow 12 = .ok (.aload_n 0, 1)) ∧ (decode cX11_getsNow 13 = .ok (.iload_n 2, 1)) ∧ (decode cX11_getsNow 14 = .ok (.invokevirtual 180, 3)) ∧ (decode cX11_getsNow 17 = .ok (.if_icmp .ge 41, 3)) ∧ (decode cX11_getsNow 20 = .ok (.iload_n 3, 1)) ∧ (decode cX11_getsNow 21 = .ok (.aload_n 0, 1)) ∧ (decode cX11_getsNow 22 = .ok (.getfield 210, 3)) ∧ (decode cX11_getsNow 25 = .ok (.iload 4, 2)) := by decide +kernel
theorem dX11_getsNow_0 : decode cX11_getsNow 0 = .ok (.aload_n 0, 1) := dg_cX11_getsNow_127.1
theorem dX11_getsNow_1 : decode cX11_getsNow 1 = .ok (.iload_n 2, 1) := dg_cX11_getsNow_127.2.1
theorem dX11_getsNow_2 : decode cX11_getsNow 2 = .ok (.invokevirtual 216, 3) := dg_cX11_getsNow_127.2.2.1
theorem dX11_getsNow_5 : decode cX11_getsNow 5 = .ok (.iconst 0, 1) := dg_cX11_getsNow_127.2.2.2.1
theorem dX11_getsNow_6 : decode cX11_getsNow 6 = .ok (.istore_n 3, 1) := dg_cX11_getsNow_127.2.2.2.2.1
theorem dX11_getsNow_7 : decode cX11_getsNow 7 = .ok (.iconst 0, 1) := dg_cX11_getsNow_127.2.2.2.2.2.1
theorem dX11_getsNow_8 : decode cX11_getsNow 8 = .ok (.istore 4, 2) := dg_cX11_getsNow_127.2.2.2.2.2.2.1
theorem dX11_getsNow_10 : decode cX11_getsNow 10 = .ok (.iload 4, 2) := dg_cX11_getsNow_127.2.2.2.2.2.2.2.1
theorem dX11_getsNow_12 : decode cX11_getsNow 12 = .ok (.aload_n 0, 1) := dg_cX11_getsNow_127.2.2.2.2.2.2.2.2.1
theorem dX11_getsNow_13 : decode cX11_getsNow 13 = .ok (.iload_n 2, 1) := dg_cX11_getsNow_127.2.2.2.2.2.2.2.2.2.1
theorem dX11_getsNow_14 : decode cX11_getsNow 14 = .ok (.invokevirtual 180, 3) := dg_cX11_getsNow_127.2.2.2.2.2.2.2.2.2.2.1
theorem dX11_getsNow_17 : decode cX11_getsNow 17 = .ok (.if_icmp .ge 41, 3) := dg_cX11_getsNow_127.2.2.2.2.2.2.2.2.2.2.2.1
theorem dX11_getsNow_20 : decode cX11_getsNow 20 = .ok (.iload_n 3, 1) := dg_cX11_getsNow_127.2.2.2.2.2.2.2.2.2.2.2.2.1
theorem dX11_getsNow_21 : decode cX11_getsNow 21 = .ok (.aload_n 0, 1) := dg_cX11_getsNow_127.2.2.2.2.2.2.2.2.2.2.2.2.2.1
theorem dX11_getsNow_22 : decode cX11_getsNow 22 = .ok (.getfield 210, 3) := dg_cX11_getsNow_127.2.2.2.2.2.2.2.2.2.2.2.2.2.2.1
theorem dX11_getsNow_25 : decode cX11_getsNow 25 = .ok (.iload 4, 2) := dg_cX11_getsNow_127.2.2.2.2.2.2.2.2.2.2.2.2.2.2.2
set_option maxRecDepth 100000 in
theorem dg_cX11_getsNow_128 : (decode cX11_getsNow 27 = .ok (.ishr, 1)) ∧ (decode cX11_getsNow 28 = .ok (.iconst 1, 1)) ∧ (decode cX11_getsNow 29 = .ok (.iand, 1)) ∧ (decode cX11_getsNow 30 = .ok (.iconst 1, 1)) ∧ (decode cX11_getsNow 31 = .ok (.if_icmp .ne 7, 3)) ∧ (decode cX11_getsNow 34 = .ok (.iconst 0, 1)) ∧ (decode cX11_getsNow 35 = .ok (.goto 15, 3)) ∧ (decode cX11_getsNow 38 = .ok (.aload_n 0, 1)) ∧ (decode cX11_getsNow 39 = .ok (.iload_n 1, 1)) ∧ (decode cX11_getsNow 40 = .ok (.aload_n 0, 1)) ∧ (decode cX11_getsNow 41 = .ok (.iload_n 2, 1)) ∧ (decode cX11_getsNow 42 = .ok (.iload 4, 2)) ∧ (decode cX11_getsNow 44 = .ok (.invokevirtual 183, 3)) ∧ (decode cX11_getsNow 47 = .ok (.invokevirtual 226, 3)) ∧ (decode cX11_getsNow 50 = .ok (.iadd, 1)) ∧ (decode cX11_getsNow 51 = .ok (.istore_n 3, 1)) := by decide +kernel
theorem dX11_getsNow_27 : decode cX11_getsNow 27 = .ok (.ishr, 1) := dg_cX11_getsNow_128.1
theorem dX11_getsNow_28 : decode cX11_getsNow 28 = .ok (.iconst 1, 1) := dg_cX11_getsNow_128.2.1
theorem dX11_getsNow_29 : decode cX11_getsNow 29 = .ok (.iand, 1) := dg_cX11_getsNow_128.2.2.1
theorem dX11_getsNow_30 : decode cX11_getsNow 30 = .ok (.iconst 1, 1) := dg_cX11_getsNow_128.2.2.2.1
theorem dX11_getsNow_31 : decode cX11_getsNow 31 = .ok (.if_icmp .ne 7, 3) := dg_cX11_getsNow_128.2.2.2.2.1
theorem dX11_getsNow_34 : decode cX11_getsNow 34 = .ok (.iconst 0, 1) := dg_cX11_getsNow_128.2.2.2.2.2.1
theorem dX11_getsNow_35 : decode cX11_getsNow 35 = .ok (.goto 15, 3) := dg_cX11_getsNow_128.2.2.2.2.2.2.1
theorem dX11_getsNow_38 : decode cX11_getsNow 38 = .ok (.aload_n 0, 1) := dg_cX11_getsNow_128.2.2.2.2.2.2.2.1
theorem dX11_getsNow_39 : decode cX11_getsNow 39 = .ok (.iload_n 1, 1) := dg_cX11_getsNow_128.2.2.2.2.2.2.2.2.1
theorem dX11_getsNow_40 : decode cX11_getsNow 40 = .ok (.aload_n 0, 1) := dg_cX11_getsNow_128.2.2.2.2.2.2.2.2.2.1
theorem dX11_getsNow_41 : decode cX11_getsNow 41 = .ok (.iload_n 2, 1) := dg_cX11_getsNow_128.2.2.2.2.2.2.2.2.2.2.1
theorem dX11_getsNow_42 : decode cX11_getsNow 42 = .ok (.iload 4, 2) := dg_cX11_getsNow_128.2.2.2.2.2.2.2.2.2.2.2.1
theorem dX11_getsNow_44 : decode cX11_getsNow 44 = .ok (.invokevirtual 183, 3) := dg_cX11_getsNow_128.2.2.2.2.2.2.2.2.2.2.2.2.1
theorem dX11_getsNow_47 : decode cX11_getsNow 47 = .ok (.invokevirtual 226, 3) := dg_cX11_getsNow_128.2.2.2.2.2.2.2.2.2.2.2.2.2.1
theorem dX11_getsNow_50 : decode cX11_getsNow 50 = .ok (.iadd, 1) := dg_cX11_getsNow_128.2.2.2.2.2.2.2.2.2.2.2.2.2.2.1
theorem dX11_getsNow_51 : decode cX11_getsNow 51 = .ok (.istore_n 3, 1) := dg_cX11_getsNow_128.2.2.2.2.2.2.2.2.2.2.2.2.2.2.2
set_option maxRecDepth 100000 in
theorem dg_cX11_getsNow_129 : (decode cX11_getsNow 52 = .ok (.iinc 4 1, 3)) ∧ (decode cX11_getsNow 55 = .ok (.goto (-45), 3)) ∧ (decode cX11_getsNow 58 = .ok (.iload_n 3, 1)) ∧ (decode cX11_getsNow 59 = .ok (.ireturn, 1)) := by decide +kernel
theorem dX11_getsNow_52 : decode cX11_getsNow 52 = .ok (.iinc 4 1, 3) := dg_cX11_getsNow_129.1
theorem dX11_getsNow_55 : decode cX11_getsNow 55 = .ok (.goto (-45), 3) := dg_cX11_getsNow_129.2.1
theorem dX11_getsNow_58 : decode cX11_getsNow 58 = .ok (.iload_n 3, 1) := dg_cX11_getsNow_129.2.2.1
theorem dX11_getsNow_59 : decode cX11_getsNow 59 = .ok (.ireturn, 1) := dg_cX11_getsNow_129.2.2.2
set_option maxRecDepth 100000 in
theorem dg_cX11_gets_130 : (decode cX11_gets 0 = .ok (.aload_n 0, 1)) ∧ (decode cX11_gets 1 = .ok (.iload_n 1, 1)) ∧ (decode cX11_gets 2 = .ok (.invokevirtual 186, 3)) ∧ (decode cX11_gets 5 = .ok (.ifCond .eq 20, 3)) ∧ (decode cX11_gets 8 = .ok (.aload_n 0, 1)) ∧ (decode cX11_gets 9 = .ok (.iload_n 2, 1)) ∧ (decode cX11_gets 10 = .ok (.invokevirtual 175, 3)) ∧ (decode cX11_gets 13 = .ok (.ifCond .eq 12, 3)) ∧ (decode cX11_gets 16 = .ok (.aload_n 0, 1)) ∧ (decode cX11_gets 17 = .ok (.iload_n 1, 1)) ∧ (decode cX11_gets 18 = .ok (.iload_n 2, 1)) ∧ (decode cX11_gets 19 = .ok (.invokevirtual 229, 3)) ∧ (decode cX11_gets 22 = .ok (.goto 4, 3)) ∧ (decode cX11_gets 25 = .ok (.iconst (-1), 1)) ∧ (decode cX11_gets 26 = .ok (.ireturn, 1)) := by decide +kernel
theorem dX11_gets_0 : decode cX11_gets 0 = .ok (.aload_n 0, 1) := dg_cX11_gets_130.1
theorem dX11_gets_1 : decode cX11_gets 1 = .ok (.iload_n 1, 1) := dg_cX11_gets_130.2.1
theorem dX11_gets_2 : decode cX11_gets 2 = .ok (.invokevirtual 186, 3) := dg_cX11_gets_130.2.2.1
theorem dX11_gets_5 : decode cX11_gets 5 = .ok (.ifCond .eq 20, 3) := dg_cX11_gets_130.2.2.2.1
theorem dX11_gets_8 : decode cX11_gets 8 = .ok (.aload_n 0, 1) := dg_cX11_gets_130.2.2.2.2.1
theorem dX11_gets_9 : decode cX11_gets 9 = .ok (.iload_n 2, 1) := dg_cX11_gets_130.2.2.2.2.2.1
theorem dX11_gets_10 : decode cX11_gets 10 = .ok (.invokevirtual 175, 3) := dg_cX11_gets_130.2.2.2.2.2.2.1
theorem dX11_gets_13 : decode cX11_gets 13 = .ok (.ifCond .eq 12, 3) := dg_cX11_gets_130.2.2.2.2.2.2.2.1
theorem dX11_gets_16 : decode cX11_gets 16 = .ok (.aload_n 0, 1) := dg_cX11_gets_130.2.2.2.2.2.2.2.2.1
theorem dX11_gets_17 : decode cX11_gets 17 = .ok (.iload_n 1, 1) := dg_cX11_gets_130.2.2.2.2.2.2.2.2.2.1
theorem dX11_gets_18 : decode cX11_gets 18 = .ok (.iload_n 2, 1) := dg_cX11_gets_130.2.2.2.2.2.2.2.2.2.2.1
theorem dX11_gets_19 : decode cX11_gets 19 = .ok (.invokevirtual 229, 3) := dg_cX11_gets_130.2.2.2.2.2.2.2.2.2.2.2.1
theorem dX11_gets_22 : decode cX11_gets 22 = .ok (.goto 4, 3) := dg_cX11_gets_130.2.2.2.2.2.2.2.2.2.2.2.2.1
theorem dX11_gets_25 : decode cX11_gets 25 = .ok (.iconst (-1), 1) := dg_cX11_gets_130.2.2.2.2.2.2.2.2.2.2.2.2.2.1
theorem dX11_gets_26 : decode cX11_gets 26 = .ok (.ireturn, 1) := dg_cX11_gets_130.2.2.2.2.2.2.2.2.2.2.2.2.2.2
set_option maxRecDepth 100000 in
theorem dg_cX11_wageOf_131 : (decode cX11_wageOf 0 = .ok (.aload_n 0, 1)) ∧ (decode cX11_wageOf 1 = .ok (.invokevirtual 223, 3)) ∧ (decode cX11_wageOf 4 = .ok (.istore_n 2, 1)) ∧ (decode cX11_wageOf 5 = .ok (.iload_n 2, 1)) ∧ (decode cX11_wageOf 6 = .ok (.bipush (-4), 2)) ∧ (decode cX11_wageOf 8 = .ok (.if_icmp .ne 7, 3)) ∧ (decode cX11_wageOf 11 = .ok (.iconst 0, 1)) ∧ (decode cX11_wageOf 12 = .ok (.goto 9, 3)) ∧ (decode cX11_wageOf 15 = .ok (.aload_n 0, 1)) ∧ (decode cX11_wageOf 16 = .ok (.iload_n 1, 1)) ∧ (decode cX11_wageOf 17 = .ok (.iload_n 2, 1)) ∧ (decode cX11_wageOf 18 = .ok (.invokevirtual 229, 3)) ∧ (decode cX11_wageOf 21 = .ok (.ireturn, 1)) := by decide +kernel
theorem dX11_wageOf_0 : decode cX11_wageOf 0 = .ok (.aload_n 0, 1) := dg_cX11_wageOf_131.1
theorem dX11_wageOf_1 : decode cX11_wageOf 1 = .ok (.invokevirtual 223, 3) := dg_cX11_wageOf_131.2.1
theorem dX11_wageOf_4 : decode cX11_wageOf 4 = .ok (.istore_n 2, 1) := dg_cX11_wageOf_131.2.2.1
theorem dX11_wageOf_5 : decode cX11_wageOf 5 = .ok (.iload_n 2, 1) := dg_cX11_wageOf_131.2.2.2.1
theorem dX11_wageOf_6 : decode cX11_wageOf 6 = .ok (.bipush (-4), 2) := dg_cX11_wageOf_131.2.2.2.2.1
theorem dX11_wageOf_8 : decode cX11_wageOf 8 = .ok (.if_icmp .ne 7, 3) := dg_cX11_wageOf_131.2.2.2.2.2.1
theorem dX11_wageOf_11 : decode cX11_wageOf 11 = .ok (.iconst 0, 1) := dg_cX11_wageOf_131.2.2.2.2.2.2.1
theorem dX11_wageOf_12 : decode cX11_wageOf 12 = .ok (.goto 9, 3) := dg_cX11_wageOf_131.2.2.2.2.2.2.2.1
theorem dX11_wageOf_15 : decode cX11_wageOf 15 = .ok (.aload_n 0, 1) := dg_cX11_wageOf_131.2.2.2.2.2.2.2.2.1
theorem dX11_wageOf_16 : decode cX11_wageOf 16 = .ok (.iload_n 1, 1) := dg_cX11_wageOf_131.2.2.2.2.2.2.2.2.2.1
theorem dX11_wageOf_17 : decode cX11_wageOf 17 = .ok (.iload_n 2, 1) := dg_cX11_wageOf_131.2.2.2.2.2.2.2.2.2.2.1
theorem dX11_wageOf_18 : decode cX11_wageOf 18 = .ok (.invokevirtual 229, 3) := dg_cX11_wageOf_131.2.2.2.2.2.2.2.2.2.2.2.1
theorem dX11_wageOf_21 : decode cX11_wageOf 21 = .ok (.ireturn, 1) := dg_cX11_wageOf_131.2.2.2.2.2.2.2.2.2.2.2.2
set_option maxRecDepth 100000 in
theorem dg_cX11_wage_132 : (decode cX11_wage 0 = .ok (.aload_n 0, 1)) ∧ (decode cX11_wage 1 = .ok (.iload_n 1, 1)) ∧ (decode cX11_wage 2 = .ok (.invokevirtual 186, 3)) ∧ (decode cX11_wage 5 = .ok (.ifCond .eq 11, 3)) ∧ (decode cX11_wage 8 = .ok (.aload_n 0, 1)) ∧ (decode cX11_wage 9 = .ok (.iload_n 1, 1)) ∧ (decode cX11_wage 10 = .ok (.invokevirtual 232, 3)) ∧ (decode cX11_wage 13 = .ok (.goto 4, 3)) ∧ (decode cX11_wage 16 = .ok (.iconst (-1), 1)) ∧ (decode cX11_wage 17 = .ok (.ireturn, 1)) := by decide +kernel
theorem dX11_wage_0 : decode cX11_wage 0 = .ok (.aload_n 0, 1) := dg_cX11_wage_132.1
theorem dX11_wage_1 : decode cX11_wage 1 = .ok (.iload_n 1, 1) := dg_cX11_wage_132.2.1
theorem dX11_wage_2 : decode cX11_wage 2 = .ok (.invokevirtual 186, 3) := dg_cX11_wage_132.2.2.1
theorem dX11_wage_5 : decode cX11_wage 5 = .ok (.ifCond .eq 11, 3) := dg_cX11_wage_132.2.2.2.1
theorem dX11_wage_8 : decode cX11_wage 8 = .ok (.aload_n 0, 1) := dg_cX11_wage_132.2.2.2.2.1
theorem dX11_wage_9 : decode cX11_wage 9 = .ok (.iload_n 1, 1) := dg_cX11_wage_132.2.2.2.2.2.1
theorem dX11_wage_10 : decode cX11_wage 10 = .ok (.invokevirtual 232, 3) := dg_cX11_wage_132.2.2.2.2.2.2.1
theorem dX11_wage_13 : decode cX11_wage 13 = .ok (.goto 4, 3) := dg_cX11_wage_132.2.2.2.2.2.2.2.1
theorem dX11_wage_16 : decode cX11_wage 16 = .ok (.iconst (-1), 1) := dg_cX11_wage_132.2.2.2.2.2.2.2.2.1
theorem dX11_wage_17 : decode cX11_wage 17 = .ok (.ireturn, 1) := dg_cX11_wage_132.2.2.2.2.2.2.2.2.2
set_option maxRecDepth 100000 in
theorem dg_cX11_asks_133 : (decode cX11_asks 0 = .ok (.iconst 0, 1)) ∧ (decode cX11_asks 1 = .ok (.istore_n 3, 1)) ∧ (decode cX11_asks 2 = .ok (.iload_n 3, 1)) ∧ (decode cX11_asks 3 = .ok (.aload_n 0, 1)) ∧ (decode cX11_asks 4 = .ok (.getfield 81, 3)) ∧ (decode cX11_asks 7 = .ok (.if_icmp .ge 39, 3)) ∧ (decode cX11_asks 10 = .ok (.aload_n 0, 1)) ∧ (decode cX11_asks 11 = .ok (.getfield 7, 3)) ∧ (decode cX11_asks 14 = .ok (.iconst 5, 1)) ∧ (decode cX11_asks 15 = .ok (.iload_n 3, 1)) ∧ (decode cX11_asks 16 = .ok (.imul, 1)) ∧ (decode cX11_asks 17 = .ok (.iconst 1, 1)) ∧ (decode cX11_asks 18 = .ok (.iadd, 1)) ∧ (decode cX11_asks 19 = .ok (.aload_n 0, 1)) ∧ (decode cX11_asks 20 = .ok (.iload_n 3, 1)) ∧ (decode cX11_asks 21 = .ok (.iconst 0, 1)) := by decide +kernel
theorem dX11_asks_0 : decode cX11_asks 0 = .ok (.iconst 0, 1) := dg_cX11_asks_133.1
theorem dX11_asks_1 : decode cX11_asks 1 = .ok (.istore_n 3, 1) := dg_cX11_asks_133.2.1
theorem dX11_asks_2 : decode cX11_asks 2 = .ok (.iload_n 3, 1) := dg_cX11_asks_133.2.2.1
theorem dX11_asks_3 : decode cX11_asks 3 = .ok (.aload_n 0, 1) := dg_cX11_asks_133.2.2.2.1
theorem dX11_asks_4 : decode cX11_asks 4 = .ok (.getfield 81, 3) := dg_cX11_asks_133.2.2.2.2.1
theorem dX11_asks_7 : decode cX11_asks 7 = .ok (.if_icmp .ge 39, 3) := dg_cX11_asks_133.2.2.2.2.2.1
theorem dX11_asks_10 : decode cX11_asks 10 = .ok (.aload_n 0, 1) := dg_cX11_asks_133.2.2.2.2.2.2.1
theorem dX11_asks_11 : decode cX11_asks 11 = .ok (.getfield 7, 3) := dg_cX11_asks_133.2.2.2.2.2.2.2.1
theorem dX11_asks_14 : decode cX11_asks 14 = .ok (.iconst 5, 1) := dg_cX11_asks_133.2.2.2.2.2.2.2.2.1
theorem dX11_asks_15 : decode cX11_asks 15 = .ok (.iload_n 3, 1) := dg_cX11_asks_133.2.2.2.2.2.2.2.2.2.1
theorem dX11_asks_16 : decode cX11_asks 16 = .ok (.imul, 1) := dg_cX11_asks_133.2.2.2.2.2.2.2.2.2.2.1
theorem dX11_asks_17 : decode cX11_asks 17 = .ok (.iconst 1, 1) := dg_cX11_asks_133.2.2.2.2.2.2.2.2.2.2.2.1
theorem dX11_asks_18 : decode cX11_asks 18 = .ok (.iadd, 1) := dg_cX11_asks_133.2.2.2.2.2.2.2.2.2.2.2.2.1
theorem dX11_asks_19 : decode cX11_asks 19 = .ok (.aload_n 0, 1) := dg_cX11_asks_133.2.2.2.2.2.2.2.2.2.2.2.2.2.1
theorem dX11_asks_20 : decode cX11_asks 20 = .ok (.iload_n 3, 1) := dg_cX11_asks_133.2.2.2.2.2.2.2.2.2.2.2.2.2.2.1
theorem dX11_asks_21 : decode cX11_asks 21 = .ok (.iconst 0, 1) := dg_cX11_asks_133.2.2.2.2.2.2.2.2.2.2.2.2.2.2.2
set_option maxRecDepth 100000 in
theorem dg_cX11_asks_134 : (decode cX11_asks 22 = .ok (.invokevirtual 172, 3)) ∧ (decode cX11_asks 25 = .ok (.iload_n 1, 1)) ∧ (decode cX11_asks 26 = .ok (.if_icmp .ne 7, 3)) ∧ (decode cX11_asks 29 = .ok (.iload_n 2, 1)) ∧ (decode cX11_asks 30 = .ok (.goto 9, 3)) ∧ (decode cX11_asks 33 = .ok (.aload_n 0, 1)) ∧ (decode cX11_asks 34 = .ok (.iload_n 3, 1)) ∧ (decode cX11_asks 35 = .ok (.iconst 1, 1)) ∧ (decode cX11_asks 36 = .ok (.invokevirtual 172, 3)) ∧ (decode cX11_asks 39 = .ok (.iastore, 1)) ∧ (decode cX11_asks 40 = .ok (.iinc 3 1, 3)) ∧ (decode cX11_asks 43 = .ok (.goto (-41), 3)) ∧ (decode cX11_asks 46 = .ok (.return_, 1)) := by decide +kernel
theorem dX11_asks_22 : decode cX11_asks 22 = .ok (.invokevirtual 172, 3) := dg_cX11_asks_134.1
theorem dX11_asks_25 : decode cX11_asks 25 = .ok (.iload_n 1, 1) := dg_cX11_asks_134.2.1
theorem dX11_asks_26 : decode cX11_asks 26 = .ok (.if_icmp .ne 7, 3) := dg_cX11_asks_134.2.2.1
theorem dX11_asks_29 : decode cX11_asks 29 = .ok (.iload_n 2, 1) := dg_cX11_asks_134.2.2.2.1
theorem dX11_asks_30 : decode cX11_asks 30 = .ok (.goto 9, 3) := dg_cX11_asks_134.2.2.2.2.1
theorem dX11_asks_33 : decode cX11_asks 33 = .ok (.aload_n 0, 1) := dg_cX11_asks_134.2.2.2.2.2.1
theorem dX11_asks_34 : decode cX11_asks 34 = .ok (.iload_n 3, 1) := dg_cX11_asks_134.2.2.2.2.2.2.1
theorem dX11_asks_35 : decode cX11_asks 35 = .ok (.iconst 1, 1) := dg_cX11_asks_134.2.2.2.2.2.2.2.1
theorem dX11_asks_36 : decode cX11_asks 36 = .ok (.invokevirtual 172, 3) := dg_cX11_asks_134.2.2.2.2.2.2.2.2.1
theorem dX11_asks_39 : decode cX11_asks 39 = .ok (.iastore, 1) := dg_cX11_asks_134.2.2.2.2.2.2.2.2.2.1
theorem dX11_asks_40 : decode cX11_asks 40 = .ok (.iinc 3 1, 3) := dg_cX11_asks_134.2.2.2.2.2.2.2.2.2.2.1
theorem dX11_asks_43 : decode cX11_asks 43 = .ok (.goto (-41), 3) := dg_cX11_asks_134.2.2.2.2.2.2.2.2.2.2.2.1
theorem dX11_asks_46 : decode cX11_asks 46 = .ok (.return_, 1) := dg_cX11_asks_134.2.2.2.2.2.2.2.2.2.2.2.2
set_option maxRecDepth 100000 in
theorem dg_cX11_askOf_135 : (decode cX11_askOf 0 = .ok (.iconst 0, 1)) ∧ (decode cX11_askOf 1 = .ok (.istore_n 3, 1)) ∧ (decode cX11_askOf 2 = .ok (.iload_n 3, 1)) ∧ (decode cX11_askOf 3 = .ok (.aload_n 0, 1)) ∧ (decode cX11_askOf 4 = .ok (.getfield 81, 3)) ∧ (decode cX11_askOf 7 = .ok (.if_icmp .ge 21, 3)) ∧ (decode cX11_askOf 10 = .ok (.aload_n 0, 1)) ∧ (decode cX11_askOf 11 = .ok (.getfield 32, 3)) ∧ (decode cX11_askOf 14 = .ok (.iload_n 3, 1)) ∧ (decode cX11_askOf 15 = .ok (.aload_n 0, 1)) ∧ (decode cX11_askOf 16 = .ok (.iload_n 3, 1)) ∧ (decode cX11_askOf 17 = .ok (.iconst 1, 1)) ∧ (decode cX11_askOf 18 = .ok (.invokevirtual 172, 3)) ∧ (decode cX11_askOf 21 = .ok (.iastore, 1)) ∧ (decode cX11_askOf 22 = .ok (.iinc 3 1, 3)) ∧ (decode cX11_askOf 25 = .ok (.goto (-23), 3)) := by decide +kernel
theorem dX11_askOf_0 : decode cX11_askOf 0 = .ok (.iconst 0, 1) := dg_cX11_askOf_135.1
theorem dX11_askOf_1 : decode cX11_askOf 1 = .ok (.istore_n 3, 1) := dg_cX11_askOf_135.2.1
theorem dX11_askOf_2 : decode cX11_askOf 2 = .ok (.iload_n 3, 1) := dg_cX11_askOf_135.2.2.1
theorem dX11_askOf_3 : decode cX11_askOf 3 = .ok (.aload_n 0, 1) := dg_cX11_askOf_135.2.2.2.1
theorem dX11_askOf_4 : decode cX11_askOf 4 = .ok (.getfield 81, 3) := dg_cX11_askOf_135.2.2.2.2.1
theorem dX11_askOf_7 : decode cX11_askOf 7 = .ok (.if_icmp .ge 21, 3) := dg_cX11_askOf_135.2.2.2.2.2.1
theorem dX11_askOf_10 : decode cX11_askOf 10 = .ok (.aload_n 0, 1) := dg_cX11_askOf_135.2.2.2.2.2.2.1
theorem dX11_askOf_11 : decode cX11_askOf 11 = .ok (.getfield 32, 3) := dg_cX11_askOf_135.2.2.2.2.2.2.2.1
theorem dX11_askOf_14 : decode cX11_askOf 14 = .ok (.iload_n 3, 1) := dg_cX11_askOf_135.2.2.2.2.2.2.2.2.1
theorem dX11_askOf_15 : decode cX11_askOf 15 = .ok (.aload_n 0, 1) := dg_cX11_askOf_135.2.2.2.2.2.2.2.2.2.1
theorem dX11_askOf_16 : decode cX11_askOf 16 = .ok (.iload_n 3, 1) := dg_cX11_askOf_135.2.2.2.2.2.2.2.2.2.2.1
theorem dX11_askOf_17 : decode cX11_askOf 17 = .ok (.iconst 1, 1) := dg_cX11_askOf_135.2.2.2.2.2.2.2.2.2.2.2.1
theorem dX11_askOf_18 : decode cX11_askOf 18 = .ok (.invokevirtual 172, 3) := dg_cX11_askOf_135.2.2.2.2.2.2.2.2.2.2.2.2.1
theorem dX11_askOf_21 : decode cX11_askOf 21 = .ok (.iastore, 1) := dg_cX11_askOf_135.2.2.2.2.2.2.2.2.2.2.2.2.2.1
theorem dX11_askOf_22 : decode cX11_askOf 22 = .ok (.iinc 3 1, 3) := dg_cX11_askOf_135.2.2.2.2.2.2.2.2.2.2.2.2.2.2.1
theorem dX11_askOf_25 : decode cX11_askOf 25 = .ok (.goto (-23), 3) := dg_cX11_askOf_135.2.2.2.2.2.2.2.2.2.2.2.2.2.2.2
set_option maxRecDepth 100000 in
theorem dg_cX11_askOf_136 : (decode cX11_askOf 28 = .ok (.aload_n 0, 1)) ∧ (decode cX11_askOf 29 = .ok (.iload_n 1, 1)) ∧ (decode cX11_askOf 30 = .ok (.iload_n 2, 1)) ∧ (decode cX11_askOf 31 = .ok (.invokevirtual 235, 3)) ∧ (decode cX11_askOf 34 = .ok (.aload_n 0, 1)) ∧ (decode cX11_askOf 35 = .ok (.iload_n 1, 1)) ∧ (decode cX11_askOf 36 = .ok (.invokevirtual 232, 3)) ∧ (decode cX11_askOf 39 = .ok (.istore_n 3, 1)) ∧ (decode cX11_askOf 40 = .ok (.iconst 0, 1)) ∧ (decode cX11_askOf 41 = .ok (.istore 4, 2)) ∧ (decode cX11_askOf 43 = .ok (.iload 4, 2)) ∧ (decode cX11_askOf 45 = .ok (.aload_n 0, 1)) ∧ (decode cX11_askOf 46 = .ok (.getfield 81, 3)) ∧ (decode cX11_askOf 49 = .ok (.if_icmp .ge 27, 3)) ∧ (decode cX11_askOf 52 = .ok (.aload_n 0, 1)) ∧ (decode cX11_askOf 53 = .ok (.getfield 7, 3)) := by decide +kernel
theorem dX11_askOf_28 : decode cX11_askOf 28 = .ok (.aload_n 0, 1) := dg_cX11_askOf_136.1
theorem dX11_askOf_29 : decode cX11_askOf 29 = .ok (.iload_n 1, 1) := dg_cX11_askOf_136.2.1
theorem dX11_askOf_30 : decode cX11_askOf 30 = .ok (.iload_n 2, 1) := dg_cX11_askOf_136.2.2.1
theorem dX11_askOf_31 : decode cX11_askOf 31 = .ok (.invokevirtual 235, 3) := dg_cX11_askOf_136.2.2.2.1
theorem dX11_askOf_34 : decode cX11_askOf 34 = .ok (.aload_n 0, 1) := dg_cX11_askOf_136.2.2.2.2.1
theorem dX11_askOf_35 : decode cX11_askOf 35 = .ok (.iload_n 1, 1) := dg_cX11_askOf_136.2.2.2.2.2.1
theorem dX11_askOf_36 : decode cX11_askOf 36 = .ok (.invokevirtual 232, 3) := dg_cX11_askOf_136.2.2.2.2.2.2.1
theorem dX11_askOf_39 : decode cX11_askOf 39 = .ok (.istore_n 3, 1) := dg_cX11_askOf_136.2.2.2.2.2.2.2.1
theorem dX11_askOf_40 : decode cX11_askOf 40 = .ok (.iconst 0, 1) := dg_cX11_askOf_136.2.2.2.2.2.2.2.2.1
theorem dX11_askOf_41 : decode cX11_askOf 41 = .ok (.istore 4, 2) := dg_cX11_askOf_136.2.2.2.2.2.2.2.2.2.1
theorem dX11_askOf_43 : decode cX11_askOf 43 = .ok (.iload 4, 2) := dg_cX11_askOf_136.2.2.2.2.2.2.2.2.2.2.1
theorem dX11_askOf_45 : decode cX11_askOf 45 = .ok (.aload_n 0, 1) := dg_cX11_askOf_136.2.2.2.2.2.2.2.2.2.2.2.1
theorem dX11_askOf_46 : decode cX11_askOf 46 = .ok (.getfield 81, 3) := dg_cX11_askOf_136.2.2.2.2.2.2.2.2.2.2.2.2.1
theorem dX11_askOf_49 : decode cX11_askOf 49 = .ok (.if_icmp .ge 27, 3) := dg_cX11_askOf_136.2.2.2.2.2.2.2.2.2.2.2.2.2.1
theorem dX11_askOf_52 : decode cX11_askOf 52 = .ok (.aload_n 0, 1) := dg_cX11_askOf_136.2.2.2.2.2.2.2.2.2.2.2.2.2.2.1
theorem dX11_askOf_53 : decode cX11_askOf 53 = .ok (.getfield 7, 3) := dg_cX11_askOf_136.2.2.2.2.2.2.2.2.2.2.2.2.2.2.2
set_option maxRecDepth 100000 in
theorem dg_cX11_askOf_137 : (decode cX11_askOf 56 = .ok (.iconst 5, 1)) ∧ (decode cX11_askOf 57 = .ok (.iload 4, 2)) ∧ (decode cX11_askOf 59 = .ok (.imul, 1)) ∧ (decode cX11_askOf 60 = .ok (.iconst 1, 1)) ∧ (decode cX11_askOf 61 = .ok (.iadd, 1)) ∧ (decode cX11_askOf 62 = .ok (.aload_n 0, 1)) ∧ (decode cX11_askOf 63 = .ok (.getfield 32, 3)) ∧ (decode cX11_askOf 66 = .ok (.iload 4, 2)) ∧ (decode cX11_askOf 68 = .ok (.iaload, 1)) ∧ (decode cX11_askOf 69 = .ok (.iastore, 1)) ∧ (decode cX11_askOf 70 = .ok (.iinc 4 1, 3)) ∧ (decode cX11_askOf 73 = .ok (.goto (-30), 3)) ∧ (decode cX11_askOf 76 = .ok (.iload_n 3, 1)) ∧ (decode cX11_askOf 77 = .ok (.ireturn, 1)) := by decide +kernel
theorem dX11_askOf_56 : decode cX11_askOf 56 = .ok (.iconst 5, 1) := dg_cX11_askOf_137.1
theorem dX11_askOf_57 : decode cX11_askOf 57 = .ok (.iload 4, 2) := dg_cX11_askOf_137.2.1
theorem dX11_askOf_59 : decode cX11_askOf 59 = .ok (.imul, 1) := dg_cX11_askOf_137.2.2.1
theorem dX11_askOf_60 : decode cX11_askOf 60 = .ok (.iconst 1, 1) := dg_cX11_askOf_137.2.2.2.1
theorem dX11_askOf_61 : decode cX11_askOf 61 = .ok (.iadd, 1) := dg_cX11_askOf_137.2.2.2.2.1
theorem dX11_askOf_62 : decode cX11_askOf 62 = .ok (.aload_n 0, 1) := dg_cX11_askOf_137.2.2.2.2.2.1
theorem dX11_askOf_63 : decode cX11_askOf 63 = .ok (.getfield 32, 3) := dg_cX11_askOf_137.2.2.2.2.2.2.1
theorem dX11_askOf_66 : decode cX11_askOf 66 = .ok (.iload 4, 2) := dg_cX11_askOf_137.2.2.2.2.2.2.2.1
theorem dX11_askOf_68 : decode cX11_askOf 68 = .ok (.iaload, 1) := dg_cX11_askOf_137.2.2.2.2.2.2.2.2.1
theorem dX11_askOf_69 : decode cX11_askOf 69 = .ok (.iastore, 1) := dg_cX11_askOf_137.2.2.2.2.2.2.2.2.2.1
theorem dX11_askOf_70 : decode cX11_askOf 70 = .ok (.iinc 4 1, 3) := dg_cX11_askOf_137.2.2.2.2.2.2.2.2.2.2.1
theorem dX11_askOf_73 : decode cX11_askOf 73 = .ok (.goto (-30), 3) := dg_cX11_askOf_137.2.2.2.2.2.2.2.2.2.2.2.1
theorem dX11_askOf_76 : decode cX11_askOf 76 = .ok (.iload_n 3, 1) := dg_cX11_askOf_137.2.2.2.2.2.2.2.2.2.2.2.2.1
theorem dX11_askOf_77 : decode cX11_askOf 77 = .ok (.ireturn, 1) := dg_cX11_askOf_137.2.2.2.2.2.2.2.2.2.2.2.2.2
set_option maxRecDepth 100000 in
theorem dg_cX11_ask_138 : (decode cX11_ask 0 = .ok (.aload_n 0, 1)) ∧ (decode cX11_ask 1 = .ok (.iload_n 1, 1)) ∧ (decode cX11_ask 2 = .ok (.invokevirtual 186, 3)) ∧ (decode cX11_ask 5 = .ok (.ifCond .eq 24, 3)) ∧ (decode cX11_ask 8 = .ok (.iload_n 2, 1)) ∧ (decode cX11_ask 9 = .ok (.i2l, 1)) ∧ (decode cX11_ask 10 = .ok (.lconst 0, 1)) ∧ (decode cX11_ask 11 = .ok (.ldc2_w 189, 3)) ∧ (decode cX11_ask 14 = .ok (.invokestatic 92, 3)) ∧ (decode cX11_ask 17 = .ok (.ifCond .eq 12, 3)) ∧ (decode cX11_ask 20 = .ok (.aload_n 0, 1)) ∧ (decode cX11_ask 21 = .ok (.iload_n 1, 1)) ∧ (decode cX11_ask 22 = .ok (.iload_n 2, 1)) ∧ (decode cX11_ask 23 = .ok (.invokevirtual 239, 3)) ∧ (decode cX11_ask 26 = .ok (.goto 4, 3)) ∧ (decode cX11_ask 29 = .ok (.iconst (-1), 1)) := by decide +kernel
theorem dX11_ask_0 : decode cX11_ask 0 = .ok (.aload_n 0, 1) := dg_cX11_ask_138.1
theorem dX11_ask_1 : decode cX11_ask 1 = .ok (.iload_n 1, 1) := dg_cX11_ask_138.2.1
theorem dX11_ask_2 : decode cX11_ask 2 = .ok (.invokevirtual 186, 3) := dg_cX11_ask_138.2.2.1
theorem dX11_ask_5 : decode cX11_ask 5 = .ok (.ifCond .eq 24, 3) := dg_cX11_ask_138.2.2.2.1
theorem dX11_ask_8 : decode cX11_ask 8 = .ok (.iload_n 2, 1) := dg_cX11_ask_138.2.2.2.2.1
theorem dX11_ask_9 : decode cX11_ask 9 = .ok (.i2l, 1) := dg_cX11_ask_138.2.2.2.2.2.1
theorem dX11_ask_10 : decode cX11_ask 10 = .ok (.lconst 0, 1) := dg_cX11_ask_138.2.2.2.2.2.2.1
theorem dX11_ask_11 : decode cX11_ask 11 = .ok (.ldc2_w 189, 3) := dg_cX11_ask_138.2.2.2.2.2.2.2.1
theorem dX11_ask_14 : decode cX11_ask 14 = .ok (.invokestatic 92, 3) := dg_cX11_ask_138.2.2.2.2.2.2.2.2.1
theorem dX11_ask_17 : decode cX11_ask 17 = .ok (.ifCond .eq 12, 3) := dg_cX11_ask_138.2.2.2.2.2.2.2.2.2.1
theorem dX11_ask_20 : decode cX11_ask 20 = .ok (.aload_n 0, 1) := dg_cX11_ask_138.2.2.2.2.2.2.2.2.2.2.1
theorem dX11_ask_21 : decode cX11_ask 21 = .ok (.iload_n 1, 1) := dg_cX11_ask_138.2.2.2.2.2.2.2.2.2.2.2.1
theorem dX11_ask_22 : decode cX11_ask 22 = .ok (.iload_n 2, 1) := dg_cX11_ask_138.2.2.2.2.2.2.2.2.2.2.2.2.1
theorem dX11_ask_23 : decode cX11_ask 23 = .ok (.invokevirtual 239, 3) := dg_cX11_ask_138.2.2.2.2.2.2.2.2.2.2.2.2.2.1
theorem dX11_ask_26 : decode cX11_ask 26 = .ok (.goto 4, 3) := dg_cX11_ask_138.2.2.2.2.2.2.2.2.2.2.2.2.2.2.1
theorem dX11_ask_29 : decode cX11_ask 29 = .ok (.iconst (-1), 1) := dg_cX11_ask_138.2.2.2.2.2.2.2.2.2.2.2.2.2.2.2
theorem dX11_ask_30 : decode cX11_ask 30 = .ok (.ireturn, 1) := by decide +kernel
set_option maxRecDepth 100000 in
theorem dg_cX11_findBest_139 : (decode cX11_findBest 0 = .ok (.aload_n 0, 1)) ∧ (decode cX11_findBest 1 = .ok (.bipush (-4), 2)) ∧ (decode cX11_findBest 3 = .ok (.putfield 242, 3)) ∧ (decode cX11_findBest 6 = .ok (.aload_n 0, 1)) ∧ (decode cX11_findBest 7 = .ok (.iconst 0, 1)) ∧ (decode cX11_findBest 8 = .ok (.putfield 245, 3)) ∧ (decode cX11_findBest 11 = .ok (.iconst 0, 1)) ∧ (decode cX11_findBest 12 = .ok (.istore_n 2, 1)) ∧ (decode cX11_findBest 13 = .ok (.iload_n 2, 1)) ∧ (decode cX11_findBest 14 = .ok (.bipush 20, 2)) ∧ (decode cX11_findBest 16 = .ok (.if_icmp .gt 74, 3)) ∧ (decode cX11_findBest 19 = .ok (.aload_n 0, 1)) ∧ (decode cX11_findBest 20 = .ok (.iload_n 1, 1)) ∧ (decode cX11_findBest 21 = .ok (.iload_n 2, 1)) ∧ (decode cX11_findBest 22 = .ok (.invokevirtual 239, 3)) ∧ (decode cX11_findBest 25 = .ok (.istore_n 3, 1)) := by decide +kernel
theorem dX11_findBest_0 : decode cX11_findBest 0 = .ok (.aload_n 0, 1) := dg_cX11_findBest_139.1
theorem dX11_findBest_1 : decode cX11_findBest 1 = .ok (.bipush (-4), 2) := dg_cX11_findBest_139.2.1
theorem dX11_findBest_3 : decode cX11_findBest 3 = .ok (.putfield 242, 3) := dg_cX11_findBest_139.2.2.1
theorem dX11_findBest_6 : decode cX11_findBest 6 = .ok (.aload_n 0, 1) := dg_cX11_findBest_139.2.2.2.1
theorem dX11_findBest_7 : decode cX11_findBest 7 = .ok (.iconst 0, 1) := dg_cX11_findBest_139.2.2.2.2.1
theorem dX11_findBest_8 : decode cX11_findBest 8 = .ok (.putfield 245, 3) := dg_cX11_findBest_139.2.2.2.2.2.1
theorem dX11_findBest_11 : decode cX11_findBest 11 = .ok (.iconst 0, 1) := dg_cX11_findBest_139.2.2.2.2.2.2.1
theorem dX11_findBest_12 : decode cX11_findBest 12 = .ok (.istore_n 2, 1) := dg_cX11_findBest_139.2.2.2.2.2.2.2.1
theorem dX11_findBest_13 : decode cX11_findBest 13 = .ok (.iload_n 2, 1) := dg_cX11_findBest_139.2.2.2.2.2.2.2.2.1
theorem dX11_findBest_14 : decode cX11_findBest 14 = .ok (.bipush 20, 2) := dg_cX11_findBest_139.2.2.2.2.2.2.2.2.2.1
theorem dX11_findBest_16 : decode cX11_findBest 16 = .ok (.if_icmp .gt 74, 3) := dg_cX11_findBest_139.2.2.2.2.2.2.2.2.2.2.1
theorem dX11_findBest_19 : decode cX11_findBest 19 = .ok (.aload_n 0, 1) := dg_cX11_findBest_139.2.2.2.2.2.2.2.2.2.2.2.1
theorem dX11_findBest_20 : decode cX11_findBest 20 = .ok (.iload_n 1, 1) := dg_cX11_findBest_139.2.2.2.2.2.2.2.2.2.2.2.2.1
theorem dX11_findBest_21 : decode cX11_findBest 21 = .ok (.iload_n 2, 1) := dg_cX11_findBest_139.2.2.2.2.2.2.2.2.2.2.2.2.2.1
theorem dX11_findBest_22 : decode cX11_findBest 22 = .ok (.invokevirtual 239, 3) := dg_cX11_findBest_139.2.2.2.2.2.2.2.2.2.2.2.2.2.2.1
theorem dX11_findBest_25 : decode cX11_findBest 25 = .ok (.istore_n 3, 1) := dg_cX11_findBest_139.2.2.2.2.2.2.2.2.2.2.2.2.2.2.2
set_option maxRecDepth 100000 in
theorem dg_cX11_findBest_140 : (decode cX11_findBest 26 = .ok (.aload_n 0, 1)) ∧ (decode cX11_findBest 27 = .ok (.getfield 242, 3)) ∧ (decode cX11_findBest 30 = .ok (.bipush (-4), 2)) ∧ (decode cX11_findBest 32 = .ok (.if_icmp .eq 11, 3)) ∧ (decode cX11_findBest 35 = .ok (.iload_n 3, 1)) ∧ (decode cX11_findBest 36 = .ok (.aload_n 0, 1)) ∧ (decode cX11_findBest 37 = .ok (.getfield 245, 3)) ∧ (decode cX11_findBest 40 = .ok (.if_icmp .le 7, 3)) ∧ (decode cX11_findBest 43 = .ok (.iconst 1, 1)) ∧ (decode cX11_findBest 44 = .ok (.goto 4, 3)) ∧ (decode cX11_findBest 47 = .ok (.iconst 0, 1)) ∧ (decode cX11_findBest 48 = .ok (.istore 4, 2)) ∧ (decode cX11_findBest 50 = .ok (.aload_n 0, 1)) ∧ (decode cX11_findBest 51 = .ok (.iload 4, 2)) ∧ (decode cX11_findBest 53 = .ok (.ifCond .eq 7, 3)) ∧ (decode cX11_findBest 56 = .ok (.iload_n 2, 1)) := by decide +kernel
theorem dX11_findBest_26 : decode cX11_findBest 26 = .ok (.aload_n 0, 1) := dg_cX11_findBest_140.1
theorem dX11_findBest_27 : decode cX11_findBest 27 = .ok (.getfield 242, 3) := dg_cX11_findBest_140.2.1
theorem dX11_findBest_30 : decode cX11_findBest 30 = .ok (.bipush (-4), 2) := dg_cX11_findBest_140.2.2.1
theorem dX11_findBest_32 : decode cX11_findBest 32 = .ok (.if_icmp .eq 11, 3) := dg_cX11_findBest_140.2.2.2.1
theorem dX11_findBest_35 : decode cX11_findBest 35 = .ok (.iload_n 3, 1) := dg_cX11_findBest_140.2.2.2.2.1
theorem dX11_findBest_36 : decode cX11_findBest 36 = .ok (.aload_n 0, 1) := dg_cX11_findBest_140.2.2.2.2.2.1
theorem dX11_findBest_37 : decode cX11_findBest 37 = .ok (.getfield 245, 3) := dg_cX11_findBest_140.2.2.2.2.2.2.1
theorem dX11_findBest_40 : decode cX11_findBest 40 = .ok (.if_icmp .le 7, 3) := dg_cX11_findBest_140.2.2.2.2.2.2.2.1
theorem dX11_findBest_43 : decode cX11_findBest 43 = .ok (.iconst 1, 1) := dg_cX11_findBest_140.2.2.2.2.2.2.2.2.1
theorem dX11_findBest_44 : decode cX11_findBest 44 = .ok (.goto 4, 3) := dg_cX11_findBest_140.2.2.2.2.2.2.2.2.2.1
theorem dX11_findBest_47 : decode cX11_findBest 47 = .ok (.iconst 0, 1) := dg_cX11_findBest_140.2.2.2.2.2.2.2.2.2.2.1
theorem dX11_findBest_48 : decode cX11_findBest 48 = .ok (.istore 4, 2) := dg_cX11_findBest_140.2.2.2.2.2.2.2.2.2.2.2.1
theorem dX11_findBest_50 : decode cX11_findBest 50 = .ok (.aload_n 0, 1) := dg_cX11_findBest_140.2.2.2.2.2.2.2.2.2.2.2.2.1
theorem dX11_findBest_51 : decode cX11_findBest 51 = .ok (.iload 4, 2) := dg_cX11_findBest_140.2.2.2.2.2.2.2.2.2.2.2.2.2.1
theorem dX11_findBest_53 : decode cX11_findBest 53 = .ok (.ifCond .eq 7, 3) := dg_cX11_findBest_140.2.2.2.2.2.2.2.2.2.2.2.2.2.2.1
theorem dX11_findBest_56 : decode cX11_findBest 56 = .ok (.iload_n 2, 1) := dg_cX11_findBest_140.2.2.2.2.2.2.2.2.2.2.2.2.2.2.2
set_option maxRecDepth 100000 in
theorem dg_cX11_findBest_141 : (decode cX11_findBest 57 = .ok (.goto 7, 3)) ∧ (decode cX11_findBest 60 = .ok (.aload_n 0, 1)) ∧ (decode cX11_findBest 61 = .ok (.getfield 242, 3)) ∧ (decode cX11_findBest 64 = .ok (.putfield 242, 3)) ∧ (decode cX11_findBest 67 = .ok (.aload_n 0, 1)) ∧ (decode cX11_findBest 68 = .ok (.iload 4, 2)) ∧ (decode cX11_findBest 70 = .ok (.ifCond .eq 7, 3)) ∧ (decode cX11_findBest 73 = .ok (.iload_n 3, 1)) ∧ (decode cX11_findBest 74 = .ok (.goto 7, 3)) ∧ (decode cX11_findBest 77 = .ok (.aload_n 0, 1)) ∧ (decode cX11_findBest 78 = .ok (.getfield 245, 3)) ∧ (decode cX11_findBest 81 = .ok (.putfield 245, 3)) ∧ (decode cX11_findBest 84 = .ok (.iinc 2 1, 3)) ∧ (decode cX11_findBest 87 = .ok (.goto (-74), 3)) ∧ (decode cX11_findBest 90 = .ok (.return_, 1)) := by decide +kernel
theorem dX11_findBest_57 : decode cX11_findBest 57 = .ok (.goto 7, 3) := dg_cX11_findBest_141.1
theorem dX11_findBest_60 : decode cX11_findBest 60 = .ok (.aload_n 0, 1) := dg_cX11_findBest_141.2.1
theorem dX11_findBest_61 : decode cX11_findBest 61 = .ok (.getfield 242, 3) := dg_cX11_findBest_141.2.2.1
theorem dX11_findBest_64 : decode cX11_findBest 64 = .ok (.putfield 242, 3) := dg_cX11_findBest_141.2.2.2.1
theorem dX11_findBest_67 : decode cX11_findBest 67 = .ok (.aload_n 0, 1) := dg_cX11_findBest_141.2.2.2.2.1
theorem dX11_findBest_68 : decode cX11_findBest 68 = .ok (.iload 4, 2) := dg_cX11_findBest_141.2.2.2.2.2.1
theorem dX11_findBest_70 : decode cX11_findBest 70 = .ok (.ifCond .eq 7, 3) := dg_cX11_findBest_141.2.2.2.2.2.2.1
theorem dX11_findBest_73 : decode cX11_findBest 73 = .ok (.iload_n 3, 1) := dg_cX11_findBest_141.2.2.2.2.2.2.2.1
theorem dX11_findBest_74 : decode cX11_findBest 74 = .ok (.goto 7, 3) := dg_cX11_findBest_141.2.2.2.2.2.2.2.2.1
theorem dX11_findBest_77 : decode cX11_findBest 77 = .ok (.aload_n 0, 1) := dg_cX11_findBest_141.2.2.2.2.2.2.2.2.2.1
theorem dX11_findBest_78 : decode cX11_findBest 78 = .ok (.getfield 245, 3) := dg_cX11_findBest_141.2.2.2.2.2.2.2.2.2.2.1
theorem dX11_findBest_81 : decode cX11_findBest 81 = .ok (.putfield 245, 3) := dg_cX11_findBest_141.2.2.2.2.2.2.2.2.2.2.2.1
theorem dX11_findBest_84 : decode cX11_findBest 84 = .ok (.iinc 2 1, 3) := dg_cX11_findBest_141.2.2.2.2.2.2.2.2.2.2.2.2.1
theorem dX11_findBest_87 : decode cX11_findBest 87 = .ok (.goto (-74), 3) := dg_cX11_findBest_141.2.2.2.2.2.2.2.2.2.2.2.2.2.1
theorem dX11_findBest_90 : decode cX11_findBest 90 = .ok (.return_, 1) := dg_cX11_findBest_141.2.2.2.2.2.2.2.2.2.2.2.2.2.2
set_option maxRecDepth 100000 in
theorem dg_cX11_best_142 : (decode cX11_best 0 = .ok (.aload_n 0, 1)) ∧ (decode cX11_best 1 = .ok (.iload_n 1, 1)) ∧ (decode cX11_best 2 = .ok (.invokevirtual 186, 3)) ∧ (decode cX11_best 5 = .ok (.ifCond .eq 13, 3)) ∧ (decode cX11_best 8 = .ok (.iload_n 2, 1)) ∧ (decode cX11_best 9 = .ok (.i2l, 1)) ∧ (decode cX11_best 10 = .ok (.lconst 0, 1)) ∧ (decode cX11_best 11 = .ok (.lconst 1, 1)) ∧ (decode cX11_best 12 = .ok (.invokestatic 92, 3)) ∧ (decode cX11_best 15 = .ok (.ifCond .ne 5, 3)) ∧ (decode cX11_best 18 = .ok (.iconst (-1), 1)) ∧ (decode cX11_best 19 = .ok (.ireturn, 1)) ∧ (decode cX11_best 20 = .ok (.aload_n 0, 1)) ∧ (decode cX11_best 21 = .ok (.iload_n 1, 1)) ∧ (decode cX11_best 22 = .ok (.invokevirtual 248, 3)) ∧ (decode cX11_best 25 = .ok (.iload_n 2, 1)) := by decide +kernel
theorem dX11_best_0 : decode cX11_best 0 = .ok (.aload_n 0, 1) := dg_cX11_best_142.1
theorem dX11_best_1 : decode cX11_best 1 = .ok (.iload_n 1, 1) := dg_cX11_best_142.2.1
theorem dX11_best_2 : decode cX11_best 2 = .ok (.invokevirtual 186, 3) := dg_cX11_best_142.2.2.1
theorem dX11_best_5 : decode cX11_best 5 = .ok (.ifCond .eq 13, 3) := dg_cX11_best_142.2.2.2.1
theorem dX11_best_8 : decode cX11_best 8 = .ok (.iload_n 2, 1) := dg_cX11_best_142.2.2.2.2.1
theorem dX11_best_9 : decode cX11_best 9 = .ok (.i2l, 1) := dg_cX11_best_142.2.2.2.2.2.1
theorem dX11_best_10 : decode cX11_best 10 = .ok (.lconst 0, 1) := dg_cX11_best_142.2.2.2.2.2.2.1
theorem dX11_best_11 : decode cX11_best 11 = .ok (.lconst 1, 1) := dg_cX11_best_142.2.2.2.2.2.2.2.1
theorem dX11_best_12 : decode cX11_best 12 = .ok (.invokestatic 92, 3) := dg_cX11_best_142.2.2.2.2.2.2.2.2.1
theorem dX11_best_15 : decode cX11_best 15 = .ok (.ifCond .ne 5, 3) := dg_cX11_best_142.2.2.2.2.2.2.2.2.2.1
theorem dX11_best_18 : decode cX11_best 18 = .ok (.iconst (-1), 1) := dg_cX11_best_142.2.2.2.2.2.2.2.2.2.2.1
theorem dX11_best_19 : decode cX11_best 19 = .ok (.ireturn, 1) := dg_cX11_best_142.2.2.2.2.2.2.2.2.2.2.2.1
theorem dX11_best_20 : decode cX11_best 20 = .ok (.aload_n 0, 1) := dg_cX11_best_142.2.2.2.2.2.2.2.2.2.2.2.2.1
theorem dX11_best_21 : decode cX11_best 21 = .ok (.iload_n 1, 1) := dg_cX11_best_142.2.2.2.2.2.2.2.2.2.2.2.2.2.1
theorem dX11_best_22 : decode cX11_best 22 = .ok (.invokevirtual 248, 3) := dg_cX11_best_142.2.2.2.2.2.2.2.2.2.2.2.2.2.2.1
theorem dX11_best_25 : decode cX11_best 25 = .ok (.iload_n 2, 1) := dg_cX11_best_142.2.2.2.2.2.2.2.2.2.2.2.2.2.2.2
set_option maxRecDepth 100000 in
theorem dg_cX11_best_143 : (decode cX11_best 26 = .ok (.ifCond .ne 10, 3)) ∧ (decode cX11_best 29 = .ok (.aload_n 0, 1)) ∧ (decode cX11_best 30 = .ok (.getfield 242, 3)) ∧ (decode cX11_best 33 = .ok (.goto 7, 3)) ∧ (decode cX11_best 36 = .ok (.aload_n 0, 1)) ∧ (decode cX11_best 37 = .ok (.getfield 245, 3)) ∧ (decode cX11_best 40 = .ok (.ireturn, 1)) := by decide +kernel
theorem dX11_best_26 : decode cX11_best 26 = .ok (.ifCond .ne 10, 3) := dg_cX11_best_143.1
theorem dX11_best_29 : decode cX11_best 29 = .ok (.aload_n 0, 1) := dg_cX11_best_143.2.1
theorem dX11_best_30 : decode cX11_best 30 = .ok (.getfield 242, 3) := dg_cX11_best_143.2.2.1
theorem dX11_best_33 : decode cX11_best 33 = .ok (.goto 7, 3) := dg_cX11_best_143.2.2.2.1
theorem dX11_best_36 : decode cX11_best 36 = .ok (.aload_n 0, 1) := dg_cX11_best_143.2.2.2.2.1
theorem dX11_best_37 : decode cX11_best 37 = .ok (.getfield 245, 3) := dg_cX11_best_143.2.2.2.2.2.1
theorem dX11_best_40 : decode cX11_best 40 = .ok (.ireturn, 1) := dg_cX11_best_143.2.2.2.2.2.2
set_option maxRecDepth 100000 in
theorem dg_cX11_changes_144 : (decode cX11_changes 0 = .ok (.aload_n 0, 1)) ∧ (decode cX11_changes 1 = .ok (.iload_n 1, 1)) ∧ (decode cX11_changes 2 = .ok (.invokevirtual 248, 3)) ∧ (decode cX11_changes 5 = .ok (.aload_n 0, 1)) ∧ (decode cX11_changes 6 = .ok (.getfield 245, 3)) ∧ (decode cX11_changes 9 = .ok (.aload_n 0, 1)) ∧ (decode cX11_changes 10 = .ok (.iload_n 1, 1)) ∧ (decode cX11_changes 11 = .ok (.invokevirtual 232, 3)) ∧ (decode cX11_changes 14 = .ok (.if_icmp .le 7, 3)) ∧ (decode cX11_changes 17 = .ok (.iconst 1, 1)) ∧ (decode cX11_changes 18 = .ok (.goto 4, 3)) ∧ (decode cX11_changes 21 = .ok (.iconst 0, 1)) ∧ (decode cX11_changes 22 = .ok (.ireturn, 1)) := by decide +kernel
theorem dX11_changes_0 : decode cX11_changes 0 = .ok (.aload_n 0, 1) := dg_cX11_changes_144.1
theorem dX11_changes_1 : decode cX11_changes 1 = .ok (.iload_n 1, 1) := dg_cX11_changes_144.2.1
theorem dX11_changes_2 : decode cX11_changes 2 = .ok (.invokevirtual 248, 3) := dg_cX11_changes_144.2.2.1
theorem dX11_changes_5 : decode cX11_changes 5 = .ok (.aload_n 0, 1) := dg_cX11_changes_144.2.2.2.1
theorem dX11_changes_6 : decode cX11_changes 6 = .ok (.getfield 245, 3) := dg_cX11_changes_144.2.2.2.2.1
theorem dX11_changes_9 : decode cX11_changes 9 = .ok (.aload_n 0, 1) := dg_cX11_changes_144.2.2.2.2.2.1
theorem dX11_changes_10 : decode cX11_changes 10 = .ok (.iload_n 1, 1) := dg_cX11_changes_144.2.2.2.2.2.2.1
theorem dX11_changes_11 : decode cX11_changes 11 = .ok (.invokevirtual 232, 3) := dg_cX11_changes_144.2.2.2.2.2.2.2.1
theorem dX11_changes_14 : decode cX11_changes 14 = .ok (.if_icmp .le 7, 3) := dg_cX11_changes_144.2.2.2.2.2.2.2.2.1
theorem dX11_changes_17 : decode cX11_changes 17 = .ok (.iconst 1, 1) := dg_cX11_changes_144.2.2.2.2.2.2.2.2.2.1
theorem dX11_changes_18 : decode cX11_changes 18 = .ok (.goto 4, 3) := dg_cX11_changes_144.2.2.2.2.2.2.2.2.2.2.1
theorem dX11_changes_21 : decode cX11_changes 21 = .ok (.iconst 0, 1) := dg_cX11_changes_144.2.2.2.2.2.2.2.2.2.2.2.1
theorem dX11_changes_22 : decode cX11_changes 22 = .ok (.ireturn, 1) := dg_cX11_changes_144.2.2.2.2.2.2.2.2.2.2.2.2
set_option maxRecDepth 100000 in
theorem dg_cX11_settle_145 : (decode cX11_settle 0 = .ok (.iload_n 1, 1)) ∧ (decode cX11_settle 1 = .ok (.i2l, 1)) ∧ (decode cX11_settle 2 = .ok (.lconst 1, 1)) ∧ (decode cX11_settle 3 = .ok (.ldc2_w 251, 3)) ∧ (decode cX11_settle 6 = .ok (.invokestatic 92, 3)) ∧ (decode cX11_settle 9 = .ok (.ifCond .ne 5, 3)) ∧ (decode cX11_settle 12 = .ok (.iconst (-1), 1)) ∧ (decode cX11_settle 13 = .ok (.ireturn, 1)) ∧ (decode cX11_settle 14 = .ok (.iconst 0, 1)) ∧ (decode cX11_settle 15 = .ok (.istore_n 2, 1)) ∧ (decode cX11_settle 16 = .ok (.iload_n 2, 1)) ∧ (decode cX11_settle 17 = .ok (.iload_n 1, 1)) ∧ (decode cX11_settle 18 = .ok (.if_icmp .ge 56, 3)) ∧ (decode cX11_settle 21 = .ok (.iconst 0, 1)) ∧ (decode cX11_settle 22 = .ok (.istore_n 3, 1)) ∧ (decode cX11_settle 23 = .ok (.iconst 0, 1)) := by decide +kernel
theorem dX11_settle_0 : decode cX11_settle 0 = .ok (.iload_n 1, 1) := dg_cX11_settle_145.1
theorem dX11_settle_1 : decode cX11_settle 1 = .ok (.i2l, 1) := dg_cX11_settle_145.2.1
theorem dX11_settle_2 : decode cX11_settle 2 = .ok (.lconst 1, 1) := dg_cX11_settle_145.2.2.1
theorem dX11_settle_3 : decode cX11_settle 3 = .ok (.ldc2_w 251, 3) := dg_cX11_settle_145.2.2.2.1
theorem dX11_settle_6 : decode cX11_settle 6 = .ok (.invokestatic 92, 3) := dg_cX11_settle_145.2.2.2.2.1
theorem dX11_settle_9 : decode cX11_settle 9 = .ok (.ifCond .ne 5, 3) := dg_cX11_settle_145.2.2.2.2.2.1
theorem dX11_settle_12 : decode cX11_settle 12 = .ok (.iconst (-1), 1) := dg_cX11_settle_145.2.2.2.2.2.2.1
theorem dX11_settle_13 : decode cX11_settle 13 = .ok (.ireturn, 1) := dg_cX11_settle_145.2.2.2.2.2.2.2.1
theorem dX11_settle_14 : decode cX11_settle 14 = .ok (.iconst 0, 1) := dg_cX11_settle_145.2.2.2.2.2.2.2.2.1
theorem dX11_settle_15 : decode cX11_settle 15 = .ok (.istore_n 2, 1) := dg_cX11_settle_145.2.2.2.2.2.2.2.2.2.1
theorem dX11_settle_16 : decode cX11_settle 16 = .ok (.iload_n 2, 1) := dg_cX11_settle_145.2.2.2.2.2.2.2.2.2.2.1
theorem dX11_settle_17 : decode cX11_settle 17 = .ok (.iload_n 1, 1) := dg_cX11_settle_145.2.2.2.2.2.2.2.2.2.2.2.1
theorem dX11_settle_18 : decode cX11_settle 18 = .ok (.if_icmp .ge 56, 3) := dg_cX11_settle_145.2.2.2.2.2.2.2.2.2.2.2.2.1
theorem dX11_settle_21 : decode cX11_settle 21 = .ok (.iconst 0, 1) := dg_cX11_settle_145.2.2.2.2.2.2.2.2.2.2.2.2.2.1
theorem dX11_settle_22 : decode cX11_settle 22 = .ok (.istore_n 3, 1) := dg_cX11_settle_145.2.2.2.2.2.2.2.2.2.2.2.2.2.2.1
theorem dX11_settle_23 : decode cX11_settle 23 = .ok (.iconst 0, 1) := dg_cX11_settle_145.2.2.2.2.2.2.2.2.2.2.2.2.2.2.2
set_option maxRecDepth 100000 in
theorem dg_cX11_settle_146 : (decode cX11_settle 24 = .ok (.istore 4, 2)) ∧ (decode cX11_settle 26 = .ok (.iload 4, 2)) ∧ (decode cX11_settle 28 = .ok (.aload_n 0, 1)) ∧ (decode cX11_settle 29 = .ok (.getfield 75, 3)) ∧ (decode cX11_settle 32 = .ok (.if_icmp .ge 30, 3)) ∧ (decode cX11_settle 35 = .ok (.aload_n 0, 1)) ∧ (decode cX11_settle 36 = .ok (.iload 4, 2)) ∧ (decode cX11_settle 38 = .ok (.invokevirtual 253, 3)) ∧ (decode cX11_settle 41 = .ok (.ifCond .eq 15, 3)) ∧ (decode cX11_settle 44 = .ok (.aload_n 0, 1)) ∧ (decode cX11_settle 45 = .ok (.iload 4, 2)) ∧ (decode cX11_settle 47 = .ok (.aload_n 0, 1)) ∧ (decode cX11_settle 48 = .ok (.getfield 242, 3)) ∧ (decode cX11_settle 51 = .ok (.invokevirtual 235, 3)) ∧ (decode cX11_settle 54 = .ok (.iconst 1, 1)) ∧ (decode cX11_settle 55 = .ok (.istore_n 3, 1)) := by decide +kernel
theorem dX11_settle_24 : decode cX11_settle 24 = .ok (.istore 4, 2) := dg_cX11_settle_146.1
theorem dX11_settle_26 : decode cX11_settle 26 = .ok (.iload 4, 2) := dg_cX11_settle_146.2.1
theorem dX11_settle_28 : decode cX11_settle 28 = .ok (.aload_n 0, 1) := dg_cX11_settle_146.2.2.1
theorem dX11_settle_29 : decode cX11_settle 29 = .ok (.getfield 75, 3) := dg_cX11_settle_146.2.2.2.1
theorem dX11_settle_32 : decode cX11_settle 32 = .ok (.if_icmp .ge 30, 3) := dg_cX11_settle_146.2.2.2.2.1
theorem dX11_settle_35 : decode cX11_settle 35 = .ok (.aload_n 0, 1) := dg_cX11_settle_146.2.2.2.2.2.1
theorem dX11_settle_36 : decode cX11_settle 36 = .ok (.iload 4, 2) := dg_cX11_settle_146.2.2.2.2.2.2.1
theorem dX11_settle_38 : decode cX11_settle 38 = .ok (.invokevirtual 253, 3) := dg_cX11_settle_146.2.2.2.2.2.2.2.1
theorem dX11_settle_41 : decode cX11_settle 41 = .ok (.ifCond .eq 15, 3) := dg_cX11_settle_146.2.2.2.2.2.2.2.2.1
theorem dX11_settle_44 : decode cX11_settle 44 = .ok (.aload_n 0, 1) := dg_cX11_settle_146.2.2.2.2.2.2.2.2.2.1
theorem dX11_settle_45 : decode cX11_settle 45 = .ok (.iload 4, 2) := dg_cX11_settle_146.2.2.2.2.2.2.2.2.2.2.1
theorem dX11_settle_47 : decode cX11_settle 47 = .ok (.aload_n 0, 1) := dg_cX11_settle_146.2.2.2.2.2.2.2.2.2.2.2.1
theorem dX11_settle_48 : decode cX11_settle 48 = .ok (.getfield 242, 3) := dg_cX11_settle_146.2.2.2.2.2.2.2.2.2.2.2.2.1
theorem dX11_settle_51 : decode cX11_settle 51 = .ok (.invokevirtual 235, 3) := dg_cX11_settle_146.2.2.2.2.2.2.2.2.2.2.2.2.2.1
theorem dX11_settle_54 : decode cX11_settle 54 = .ok (.iconst 1, 1) := dg_cX11_settle_146.2.2.2.2.2.2.2.2.2.2.2.2.2.2.1
theorem dX11_settle_55 : decode cX11_settle 55 = .ok (.istore_n 3, 1) := dg_cX11_settle_146.2.2.2.2.2.2.2.2.2.2.2.2.2.2.2
set_option maxRecDepth 100000 in
theorem dg_cX11_settle_147 : (decode cX11_settle 56 = .ok (.iinc 4 1, 3)) ∧ (decode cX11_settle 59 = .ok (.goto (-33), 3)) ∧ (decode cX11_settle 62 = .ok (.iload_n 3, 1)) ∧ (decode cX11_settle 63 = .ok (.ifCond .ne 5, 3)) ∧ (decode cX11_settle 66 = .ok (.iload_n 2, 1)) ∧ (decode cX11_settle 67 = .ok (.ireturn, 1)) ∧ (decode cX11_settle 68 = .ok (.iinc 2 1, 3)) ∧ (decode cX11_settle 71 = .ok (.goto (-55), 3)) ∧ (decode cX11_settle 74 = .ok (.bipush (-4), 2)) ∧ (decode cX11_settle 76 = .ok (.ireturn, 1)) := by decide +kernel
theorem dX11_settle_56 : decode cX11_settle 56 = .ok (.iinc 4 1, 3) := dg_cX11_settle_147.1
theorem dX11_settle_59 : decode cX11_settle 59 = .ok (.goto (-33), 3) := dg_cX11_settle_147.2.1
theorem dX11_settle_62 : decode cX11_settle 62 = .ok (.iload_n 3, 1) := dg_cX11_settle_147.2.2.1
theorem dX11_settle_63 : decode cX11_settle 63 = .ok (.ifCond .ne 5, 3) := dg_cX11_settle_147.2.2.2.1
theorem dX11_settle_66 : decode cX11_settle 66 = .ok (.iload_n 2, 1) := dg_cX11_settle_147.2.2.2.2.1
theorem dX11_settle_67 : decode cX11_settle 67 = .ok (.ireturn, 1) := dg_cX11_settle_147.2.2.2.2.2.1
theorem dX11_settle_68 : decode cX11_settle 68 = .ok (.iinc 2 1, 3) := dg_cX11_settle_147.2.2.2.2.2.2.1
theorem dX11_settle_71 : decode cX11_settle 71 = .ok (.goto (-55), 3) := dg_cX11_settle_147.2.2.2.2.2.2.2.1
theorem dX11_settle_74 : decode cX11_settle 74 = .ok (.bipush (-4), 2) := dg_cX11_settle_147.2.2.2.2.2.2.2.2.1
theorem dX11_settle_76 : decode cX11_settle 76 = .ok (.ireturn, 1) := dg_cX11_settle_147.2.2.2.2.2.2.2.2.2
set_option maxRecDepth 100000 in
theorem dg_cX11_settled_148 : (decode cX11_settled 0 = .ok (.iconst 0, 1)) ∧ (decode cX11_settled 1 = .ok (.istore_n 1, 1)) ∧ (decode cX11_settled 2 = .ok (.iconst 0, 1)) ∧ (decode cX11_settled 3 = .ok (.istore_n 2, 1)) ∧ (decode cX11_settled 4 = .ok (.iload_n 2, 1)) ∧ (decode cX11_settled 5 = .ok (.aload_n 0, 1)) ∧ (decode cX11_settled 6 = .ok (.getfield 75, 3)) ∧ (decode cX11_settled 9 = .ok (.if_icmp .ge 27, 3)) ∧ (decode cX11_settled 12 = .ok (.iload_n 1, 1)) ∧ (decode cX11_settled 13 = .ok (.ifCond .ne 11, 3)) ∧ (decode cX11_settled 16 = .ok (.aload_n 0, 1)) ∧ (decode cX11_settled 17 = .ok (.iload_n 2, 1)) ∧ (decode cX11_settled 18 = .ok (.invokevirtual 253, 3)) ∧ (decode cX11_settled 21 = .ok (.ifCond .eq 7, 3)) ∧ (decode cX11_settled 24 = .ok (.iconst 1, 1)) ∧ (decode cX11_settled 25 = .ok (.goto 4, 3)) := by decide +kernel
theorem dX11_settled_0 : decode cX11_settled 0 = .ok (.iconst 0, 1) := dg_cX11_settled_148.1
theorem dX11_settled_1 : decode cX11_settled 1 = .ok (.istore_n 1, 1) := dg_cX11_settled_148.2.1
theorem dX11_settled_2 : decode cX11_settled 2 = .ok (.iconst 0, 1) := dg_cX11_settled_148.2.2.1
theorem dX11_settled_3 : decode cX11_settled 3 = .ok (.istore_n 2, 1) := dg_cX11_settled_148.2.2.2.1
theorem dX11_settled_4 : decode cX11_settled 4 = .ok (.iload_n 2, 1) := dg_cX11_settled_148.2.2.2.2.1
theorem dX11_settled_5 : decode cX11_settled 5 = .ok (.aload_n 0, 1) := dg_cX11_settled_148.2.2.2.2.2.1
theorem dX11_settled_6 : decode cX11_settled 6 = .ok (.getfield 75, 3) := dg_cX11_settled_148.2.2.2.2.2.2.1
theorem dX11_settled_9 : decode cX11_settled 9 = .ok (.if_icmp .ge 27, 3) := dg_cX11_settled_148.2.2.2.2.2.2.2.1
theorem dX11_settled_12 : decode cX11_settled 12 = .ok (.iload_n 1, 1) := dg_cX11_settled_148.2.2.2.2.2.2.2.2.1
theorem dX11_settled_13 : decode cX11_settled 13 = .ok (.ifCond .ne 11, 3) := dg_cX11_settled_148.2.2.2.2.2.2.2.2.2.1
theorem dX11_settled_16 : decode cX11_settled 16 = .ok (.aload_n 0, 1) := dg_cX11_settled_148.2.2.2.2.2.2.2.2.2.2.1
theorem dX11_settled_17 : decode cX11_settled 17 = .ok (.iload_n 2, 1) := dg_cX11_settled_148.2.2.2.2.2.2.2.2.2.2.2.1
theorem dX11_settled_18 : decode cX11_settled 18 = .ok (.invokevirtual 253, 3) := dg_cX11_settled_148.2.2.2.2.2.2.2.2.2.2.2.2.1
theorem dX11_settled_21 : decode cX11_settled 21 = .ok (.ifCond .eq 7, 3) := dg_cX11_settled_148.2.2.2.2.2.2.2.2.2.2.2.2.2.1
theorem dX11_settled_24 : decode cX11_settled 24 = .ok (.iconst 1, 1) := dg_cX11_settled_148.2.2.2.2.2.2.2.2.2.2.2.2.2.2.1
theorem dX11_settled_25 : decode cX11_settled 25 = .ok (.goto 4, 3) := dg_cX11_settled_148.2.2.2.2.2.2.2.2.2.2.2.2.2.2.2
set_option maxRecDepth 100000 in
theorem dg_cX11_settled_149 : (decode cX11_settled 28 = .ok (.iconst 0, 1)) ∧ (decode cX11_settled 29 = .ok (.istore_n 1, 1)) ∧ (decode cX11_settled 30 = .ok (.iinc 2 1, 3)) ∧ (decode cX11_settled 33 = .ok (.goto (-29), 3)) ∧ (decode cX11_settled 36 = .ok (.iload_n 1, 1)) ∧ (decode cX11_settled 37 = .ok (.ifCond .ne 7, 3)) ∧ (decode cX11_settled 40 = .ok (.iconst 1, 1)) ∧ (decode cX11_settled 41 = .ok (.goto 4, 3)) ∧ (decode cX11_settled 44 = .ok (.iconst 0, 1)) ∧ (decode cX11_settled 45 = .ok (.invokestatic 191, 3)) ∧ (decode cX11_settled 48 = .ok (.ireturn, 1)) := by decide +kernel
theorem dX11_settled_28 : decode cX11_settled 28 = .ok (.iconst 0, 1) := dg_cX11_settled_149.1
theorem dX11_settled_29 : decode cX11_settled 29 = .ok (.istore_n 1, 1) := dg_cX11_settled_149.2.1
theorem dX11_settled_30 : decode cX11_settled 30 = .ok (.iinc 2 1, 3) := dg_cX11_settled_149.2.2.1
theorem dX11_settled_33 : decode cX11_settled 33 = .ok (.goto (-29), 3) := dg_cX11_settled_149.2.2.2.1
theorem dX11_settled_36 : decode cX11_settled 36 = .ok (.iload_n 1, 1) := dg_cX11_settled_149.2.2.2.2.1
theorem dX11_settled_37 : decode cX11_settled 37 = .ok (.ifCond .ne 7, 3) := dg_cX11_settled_149.2.2.2.2.2.1
theorem dX11_settled_40 : decode cX11_settled 40 = .ok (.iconst 1, 1) := dg_cX11_settled_149.2.2.2.2.2.2.1
theorem dX11_settled_41 : decode cX11_settled 41 = .ok (.goto 4, 3) := dg_cX11_settled_149.2.2.2.2.2.2.2.1
theorem dX11_settled_44 : decode cX11_settled 44 = .ok (.iconst 0, 1) := dg_cX11_settled_149.2.2.2.2.2.2.2.2.1
theorem dX11_settled_45 : decode cX11_settled 45 = .ok (.invokestatic 191, 3) := dg_cX11_settled_149.2.2.2.2.2.2.2.2.2.1
theorem dX11_settled_48 : decode cX11_settled 48 = .ok (.ireturn, 1) := dg_cX11_settled_149.2.2.2.2.2.2.2.2.2.2
set_option maxRecDepth 100000 in
theorem dg_cX11_bitsOf_150 : (decode cX11_bitsOf 0 = .ok (.iconst 0, 1)) ∧ (decode cX11_bitsOf 1 = .ok (.istore_n 1, 1)) ∧ (decode cX11_bitsOf 2 = .ok (.iconst 0, 1)) ∧ (decode cX11_bitsOf 3 = .ok (.istore_n 2, 1)) ∧ (decode cX11_bitsOf 4 = .ok (.iload_n 2, 1)) ∧ (decode cX11_bitsOf 5 = .ok (.bipush 12, 2)) ∧ (decode cX11_bitsOf 7 = .ok (.if_icmp .ge 17, 3)) ∧ (decode cX11_bitsOf 10 = .ok (.iload_n 1, 1)) ∧ (decode cX11_bitsOf 11 = .ok (.iload_n 0, 1)) ∧ (decode cX11_bitsOf 12 = .ok (.iload_n 2, 1)) ∧ (decode cX11_bitsOf 13 = .ok (.ishr, 1)) ∧ (decode cX11_bitsOf 14 = .ok (.iconst 1, 1)) ∧ (decode cX11_bitsOf 15 = .ok (.iand, 1)) ∧ (decode cX11_bitsOf 16 = .ok (.iadd, 1)) ∧ (decode cX11_bitsOf 17 = .ok (.istore_n 1, 1)) ∧ (decode cX11_bitsOf 18 = .ok (.iinc 2 1, 3)) := by decide +kernel
theorem dX11_bitsOf_0 : decode cX11_bitsOf 0 = .ok (.iconst 0, 1) := dg_cX11_bitsOf_150.1
theorem dX11_bitsOf_1 : decode cX11_bitsOf 1 = .ok (.istore_n 1, 1) := dg_cX11_bitsOf_150.2.1
theorem dX11_bitsOf_2 : decode cX11_bitsOf 2 = .ok (.iconst 0, 1) := dg_cX11_bitsOf_150.2.2.1
theorem dX11_bitsOf_3 : decode cX11_bitsOf 3 = .ok (.istore_n 2, 1) := dg_cX11_bitsOf_150.2.2.2.1
theorem dX11_bitsOf_4 : decode cX11_bitsOf 4 = .ok (.iload_n 2, 1) := dg_cX11_bitsOf_150.2.2.2.2.1
theorem dX11_bitsOf_5 : decode cX11_bitsOf 5 = .ok (.bipush 12, 2) := dg_cX11_bitsOf_150.2.2.2.2.2.1
theorem dX11_bitsOf_7 : decode cX11_bitsOf 7 = .ok (.if_icmp .ge 17, 3) := dg_cX11_bitsOf_150.2.2.2.2.2.2.1
theorem dX11_bitsOf_10 : decode cX11_bitsOf 10 = .ok (.iload_n 1, 1) := dg_cX11_bitsOf_150.2.2.2.2.2.2.2.1
theorem dX11_bitsOf_11 : decode cX11_bitsOf 11 = .ok (.iload_n 0, 1) := dg_cX11_bitsOf_150.2.2.2.2.2.2.2.2.1
theorem dX11_bitsOf_12 : decode cX11_bitsOf 12 = .ok (.iload_n 2, 1) := dg_cX11_bitsOf_150.2.2.2.2.2.2.2.2.2.1
theorem dX11_bitsOf_13 : decode cX11_bitsOf 13 = .ok (.ishr, 1) := dg_cX11_bitsOf_150.2.2.2.2.2.2.2.2.2.2.1
theorem dX11_bitsOf_14 : decode cX11_bitsOf 14 = .ok (.iconst 1, 1) := dg_cX11_bitsOf_150.2.2.2.2.2.2.2.2.2.2.2.1
theorem dX11_bitsOf_15 : decode cX11_bitsOf 15 = .ok (.iand, 1) := dg_cX11_bitsOf_150.2.2.2.2.2.2.2.2.2.2.2.2.1
theorem dX11_bitsOf_16 : decode cX11_bitsOf 16 = .ok (.iadd, 1) := dg_cX11_bitsOf_150.2.2.2.2.2.2.2.2.2.2.2.2.2.1
theorem dX11_bitsOf_17 : decode cX11_bitsOf 17 = .ok (.istore_n 1, 1) := dg_cX11_bitsOf_150.2.2.2.2.2.2.2.2.2.2.2.2.2.2.1
theorem dX11_bitsOf_18 : decode cX11_bitsOf 18 = .ok (.iinc 2 1, 3) := dg_cX11_bitsOf_150.2.2.2.2.2.2.2.2.2.2.2.2.2.2.2
set_option maxRecDepth 100000 in
theorem dg_cX11_bitsOf_151 : (decode cX11_bitsOf 21 = .ok (.goto (-17), 3)) ∧ (decode cX11_bitsOf 24 = .ok (.iload_n 1, 1)) ∧ (decode cX11_bitsOf 25 = .ok (.ireturn, 1)) := by decide +kernel
theorem dX11_bitsOf_21 : decode cX11_bitsOf 21 = .ok (.goto (-17), 3) := dg_cX11_bitsOf_151.1
theorem dX11_bitsOf_24 : decode cX11_bitsOf 24 = .ok (.iload_n 1, 1) := dg_cX11_bitsOf_151.2.1
theorem dX11_bitsOf_25 : decode cX11_bitsOf 25 = .ok (.ireturn, 1) := dg_cX11_bitsOf_151.2.2
set_option maxRecDepth 100000 in
theorem dg_cX11_isFair_152 : (decode cX11_isFair 0 = .ok (.aload_n 0, 1)) ∧ (decode cX11_isFair 1 = .ok (.invokevirtual 256, 3)) ∧ (decode cX11_isFair 4 = .ok (.aload_n 0, 1)) ∧ (decode cX11_isFair 5 = .ok (.iconst 0, 1)) ∧ (decode cX11_isFair 6 = .ok (.putfield 259, 3)) ∧ (decode cX11_isFair 9 = .ok (.iconst 0, 1)) ∧ (decode cX11_isFair 10 = .ok (.istore_n 3, 1)) ∧ (decode cX11_isFair 11 = .ok (.iload_n 3, 1)) ∧ (decode cX11_isFair 12 = .ok (.aload_n 0, 1)) ∧ (decode cX11_isFair 13 = .ok (.getfield 84, 3)) ∧ (decode cX11_isFair 16 = .ok (.if_icmp .ge 36, 3)) ∧ (decode cX11_isFair 19 = .ok (.iload_n 1, 1)) ∧ (decode cX11_isFair 20 = .ok (.iload_n 3, 1)) ∧ (decode cX11_isFair 21 = .ok (.ishr, 1)) ∧ (decode cX11_isFair 22 = .ok (.iconst 1, 1)) ∧ (decode cX11_isFair 23 = .ok (.iand, 1)) := by decide +kernel
theorem dX11_isFair_0 : decode cX11_isFair 0 = .ok (.aload_n 0, 1) := dg_cX11_isFair_152.1
theorem dX11_isFair_1 : decode cX11_isFair 1 = .ok (.invokevirtual 256, 3) := dg_cX11_isFair_152.2.1
theorem dX11_isFair_4 : decode cX11_isFair 4 = .ok (.aload_n 0, 1) := dg_cX11_isFair_152.2.2.1
theorem dX11_isFair_5 : decode cX11_isFair 5 = .ok (.iconst 0, 1) := dg_cX11_isFair_152.2.2.2.1
theorem dX11_isFair_6 : decode cX11_isFair 6 = .ok (.putfield 259, 3) := dg_cX11_isFair_152.2.2.2.2.1
theorem dX11_isFair_9 : decode cX11_isFair 9 = .ok (.iconst 0, 1) := dg_cX11_isFair_152.2.2.2.2.2.1
theorem dX11_isFair_10 : decode cX11_isFair 10 = .ok (.istore_n 3, 1) := dg_cX11_isFair_152.2.2.2.2.2.2.1
theorem dX11_isFair_11 : decode cX11_isFair 11 = .ok (.iload_n 3, 1) := dg_cX11_isFair_152.2.2.2.2.2.2.2.1
theorem dX11_isFair_12 : decode cX11_isFair 12 = .ok (.aload_n 0, 1) := dg_cX11_isFair_152.2.2.2.2.2.2.2.2.1
theorem dX11_isFair_13 : decode cX11_isFair 13 = .ok (.getfield 84, 3) := dg_cX11_isFair_152.2.2.2.2.2.2.2.2.2.1
theorem dX11_isFair_16 : decode cX11_isFair 16 = .ok (.if_icmp .ge 36, 3) := dg_cX11_isFair_152.2.2.2.2.2.2.2.2.2.2.1
theorem dX11_isFair_19 : decode cX11_isFair 19 = .ok (.iload_n 1, 1) := dg_cX11_isFair_152.2.2.2.2.2.2.2.2.2.2.2.1
theorem dX11_isFair_20 : decode cX11_isFair 20 = .ok (.iload_n 3, 1) := dg_cX11_isFair_152.2.2.2.2.2.2.2.2.2.2.2.2.1
theorem dX11_isFair_21 : decode cX11_isFair 21 = .ok (.ishr, 1) := dg_cX11_isFair_152.2.2.2.2.2.2.2.2.2.2.2.2.2.1
theorem dX11_isFair_22 : decode cX11_isFair 22 = .ok (.iconst 1, 1) := dg_cX11_isFair_152.2.2.2.2.2.2.2.2.2.2.2.2.2.2.1
theorem dX11_isFair_23 : decode cX11_isFair 23 = .ok (.iand, 1) := dg_cX11_isFair_152.2.2.2.2.2.2.2.2.2.2.2.2.2.2.2
set_option maxRecDepth 100000 in
theorem dg_cX11_isFair_153 : (decode cX11_isFair 24 = .ok (.iconst 1, 1)) ∧ (decode cX11_isFair 25 = .ok (.if_icmp .ne 21, 3)) ∧ (decode cX11_isFair 28 = .ok (.aload_n 0, 1)) ∧ (decode cX11_isFair 29 = .ok (.iload_n 3, 1)) ∧ (decode cX11_isFair 30 = .ok (.invokevirtual 216, 3)) ∧ (decode cX11_isFair 33 = .ok (.aload_n 0, 1)) ∧ (decode cX11_isFair 34 = .ok (.dup, 1)) ∧ (decode cX11_isFair 35 = .ok (.getfield 259, 3)) ∧ (decode cX11_isFair 38 = .ok (.aload_n 0, 1)) ∧ (decode cX11_isFair 39 = .ok (.getfield 204, 3)) ∧ (decode cX11_isFair 42 = .ok (.iadd, 1)) ∧ (decode cX11_isFair 43 = .ok (.putfield 259, 3)) ∧ (decode cX11_isFair 46 = .ok (.iinc 3 1, 3)) ∧ (decode cX11_isFair 49 = .ok (.goto (-38), 3)) ∧ (decode cX11_isFair 52 = .ok (.iconst 1, 1)) ∧ (decode cX11_isFair 53 = .ok (.istore_n 3, 1)) := by decide +kernel
theorem dX11_isFair_24 : decode cX11_isFair 24 = .ok (.iconst 1, 1) := dg_cX11_isFair_153.1
theorem dX11_isFair_25 : decode cX11_isFair 25 = .ok (.if_icmp .ne 21, 3) := dg_cX11_isFair_153.2.1
theorem dX11_isFair_28 : decode cX11_isFair 28 = .ok (.aload_n 0, 1) := dg_cX11_isFair_153.2.2.1
theorem dX11_isFair_29 : decode cX11_isFair 29 = .ok (.iload_n 3, 1) := dg_cX11_isFair_153.2.2.2.1
theorem dX11_isFair_30 : decode cX11_isFair 30 = .ok (.invokevirtual 216, 3) := dg_cX11_isFair_153.2.2.2.2.1
theorem dX11_isFair_33 : decode cX11_isFair 33 = .ok (.aload_n 0, 1) := dg_cX11_isFair_153.2.2.2.2.2.1
theorem dX11_isFair_34 : decode cX11_isFair 34 = .ok (.dup, 1) := dg_cX11_isFair_153.2.2.2.2.2.2.1
theorem dX11_isFair_35 : decode cX11_isFair 35 = .ok (.getfield 259, 3) := dg_cX11_isFair_153.2.2.2.2.2.2.2.1
theorem dX11_isFair_38 : decode cX11_isFair 38 = .ok (.aload_n 0, 1) := dg_cX11_isFair_153.2.2.2.2.2.2.2.2.1
theorem dX11_isFair_39 : decode cX11_isFair 39 = .ok (.getfield 204, 3) := dg_cX11_isFair_153.2.2.2.2.2.2.2.2.2.1
theorem dX11_isFair_42 : decode cX11_isFair 42 = .ok (.iadd, 1) := dg_cX11_isFair_153.2.2.2.2.2.2.2.2.2.2.1
theorem dX11_isFair_43 : decode cX11_isFair 43 = .ok (.putfield 259, 3) := dg_cX11_isFair_153.2.2.2.2.2.2.2.2.2.2.2.1
theorem dX11_isFair_46 : decode cX11_isFair 46 = .ok (.iinc 3 1, 3) := dg_cX11_isFair_153.2.2.2.2.2.2.2.2.2.2.2.2.1
theorem dX11_isFair_49 : decode cX11_isFair 49 = .ok (.goto (-38), 3) := dg_cX11_isFair_153.2.2.2.2.2.2.2.2.2.2.2.2.2.1
theorem dX11_isFair_52 : decode cX11_isFair 52 = .ok (.iconst 1, 1) := dg_cX11_isFair_153.2.2.2.2.2.2.2.2.2.2.2.2.2.2.1
theorem dX11_isFair_53 : decode cX11_isFair 53 = .ok (.istore_n 3, 1) := dg_cX11_isFair_153.2.2.2.2.2.2.2.2.2.2.2.2.2.2.2
set_option maxRecDepth 100000 in
theorem dg_cX11_isFair_154 : (decode cX11_isFair 54 = .ok (.iconst 0, 1)) ∧ (decode cX11_isFair 55 = .ok (.istore 4, 2)) ∧ (decode cX11_isFair 57 = .ok (.iload 4, 2)) ∧ (decode cX11_isFair 59 = .ok (.aload_n 0, 1)) ∧ (decode cX11_isFair 60 = .ok (.getfield 75, 3)) ∧ (decode cX11_isFair 63 = .ok (.if_icmp .ge 30, 3)) ∧ (decode cX11_isFair 66 = .ok (.iload_n 3, 1)) ∧ (decode cX11_isFair 67 = .ok (.ifCond .eq 18, 3)) ∧ (decode cX11_isFair 70 = .ok (.aload_n 0, 1)) ∧ (decode cX11_isFair 71 = .ok (.getfield 29, 3)) ∧ (decode cX11_isFair 74 = .ok (.iload 4, 2)) ∧ (decode cX11_isFair 76 = .ok (.iaload, 1)) ∧ (decode cX11_isFair 77 = .ok (.iload_n 2, 1)) ∧ (decode cX11_isFair 78 = .ok (.if_icmp .gt 7, 3)) ∧ (decode cX11_isFair 81 = .ok (.iconst 1, 1)) ∧ (decode cX11_isFair 82 = .ok (.goto 4, 3)) := by decide +kernel
theorem dX11_isFair_54 : decode cX11_isFair 54 = .ok (.iconst 0, 1) := dg_cX11_isFair_154.1
theorem dX11_isFair_55 : decode cX11_isFair 55 = .ok (.istore 4, 2) := dg_cX11_isFair_154.2.1
theorem dX11_isFair_57 : decode cX11_isFair 57 = .ok (.iload 4, 2) := dg_cX11_isFair_154.2.2.1
theorem dX11_isFair_59 : decode cX11_isFair 59 = .ok (.aload_n 0, 1) := dg_cX11_isFair_154.2.2.2.1
theorem dX11_isFair_60 : decode cX11_isFair 60 = .ok (.getfield 75, 3) := dg_cX11_isFair_154.2.2.2.2.1
theorem dX11_isFair_63 : decode cX11_isFair 63 = .ok (.if_icmp .ge 30, 3) := dg_cX11_isFair_154.2.2.2.2.2.1
theorem dX11_isFair_66 : decode cX11_isFair 66 = .ok (.iload_n 3, 1) := dg_cX11_isFair_154.2.2.2.2.2.2.1
theorem dX11_isFair_67 : decode cX11_isFair 67 = .ok (.ifCond .eq 18, 3) := dg_cX11_isFair_154.2.2.2.2.2.2.2.1
theorem dX11_isFair_70 : decode cX11_isFair 70 = .ok (.aload_n 0, 1) := dg_cX11_isFair_154.2.2.2.2.2.2.2.2.1
theorem dX11_isFair_71 : decode cX11_isFair 71 = .ok (.getfield 29, 3) := dg_cX11_isFair_154.2.2.2.2.2.2.2.2.2.1
theorem dX11_isFair_74 : decode cX11_isFair 74 = .ok (.iload 4, 2) := dg_cX11_isFair_154.2.2.2.2.2.2.2.2.2.2.1
theorem dX11_isFair_76 : decode cX11_isFair 76 = .ok (.iaload, 1) := dg_cX11_isFair_154.2.2.2.2.2.2.2.2.2.2.2.1
theorem dX11_isFair_77 : decode cX11_isFair 77 = .ok (.iload_n 2, 1) := dg_cX11_isFair_154.2.2.2.2.2.2.2.2.2.2.2.2.1
theorem dX11_isFair_78 : decode cX11_isFair 78 = .ok (.if_icmp .gt 7, 3) := dg_cX11_isFair_154.2.2.2.2.2.2.2.2.2.2.2.2.2.1
theorem dX11_isFair_81 : decode cX11_isFair 81 = .ok (.iconst 1, 1) := dg_cX11_isFair_154.2.2.2.2.2.2.2.2.2.2.2.2.2.2.1
theorem dX11_isFair_82 : decode cX11_isFair 82 = .ok (.goto 4, 3) := dg_cX11_isFair_154.2.2.2.2.2.2.2.2.2.2.2.2.2.2.2
set_option maxRecDepth 100000 in
theorem dg_cX11_isFair_155 : (decode cX11_isFair 85 = .ok (.iconst 0, 1)) ∧ (decode cX11_isFair 86 = .ok (.istore_n 3, 1)) ∧ (decode cX11_isFair 87 = .ok (.iinc 4 1, 3)) ∧ (decode cX11_isFair 90 = .ok (.goto (-33), 3)) ∧ (decode cX11_isFair 93 = .ok (.iload_n 3, 1)) ∧ (decode cX11_isFair 94 = .ok (.ireturn, 1)) := by decide +kernel
theorem dX11_isFair_85 : decode cX11_isFair 85 = .ok (.iconst 0, 1) := dg_cX11_isFair_155.1
theorem dX11_isFair_86 : decode cX11_isFair 86 = .ok (.istore_n 3, 1) := dg_cX11_isFair_155.2.1
theorem dX11_isFair_87 : decode cX11_isFair 87 = .ok (.iinc 4 1, 3) := dg_cX11_isFair_155.2.2.1
theorem dX11_isFair_90 : decode cX11_isFair 90 = .ok (.goto (-33), 3) := dg_cX11_isFair_155.2.2.2.1
theorem dX11_isFair_93 : decode cX11_isFair 93 = .ok (.iload_n 3, 1) := dg_cX11_isFair_155.2.2.2.2.1
theorem dX11_isFair_94 : decode cX11_isFair 94 = .ok (.ireturn, 1) := dg_cX11_isFair_155.2.2.2.2.2
set_option maxRecDepth 100000 in
theorem dg_cX11_cheapest_156 : (decode cX11_cheapest 0 = .ok (.ldc_w 262, 3)) ∧ (decode cX11_cheapest 3 = .ok (.istore_n 3, 1)) ∧ (decode cX11_cheapest 4 = .ok (.aload_n 0, 1)) ∧ (decode cX11_cheapest 5 = .ok (.bipush (-4), 2)) ∧ (decode cX11_cheapest 7 = .ok (.putfield 263, 3)) ∧ (decode cX11_cheapest 10 = .ok (.iconst 0, 1)) ∧ (decode cX11_cheapest 11 = .ok (.istore 4, 2)) ∧ (decode cX11_cheapest 13 = .ok (.iload 4, 2)) ∧ (decode cX11_cheapest 15 = .ok (.iconst 1, 1)) ∧ (decode cX11_cheapest 16 = .ok (.aload_n 0, 1)) ∧ (decode cX11_cheapest 17 = .ok (.getfield 84, 3)) ∧ (decode cX11_cheapest 20 = .ok (.ishl, 1)) ∧ (decode cX11_cheapest 21 = .ok (.if_icmp .ge 47, 3)) ∧ (decode cX11_cheapest 24 = .ok (.iload 4, 2)) ∧ (decode cX11_cheapest 26 = .ok (.invokestatic 266, 3)) ∧ (decode cX11_cheapest 29 = .ok (.iload_n 1, 1)) := by decide +kernel
theorem dX11_cheapest_0 : decode cX11_cheapest 0 = .ok (.ldc_w 262, 3) := dg_cX11_cheapest_156.1
theorem dX11_cheapest_3 : decode cX11_cheapest 3 = .ok (.istore_n 3, 1) := dg_cX11_cheapest_156.2.1
theorem dX11_cheapest_4 : decode cX11_cheapest 4 = .ok (.aload_n 0, 1) := dg_cX11_cheapest_156.2.2.1
theorem dX11_cheapest_5 : decode cX11_cheapest 5 = .ok (.bipush (-4), 2) := dg_cX11_cheapest_156.2.2.2.1
theorem dX11_cheapest_7 : decode cX11_cheapest 7 = .ok (.putfield 263, 3) := dg_cX11_cheapest_156.2.2.2.2.1
theorem dX11_cheapest_10 : decode cX11_cheapest 10 = .ok (.iconst 0, 1) := dg_cX11_cheapest_156.2.2.2.2.2.1
theorem dX11_cheapest_11 : decode cX11_cheapest 11 = .ok (.istore 4, 2) := dg_cX11_cheapest_156.2.2.2.2.2.2.1
theorem dX11_cheapest_13 : decode cX11_cheapest 13 = .ok (.iload 4, 2) := dg_cX11_cheapest_156.2.2.2.2.2.2.2.1
theorem dX11_cheapest_15 : decode cX11_cheapest 15 = .ok (.iconst 1, 1) := dg_cX11_cheapest_156.2.2.2.2.2.2.2.2.1
theorem dX11_cheapest_16 : decode cX11_cheapest 16 = .ok (.aload_n 0, 1) := dg_cX11_cheapest_156.2.2.2.2.2.2.2.2.2.1
theorem dX11_cheapest_17 : decode cX11_cheapest 17 = .ok (.getfield 84, 3) := dg_cX11_cheapest_156.2.2.2.2.2.2.2.2.2.2.1
theorem dX11_cheapest_20 : decode cX11_cheapest 20 = .ok (.ishl, 1) := dg_cX11_cheapest_156.2.2.2.2.2.2.2.2.2.2.2.1
theorem dX11_cheapest_21 : decode cX11_cheapest 21 = .ok (.if_icmp .ge 47, 3) := dg_cX11_cheapest_156.2.2.2.2.2.2.2.2.2.2.2.2.1
theorem dX11_cheapest_24 : decode cX11_cheapest 24 = .ok (.iload 4, 2) := dg_cX11_cheapest_156.2.2.2.2.2.2.2.2.2.2.2.2.2.1
theorem dX11_cheapest_26 : decode cX11_cheapest 26 = .ok (.invokestatic 266, 3) := dg_cX11_cheapest_156.2.2.2.2.2.2.2.2.2.2.2.2.2.2.1
theorem dX11_cheapest_29 : decode cX11_cheapest 29 = .ok (.iload_n 1, 1) := dg_cX11_cheapest_156.2.2.2.2.2.2.2.2.2.2.2.2.2.2.2
set_option maxRecDepth 100000 in
theorem dg_cX11_cheapest_157 : (decode cX11_cheapest 30 = .ok (.if_icmp .ne 32, 3)) ∧ (decode cX11_cheapest 33 = .ok (.aload_n 0, 1)) ∧ (decode cX11_cheapest 34 = .ok (.iload 4, 2)) ∧ (decode cX11_cheapest 36 = .ok (.iload_n 2, 1)) ∧ (decode cX11_cheapest 37 = .ok (.invokevirtual 269, 3)) ∧ (decode cX11_cheapest 40 = .ok (.ifCond .eq 22, 3)) ∧ (decode cX11_cheapest 43 = .ok (.aload_n 0, 1)) ∧ (decode cX11_cheapest 44 = .ok (.getfield 259, 3)) ∧ (decode cX11_cheapest 47 = .ok (.iload_n 3, 1)) ∧ (decode cX11_cheapest 48 = .ok (.if_icmp .ge 14, 3)) ∧ (decode cX11_cheapest 51 = .ok (.aload_n 0, 1)) ∧ (decode cX11_cheapest 52 = .ok (.getfield 259, 3)) ∧ (decode cX11_cheapest 55 = .ok (.istore_n 3, 1)) ∧ (decode cX11_cheapest 56 = .ok (.aload_n 0, 1)) ∧ (decode cX11_cheapest 57 = .ok (.iload 4, 2)) ∧ (decode cX11_cheapest 59 = .ok (.putfield 263, 3)) := by decide +kernel
theorem dX11_cheapest_30 : decode cX11_cheapest 30 = .ok (.if_icmp .ne 32, 3) := dg_cX11_cheapest_157.1
theorem dX11_cheapest_33 : decode cX11_cheapest 33 = .ok (.aload_n 0, 1) := dg_cX11_cheapest_157.2.1
theorem dX11_cheapest_34 : decode cX11_cheapest 34 = .ok (.iload 4, 2) := dg_cX11_cheapest_157.2.2.1
theorem dX11_cheapest_36 : decode cX11_cheapest 36 = .ok (.iload_n 2, 1) := dg_cX11_cheapest_157.2.2.2.1
theorem dX11_cheapest_37 : decode cX11_cheapest 37 = .ok (.invokevirtual 269, 3) := dg_cX11_cheapest_157.2.2.2.2.1
theorem dX11_cheapest_40 : decode cX11_cheapest 40 = .ok (.ifCond .eq 22, 3) := dg_cX11_cheapest_157.2.2.2.2.2.1
theorem dX11_cheapest_43 : decode cX11_cheapest 43 = .ok (.aload_n 0, 1) := dg_cX11_cheapest_157.2.2.2.2.2.2.1
theorem dX11_cheapest_44 : decode cX11_cheapest 44 = .ok (.getfield 259, 3) := dg_cX11_cheapest_157.2.2.2.2.2.2.2.1
theorem dX11_cheapest_47 : decode cX11_cheapest 47 = .ok (.iload_n 3, 1) := dg_cX11_cheapest_157.2.2.2.2.2.2.2.2.1
theorem dX11_cheapest_48 : decode cX11_cheapest 48 = .ok (.if_icmp .ge 14, 3) := dg_cX11_cheapest_157.2.2.2.2.2.2.2.2.2.1
theorem dX11_cheapest_51 : decode cX11_cheapest 51 = .ok (.aload_n 0, 1) := dg_cX11_cheapest_157.2.2.2.2.2.2.2.2.2.2.1
theorem dX11_cheapest_52 : decode cX11_cheapest 52 = .ok (.getfield 259, 3) := dg_cX11_cheapest_157.2.2.2.2.2.2.2.2.2.2.2.1
theorem dX11_cheapest_55 : decode cX11_cheapest 55 = .ok (.istore_n 3, 1) := dg_cX11_cheapest_157.2.2.2.2.2.2.2.2.2.2.2.2.1
theorem dX11_cheapest_56 : decode cX11_cheapest 56 = .ok (.aload_n 0, 1) := dg_cX11_cheapest_157.2.2.2.2.2.2.2.2.2.2.2.2.2.1
theorem dX11_cheapest_57 : decode cX11_cheapest 57 = .ok (.iload 4, 2) := dg_cX11_cheapest_157.2.2.2.2.2.2.2.2.2.2.2.2.2.2.1
theorem dX11_cheapest_59 : decode cX11_cheapest 59 = .ok (.putfield 263, 3) := dg_cX11_cheapest_157.2.2.2.2.2.2.2.2.2.2.2.2.2.2.2
set_option maxRecDepth 100000 in
theorem dg_cX11_cheapest_158 : (decode cX11_cheapest 62 = .ok (.iinc 4 1, 3)) ∧ (decode cX11_cheapest 65 = .ok (.goto (-52), 3)) ∧ (decode cX11_cheapest 68 = .ok (.iload_n 3, 1)) ∧ (decode cX11_cheapest 69 = .ok (.ireturn, 1)) := by decide +kernel
theorem dX11_cheapest_62 : decode cX11_cheapest 62 = .ok (.iinc 4 1, 3) := dg_cX11_cheapest_158.1
theorem dX11_cheapest_65 : decode cX11_cheapest 65 = .ok (.goto (-52), 3) := dg_cX11_cheapest_158.2.1
theorem dX11_cheapest_68 : decode cX11_cheapest 68 = .ok (.iload_n 3, 1) := dg_cX11_cheapest_158.2.2.1
theorem dX11_cheapest_69 : decode cX11_cheapest 69 = .ok (.ireturn, 1) := dg_cX11_cheapest_158.2.2.2
set_option maxRecDepth 100000 in
theorem dg_cX11_feast_159 : (decode cX11_feast 0 = .ok (.iload_n 1, 1)) ∧ (decode cX11_feast 1 = .ok (.i2l, 1)) ∧ (decode cX11_feast 2 = .ok (.lconst 1, 1)) ∧ (decode cX11_feast 3 = .ok (.ldc2_w 272, 3)) ∧ (decode cX11_feast 6 = .ok (.invokestatic 92, 3)) ∧ (decode cX11_feast 9 = .ok (.ifCond .eq 13, 3)) ∧ (decode cX11_feast 12 = .ok (.iload_n 2, 1)) ∧ (decode cX11_feast 13 = .ok (.i2l, 1)) ∧ (decode cX11_feast 14 = .ok (.lconst 0, 1)) ∧ (decode cX11_feast 15 = .ok (.lconst 1, 1)) ∧ (decode cX11_feast 16 = .ok (.invokestatic 92, 3)) ∧ (decode cX11_feast 19 = .ok (.ifCond .ne 5, 3)) ∧ (decode cX11_feast 22 = .ok (.iconst (-1), 1)) ∧ (decode cX11_feast 23 = .ok (.ireturn, 1)) ∧ (decode cX11_feast 24 = .ok (.aload_n 0, 1)) ∧ (decode cX11_feast 25 = .ok (.iload_n 1, 1)) := by decide +kernel
theorem dX11_feast_0 : decode cX11_feast 0 = .ok (.iload_n 1, 1) := dg_cX11_feast_159.1
theorem dX11_feast_1 : decode cX11_feast 1 = .ok (.i2l, 1) := dg_cX11_feast_159.2.1
theorem dX11_feast_2 : decode cX11_feast 2 = .ok (.lconst 1, 1) := dg_cX11_feast_159.2.2.1
theorem dX11_feast_3 : decode cX11_feast 3 = .ok (.ldc2_w 272, 3) := dg_cX11_feast_159.2.2.2.1
theorem dX11_feast_6 : decode cX11_feast 6 = .ok (.invokestatic 92, 3) := dg_cX11_feast_159.2.2.2.2.1
theorem dX11_feast_9 : decode cX11_feast 9 = .ok (.ifCond .eq 13, 3) := dg_cX11_feast_159.2.2.2.2.2.1
theorem dX11_feast_12 : decode cX11_feast 12 = .ok (.iload_n 2, 1) := dg_cX11_feast_159.2.2.2.2.2.2.1
theorem dX11_feast_13 : decode cX11_feast 13 = .ok (.i2l, 1) := dg_cX11_feast_159.2.2.2.2.2.2.2.1
theorem dX11_feast_14 : decode cX11_feast 14 = .ok (.lconst 0, 1) := dg_cX11_feast_159.2.2.2.2.2.2.2.2.1
theorem dX11_feast_15 : decode cX11_feast 15 = .ok (.lconst 1, 1) := dg_cX11_feast_159.2.2.2.2.2.2.2.2.2.1
theorem dX11_feast_16 : decode cX11_feast 16 = .ok (.invokestatic 92, 3) := dg_cX11_feast_159.2.2.2.2.2.2.2.2.2.2.1
theorem dX11_feast_19 : decode cX11_feast 19 = .ok (.ifCond .ne 5, 3) := dg_cX11_feast_159.2.2.2.2.2.2.2.2.2.2.2.1
theorem dX11_feast_22 : decode cX11_feast 22 = .ok (.iconst (-1), 1) := dg_cX11_feast_159.2.2.2.2.2.2.2.2.2.2.2.2.1
theorem dX11_feast_23 : decode cX11_feast 23 = .ok (.ireturn, 1) := dg_cX11_feast_159.2.2.2.2.2.2.2.2.2.2.2.2.2.1
theorem dX11_feast_24 : decode cX11_feast 24 = .ok (.aload_n 0, 1) := dg_cX11_feast_159.2.2.2.2.2.2.2.2.2.2.2.2.2.2.1
theorem dX11_feast_25 : decode cX11_feast 25 = .ok (.iload_n 1, 1) := dg_cX11_feast_159.2.2.2.2.2.2.2.2.2.2.2.2.2.2.2
set_option maxRecDepth 100000 in
theorem dg_cX11_feast_160 : (decode cX11_feast 26 = .ok (.ldc_w 262, 3)) ∧ (decode cX11_feast 29 = .ok (.invokevirtual 274, 3)) ∧ (decode cX11_feast 32 = .ok (.istore_n 3, 1)) ∧ (decode cX11_feast 33 = .ok (.aload_n 0, 1)) ∧ (decode cX11_feast 34 = .ok (.getfield 263, 3)) ∧ (decode cX11_feast 37 = .ok (.bipush (-4), 2)) ∧ (decode cX11_feast 39 = .ok (.if_icmp .ne 8, 3)) ∧ (decode cX11_feast 42 = .ok (.bipush (-4), 2)) ∧ (decode cX11_feast 44 = .ok (.goto 15, 3)) ∧ (decode cX11_feast 47 = .ok (.iload_n 2, 1)) ∧ (decode cX11_feast 48 = .ok (.ifCond .ne 7, 3)) ∧ (decode cX11_feast 51 = .ok (.iload_n 3, 1)) ∧ (decode cX11_feast 52 = .ok (.goto 7, 3)) ∧ (decode cX11_feast 55 = .ok (.aload_n 0, 1)) ∧ (decode cX11_feast 56 = .ok (.getfield 263, 3)) ∧ (decode cX11_feast 59 = .ok (.ireturn, 1)) := by decide +kernel
theorem dX11_feast_26 : decode cX11_feast 26 = .ok (.ldc_w 262, 3) := dg_cX11_feast_160.1
theorem dX11_feast_29 : decode cX11_feast 29 = .ok (.invokevirtual 274, 3) := dg_cX11_feast_160.2.1
theorem dX11_feast_32 : decode cX11_feast 32 = .ok (.istore_n 3, 1) := dg_cX11_feast_160.2.2.1
theorem dX11_feast_33 : decode cX11_feast 33 = .ok (.aload_n 0, 1) := dg_cX11_feast_160.2.2.2.1
theorem dX11_feast_34 : decode cX11_feast 34 = .ok (.getfield 263, 3) := dg_cX11_feast_160.2.2.2.2.1
theorem dX11_feast_37 : decode cX11_feast 37 = .ok (.bipush (-4), 2) := dg_cX11_feast_160.2.2.2.2.2.1
theorem dX11_feast_39 : decode cX11_feast 39 = .ok (.if_icmp .ne 8, 3) := dg_cX11_feast_160.2.2.2.2.2.2.1
theorem dX11_feast_42 : decode cX11_feast 42 = .ok (.bipush (-4), 2) := dg_cX11_feast_160.2.2.2.2.2.2.2.1
theorem dX11_feast_44 : decode cX11_feast 44 = .ok (.goto 15, 3) := dg_cX11_feast_160.2.2.2.2.2.2.2.2.1
theorem dX11_feast_47 : decode cX11_feast 47 = .ok (.iload_n 2, 1) := dg_cX11_feast_160.2.2.2.2.2.2.2.2.2.1
theorem dX11_feast_48 : decode cX11_feast 48 = .ok (.ifCond .ne 7, 3) := dg_cX11_feast_160.2.2.2.2.2.2.2.2.2.2.1
theorem dX11_feast_51 : decode cX11_feast 51 = .ok (.iload_n 3, 1) := dg_cX11_feast_160.2.2.2.2.2.2.2.2.2.2.2.1
theorem dX11_feast_52 : decode cX11_feast 52 = .ok (.goto 7, 3) := dg_cX11_feast_160.2.2.2.2.2.2.2.2.2.2.2.2.1
theorem dX11_feast_55 : decode cX11_feast 55 = .ok (.aload_n 0, 1) := dg_cX11_feast_160.2.2.2.2.2.2.2.2.2.2.2.2.2.1
theorem dX11_feast_56 : decode cX11_feast 56 = .ok (.getfield 263, 3) := dg_cX11_feast_160.2.2.2.2.2.2.2.2.2.2.2.2.2.2.1
theorem dX11_feast_59 : decode cX11_feast 59 = .ok (.ireturn, 1) := dg_cX11_feast_160.2.2.2.2.2.2.2.2.2.2.2.2.2.2.2
set_option maxRecDepth 100000 in
theorem dg_cX11_fair_161 : (decode cX11_fair 0 = .ok (.iload_n 1, 1)) ∧ (decode cX11_fair 1 = .ok (.i2l, 1)) ∧ (decode cX11_fair 2 = .ok (.lconst 1, 1)) ∧ (decode cX11_fair 3 = .ok (.ldc2_w 272, 3)) ∧ (decode cX11_fair 6 = .ok (.invokestatic 92, 3)) ∧ (decode cX11_fair 9 = .ok (.ifCond .eq 25, 3)) ∧ (decode cX11_fair 12 = .ok (.iload_n 2, 1)) ∧ (decode cX11_fair 13 = .ok (.i2l, 1)) ∧ (decode cX11_fair 14 = .ok (.lconst 0, 1)) ∧ (decode cX11_fair 15 = .ok (.ldc2_w 277, 3)) ∧ (decode cX11_fair 18 = .ok (.invokestatic 92, 3)) ∧ (decode cX11_fair 21 = .ok (.ifCond .eq 13, 3)) ∧ (decode cX11_fair 24 = .ok (.iload_n 3, 1)) ∧ (decode cX11_fair 25 = .ok (.i2l, 1)) ∧ (decode cX11_fair 26 = .ok (.lconst 0, 1)) ∧ (decode cX11_fair 27 = .ok (.lconst 1, 1)) := by decide +kernel
theorem dX11_fair_0 : decode cX11_fair 0 = .ok (.iload_n 1, 1) := dg_cX11_fair_161.1
theorem dX11_fair_1 : decode cX11_fair 1 = .ok (.i2l, 1) := dg_cX11_fair_161.2.1
theorem dX11_fair_2 : decode cX11_fair 2 = .ok (.lconst 1, 1) := dg_cX11_fair_161.2.2.1
theorem dX11_fair_3 : decode cX11_fair 3 = .ok (.ldc2_w 272, 3) := dg_cX11_fair_161.2.2.2.1
theorem dX11_fair_6 : decode cX11_fair 6 = .ok (.invokestatic 92, 3) := dg_cX11_fair_161.2.2.2.2.1
theorem dX11_fair_9 : decode cX11_fair 9 = .ok (.ifCond .eq 25, 3) := dg_cX11_fair_161.2.2.2.2.2.1
theorem dX11_fair_12 : decode cX11_fair 12 = .ok (.iload_n 2, 1) := dg_cX11_fair_161.2.2.2.2.2.2.1
theorem dX11_fair_13 : decode cX11_fair 13 = .ok (.i2l, 1) := dg_cX11_fair_161.2.2.2.2.2.2.2.1
theorem dX11_fair_14 : decode cX11_fair 14 = .ok (.lconst 0, 1) := dg_cX11_fair_161.2.2.2.2.2.2.2.2.1
theorem dX11_fair_15 : decode cX11_fair 15 = .ok (.ldc2_w 277, 3) := dg_cX11_fair_161.2.2.2.2.2.2.2.2.2.1
theorem dX11_fair_18 : decode cX11_fair 18 = .ok (.invokestatic 92, 3) := dg_cX11_fair_161.2.2.2.2.2.2.2.2.2.2.1
theorem dX11_fair_21 : decode cX11_fair 21 = .ok (.ifCond .eq 13, 3) := dg_cX11_fair_161.2.2.2.2.2.2.2.2.2.2.2.1
theorem dX11_fair_24 : decode cX11_fair 24 = .ok (.iload_n 3, 1) := dg_cX11_fair_161.2.2.2.2.2.2.2.2.2.2.2.2.1
theorem dX11_fair_25 : decode cX11_fair 25 = .ok (.i2l, 1) := dg_cX11_fair_161.2.2.2.2.2.2.2.2.2.2.2.2.2.1
theorem dX11_fair_26 : decode cX11_fair 26 = .ok (.lconst 0, 1) := dg_cX11_fair_161.2.2.2.2.2.2.2.2.2.2.2.2.2.2.1
theorem dX11_fair_27 : decode cX11_fair 27 = .ok (.lconst 1, 1) := dg_cX11_fair_161.2.2.2.2.2.2.2.2.2.2.2.2.2.2.2
set_option maxRecDepth 100000 in
theorem dg_cX11_fair_162 : (decode cX11_fair 28 = .ok (.invokestatic 92, 3)) ∧ (decode cX11_fair 31 = .ok (.ifCond .ne 5, 3)) ∧ (decode cX11_fair 34 = .ok (.iconst (-1), 1)) ∧ (decode cX11_fair 35 = .ok (.ireturn, 1)) ∧ (decode cX11_fair 36 = .ok (.aload_n 0, 1)) ∧ (decode cX11_fair 37 = .ok (.iload_n 1, 1)) ∧ (decode cX11_fair 38 = .ok (.iload_n 2, 1)) ∧ (decode cX11_fair 39 = .ok (.invokevirtual 274, 3)) ∧ (decode cX11_fair 42 = .ok (.istore 4, 2)) ∧ (decode cX11_fair 44 = .ok (.aload_n 0, 1)) ∧ (decode cX11_fair 45 = .ok (.getfield 263, 3)) ∧ (decode cX11_fair 48 = .ok (.bipush (-4), 2)) ∧ (decode cX11_fair 50 = .ok (.if_icmp .ne 8, 3)) ∧ (decode cX11_fair 53 = .ok (.bipush (-4), 2)) ∧ (decode cX11_fair 55 = .ok (.goto 16, 3)) ∧ (decode cX11_fair 58 = .ok (.iload_n 3, 1)) := by decide +kernel
theorem dX11_fair_28 : decode cX11_fair 28 = .ok (.invokestatic 92, 3) := dg_cX11_fair_162.1
theorem dX11_fair_31 : decode cX11_fair 31 = .ok (.ifCond .ne 5, 3) := dg_cX11_fair_162.2.1
theorem dX11_fair_34 : decode cX11_fair 34 = .ok (.iconst (-1), 1) := dg_cX11_fair_162.2.2.1
theorem dX11_fair_35 : decode cX11_fair 35 = .ok (.ireturn, 1) := dg_cX11_fair_162.2.2.2.1
theorem dX11_fair_36 : decode cX11_fair 36 = .ok (.aload_n 0, 1) := dg_cX11_fair_162.2.2.2.2.1
theorem dX11_fair_37 : decode cX11_fair 37 = .ok (.iload_n 1, 1) := dg_cX11_fair_162.2.2.2.2.2.1
theorem dX11_fair_38 : decode cX11_fair 38 = .ok (.iload_n 2, 1) := dg_cX11_fair_162.2.2.2.2.2.2.1
theorem dX11_fair_39 : decode cX11_fair 39 = .ok (.invokevirtual 274, 3) := dg_cX11_fair_162.2.2.2.2.2.2.2.1
theorem dX11_fair_42 : decode cX11_fair 42 = .ok (.istore 4, 2) := dg_cX11_fair_162.2.2.2.2.2.2.2.2.1
theorem dX11_fair_44 : decode cX11_fair 44 = .ok (.aload_n 0, 1) := dg_cX11_fair_162.2.2.2.2.2.2.2.2.2.1
theorem dX11_fair_45 : decode cX11_fair 45 = .ok (.getfield 263, 3) := dg_cX11_fair_162.2.2.2.2.2.2.2.2.2.2.1
theorem dX11_fair_48 : decode cX11_fair 48 = .ok (.bipush (-4), 2) := dg_cX11_fair_162.2.2.2.2.2.2.2.2.2.2.2.1
theorem dX11_fair_50 : decode cX11_fair 50 = .ok (.if_icmp .ne 8, 3) := dg_cX11_fair_162.2.2.2.2.2.2.2.2.2.2.2.2.1
theorem dX11_fair_53 : decode cX11_fair 53 = .ok (.bipush (-4), 2) := dg_cX11_fair_162.2.2.2.2.2.2.2.2.2.2.2.2.2.1
theorem dX11_fair_55 : decode cX11_fair 55 = .ok (.goto 16, 3) := dg_cX11_fair_162.2.2.2.2.2.2.2.2.2.2.2.2.2.2.1
theorem dX11_fair_58 : decode cX11_fair 58 = .ok (.iload_n 3, 1) := dg_cX11_fair_162.2.2.2.2.2.2.2.2.2.2.2.2.2.2.2
set_option maxRecDepth 100000 in
theorem dg_cX11_fair_163 : (decode cX11_fair 59 = .ok (.ifCond .ne 8, 3)) ∧ (decode cX11_fair 62 = .ok (.iload 4, 2)) ∧ (decode cX11_fair 64 = .ok (.goto 7, 3)) ∧ (decode cX11_fair 67 = .ok (.aload_n 0, 1)) ∧ (decode cX11_fair 68 = .ok (.getfield 263, 3)) ∧ (decode cX11_fair 71 = .ok (.ireturn, 1)) := by decide +kernel
theorem dX11_fair_59 : decode cX11_fair 59 = .ok (.ifCond .ne 8, 3) := dg_cX11_fair_163.1
theorem dX11_fair_62 : decode cX11_fair 62 = .ok (.iload 4, 2) := dg_cX11_fair_163.2.1
theorem dX11_fair_64 : decode cX11_fair 64 = .ok (.goto 7, 3) := dg_cX11_fair_163.2.2.1
theorem dX11_fair_67 : decode cX11_fair 67 = .ok (.aload_n 0, 1) := dg_cX11_fair_163.2.2.2.1
theorem dX11_fair_68 : decode cX11_fair 68 = .ok (.getfield 263, 3) := dg_cX11_fair_163.2.2.2.2.1
theorem dX11_fair_71 : decode cX11_fair 71 = .ok (.ireturn, 1) := dg_cX11_fair_163.2.2.2.2.2
set_option maxRecDepth 100000 in
theorem dg_cX11_canFollow_164 : (decode cX11_canFollow 0 = .ok (.aload_n 0, 1)) ∧ (decode cX11_canFollow 1 = .ok (.aload_n 0, 1)) ∧ (decode cX11_canFollow 2 = .ok (.iload_n 1, 1)) ∧ (decode cX11_canFollow 3 = .ok (.iconst 0, 1)) ∧ (decode cX11_canFollow 4 = .ok (.invokevirtual 172, 3)) ∧ (decode cX11_canFollow 7 = .ok (.aload_n 0, 1)) ∧ (decode cX11_canFollow 8 = .ok (.iload_n 2, 1)) ∧ (decode cX11_canFollow 9 = .ok (.iconst 0, 1)) ∧ (decode cX11_canFollow 10 = .ok (.invokevirtual 172, 3)) ∧ (decode cX11_canFollow 13 = .ok (.invokevirtual 195, 3)) ∧ (decode cX11_canFollow 16 = .ok (.ifCond .ne 7, 3)) ∧ (decode cX11_canFollow 19 = .ok (.iconst 1, 1)) ∧ (decode cX11_canFollow 20 = .ok (.goto 4, 3)) ∧ (decode cX11_canFollow 23 = .ok (.iconst 0, 1)) ∧ (decode cX11_canFollow 24 = .ok (.ireturn, 1)) := by decide +kernel
theorem dX11_canFollow_0 : decode cX11_canFollow 0 = .ok (.aload_n 0, 1) := dg_cX11_canFollow_164.1
theorem dX11_canFollow_1 : decode cX11_canFollow 1 = .ok (.aload_n 0, 1) := dg_cX11_canFollow_164.2.1
theorem dX11_canFollow_2 : decode cX11_canFollow 2 = .ok (.iload_n 1, 1) := dg_cX11_canFollow_164.2.2.1
theorem dX11_canFollow_3 : decode cX11_canFollow 3 = .ok (.iconst 0, 1) := dg_cX11_canFollow_164.2.2.2.1
theorem dX11_canFollow_4 : decode cX11_canFollow 4 = .ok (.invokevirtual 172, 3) := dg_cX11_canFollow_164.2.2.2.2.1
theorem dX11_canFollow_7 : decode cX11_canFollow 7 = .ok (.aload_n 0, 1) := dg_cX11_canFollow_164.2.2.2.2.2.1
theorem dX11_canFollow_8 : decode cX11_canFollow 8 = .ok (.iload_n 2, 1) := dg_cX11_canFollow_164.2.2.2.2.2.2.1
theorem dX11_canFollow_9 : decode cX11_canFollow 9 = .ok (.iconst 0, 1) := dg_cX11_canFollow_164.2.2.2.2.2.2.2.1
theorem dX11_canFollow_10 : decode cX11_canFollow 10 = .ok (.invokevirtual 172, 3) := dg_cX11_canFollow_164.2.2.2.2.2.2.2.2.1
theorem dX11_canFollow_13 : decode cX11_canFollow 13 = .ok (.invokevirtual 195, 3) := dg_cX11_canFollow_164.2.2.2.2.2.2.2.2.2.1
theorem dX11_canFollow_16 : decode cX11_canFollow 16 = .ok (.ifCond .ne 7, 3) := dg_cX11_canFollow_164.2.2.2.2.2.2.2.2.2.2.1
theorem dX11_canFollow_19 : decode cX11_canFollow 19 = .ok (.iconst 1, 1) := dg_cX11_canFollow_164.2.2.2.2.2.2.2.2.2.2.2.1
theorem dX11_canFollow_20 : decode cX11_canFollow 20 = .ok (.goto 4, 3) := dg_cX11_canFollow_164.2.2.2.2.2.2.2.2.2.2.2.2.1
theorem dX11_canFollow_23 : decode cX11_canFollow 23 = .ok (.iconst 0, 1) := dg_cX11_canFollow_164.2.2.2.2.2.2.2.2.2.2.2.2.2.1
theorem dX11_canFollow_24 : decode cX11_canFollow 24 = .ok (.ireturn, 1) := dg_cX11_canFollow_164.2.2.2.2.2.2.2.2.2.2.2.2.2.2
set_option maxRecDepth 100000 in
theorem dg_cX11_restOf_165 : (decode cX11_restOf 0 = .ok (.ldc_w 262, 3)) ∧ (decode cX11_restOf 3 = .ok (.istore_n 3, 1)) ∧ (decode cX11_restOf 4 = .ok (.iconst 0, 1)) ∧ (decode cX11_restOf 5 = .ok (.istore 4, 2)) ∧ (decode cX11_restOf 7 = .ok (.iload 4, 2)) ∧ (decode cX11_restOf 9 = .ok (.aload_n 0, 1)) ∧ (decode cX11_restOf 10 = .ok (.getfield 81, 3)) ∧ (decode cX11_restOf 13 = .ok (.if_icmp .ge 58, 3)) ∧ (decode cX11_restOf 16 = .ok (.iload_n 2, 1)) ∧ (decode cX11_restOf 17 = .ok (.bipush (-4), 2)) ∧ (decode cX11_restOf 19 = .ok (.if_icmp .eq 13, 3)) ∧ (decode cX11_restOf 22 = .ok (.aload_n 0, 1)) ∧ (decode cX11_restOf 23 = .ok (.iload_n 2, 1)) ∧ (decode cX11_restOf 24 = .ok (.iload 4, 2)) ∧ (decode cX11_restOf 26 = .ok (.invokevirtual 279, 3)) ∧ (decode cX11_restOf 29 = .ok (.ifCond .eq 36, 3)) := by decide +kernel
theorem dX11_restOf_0 : decode cX11_restOf 0 = .ok (.ldc_w 262, 3) := dg_cX11_restOf_165.1
theorem dX11_restOf_3 : decode cX11_restOf 3 = .ok (.istore_n 3, 1) := dg_cX11_restOf_165.2.1
theorem dX11_restOf_4 : decode cX11_restOf 4 = .ok (.iconst 0, 1) := dg_cX11_restOf_165.2.2.1
theorem dX11_restOf_5 : decode cX11_restOf 5 = .ok (.istore 4, 2) := dg_cX11_restOf_165.2.2.2.1
theorem dX11_restOf_7 : decode cX11_restOf 7 = .ok (.iload 4, 2) := dg_cX11_restOf_165.2.2.2.2.1
theorem dX11_restOf_9 : decode cX11_restOf 9 = .ok (.aload_n 0, 1) := dg_cX11_restOf_165.2.2.2.2.2.1
theorem dX11_restOf_10 : decode cX11_restOf 10 = .ok (.getfield 81, 3) := dg_cX11_restOf_165.2.2.2.2.2.2.1
theorem dX11_restOf_13 : decode cX11_restOf 13 = .ok (.if_icmp .ge 58, 3) := dg_cX11_restOf_165.2.2.2.2.2.2.2.1
theorem dX11_restOf_16 : decode cX11_restOf 16 = .ok (.iload_n 2, 1) := dg_cX11_restOf_165.2.2.2.2.2.2.2.2.1
theorem dX11_restOf_17 : decode cX11_restOf 17 = .ok (.bipush (-4), 2) := dg_cX11_restOf_165.2.2.2.2.2.2.2.2.2.1
theorem dX11_restOf_19 : decode cX11_restOf 19 = .ok (.if_icmp .eq 13, 3) := dg_cX11_restOf_165.2.2.2.2.2.2.2.2.2.2.1
theorem dX11_restOf_22 : decode cX11_restOf 22 = .ok (.aload_n 0, 1) := dg_cX11_restOf_165.2.2.2.2.2.2.2.2.2.2.2.1
theorem dX11_restOf_23 : decode cX11_restOf 23 = .ok (.iload_n 2, 1) := dg_cX11_restOf_165.2.2.2.2.2.2.2.2.2.2.2.2.1
theorem dX11_restOf_24 : decode cX11_restOf 24 = .ok (.iload 4, 2) := dg_cX11_restOf_165.2.2.2.2.2.2.2.2.2.2.2.2.2.1
theorem dX11_restOf_26 : decode cX11_restOf 26 = .ok (.invokevirtual 279, 3) := dg_cX11_restOf_165.2.2.2.2.2.2.2.2.2.2.2.2.2.2.1
theorem dX11_restOf_29 : decode cX11_restOf 29 = .ok (.ifCond .eq 36, 3) := dg_cX11_restOf_165.2.2.2.2.2.2.2.2.2.2.2.2.2.2.2
set_option maxRecDepth 100000 in
theorem dg_cX11_restOf_166 : (decode cX11_restOf 32 = .ok (.aload_n 0, 1)) ∧ (decode cX11_restOf 33 = .ok (.getfield 35, 3)) ∧ (decode cX11_restOf 36 = .ok (.bipush 12, 2)) ∧ (decode cX11_restOf 38 = .ok (.iload_n 1, 1)) ∧ (decode cX11_restOf 39 = .ok (.imul, 1)) ∧ (decode cX11_restOf 40 = .ok (.iload 4, 2)) ∧ (decode cX11_restOf 42 = .ok (.iadd, 1)) ∧ (decode cX11_restOf 43 = .ok (.iaload, 1)) ∧ (decode cX11_restOf 44 = .ok (.iload_n 3, 1)) ∧ (decode cX11_restOf 45 = .ok (.if_icmp .ge 18, 3)) ∧ (decode cX11_restOf 48 = .ok (.aload_n 0, 1)) ∧ (decode cX11_restOf 49 = .ok (.getfield 35, 3)) ∧ (decode cX11_restOf 52 = .ok (.bipush 12, 2)) ∧ (decode cX11_restOf 54 = .ok (.iload_n 1, 1)) ∧ (decode cX11_restOf 55 = .ok (.imul, 1)) ∧ (decode cX11_restOf 56 = .ok (.iload 4, 2)) := by decide +kernel
theorem dX11_restOf_32 : decode cX11_restOf 32 = .ok (.aload_n 0, 1) := dg_cX11_restOf_166.1
theorem dX11_restOf_33 : decode cX11_restOf 33 = .ok (.getfield 35, 3) := dg_cX11_restOf_166.2.1
theorem dX11_restOf_36 : decode cX11_restOf 36 = .ok (.bipush 12, 2) := dg_cX11_restOf_166.2.2.1
theorem dX11_restOf_38 : decode cX11_restOf 38 = .ok (.iload_n 1, 1) := dg_cX11_restOf_166.2.2.2.1
theorem dX11_restOf_39 : decode cX11_restOf 39 = .ok (.imul, 1) := dg_cX11_restOf_166.2.2.2.2.1
theorem dX11_restOf_40 : decode cX11_restOf 40 = .ok (.iload 4, 2) := dg_cX11_restOf_166.2.2.2.2.2.1
theorem dX11_restOf_42 : decode cX11_restOf 42 = .ok (.iadd, 1) := dg_cX11_restOf_166.2.2.2.2.2.2.1
theorem dX11_restOf_43 : decode cX11_restOf 43 = .ok (.iaload, 1) := dg_cX11_restOf_166.2.2.2.2.2.2.2.1
theorem dX11_restOf_44 : decode cX11_restOf 44 = .ok (.iload_n 3, 1) := dg_cX11_restOf_166.2.2.2.2.2.2.2.2.1
theorem dX11_restOf_45 : decode cX11_restOf 45 = .ok (.if_icmp .ge 18, 3) := dg_cX11_restOf_166.2.2.2.2.2.2.2.2.2.1
theorem dX11_restOf_48 : decode cX11_restOf 48 = .ok (.aload_n 0, 1) := dg_cX11_restOf_166.2.2.2.2.2.2.2.2.2.2.1
theorem dX11_restOf_49 : decode cX11_restOf 49 = .ok (.getfield 35, 3) := dg_cX11_restOf_166.2.2.2.2.2.2.2.2.2.2.2.1
theorem dX11_restOf_52 : decode cX11_restOf 52 = .ok (.bipush 12, 2) := dg_cX11_restOf_166.2.2.2.2.2.2.2.2.2.2.2.2.1
theorem dX11_restOf_54 : decode cX11_restOf 54 = .ok (.iload_n 1, 1) := dg_cX11_restOf_166.2.2.2.2.2.2.2.2.2.2.2.2.2.1
theorem dX11_restOf_55 : decode cX11_restOf 55 = .ok (.imul, 1) := dg_cX11_restOf_166.2.2.2.2.2.2.2.2.2.2.2.2.2.2.1
theorem dX11_restOf_56 : decode cX11_restOf 56 = .ok (.iload 4, 2) := dg_cX11_restOf_166.2.2.2.2.2.2.2.2.2.2.2.2.2.2.2
set_option maxRecDepth 100000 in
theorem dg_cX11_restOf_167 : (decode cX11_restOf 58 = .ok (.iadd, 1)) ∧ (decode cX11_restOf 59 = .ok (.iaload, 1)) ∧ (decode cX11_restOf 60 = .ok (.goto 4, 3)) ∧ (decode cX11_restOf 63 = .ok (.iload_n 3, 1)) ∧ (decode cX11_restOf 64 = .ok (.istore_n 3, 1)) ∧ (decode cX11_restOf 65 = .ok (.iinc 4 1, 3)) ∧ (decode cX11_restOf 68 = .ok (.goto (-61), 3)) ∧ (decode cX11_restOf 71 = .ok (.iload_n 3, 1)) ∧ (decode cX11_restOf 72 = .ok (.ireturn, 1)) := by decide +kernel
theorem dX11_restOf_58 : decode cX11_restOf 58 = .ok (.iadd, 1) := dg_cX11_restOf_167.1
theorem dX11_restOf_59 : decode cX11_restOf 59 = .ok (.iaload, 1) := dg_cX11_restOf_167.2.1
theorem dX11_restOf_60 : decode cX11_restOf 60 = .ok (.goto 4, 3) := dg_cX11_restOf_167.2.2.1
theorem dX11_restOf_63 : decode cX11_restOf 63 = .ok (.iload_n 3, 1) := dg_cX11_restOf_167.2.2.2.1
theorem dX11_restOf_64 : decode cX11_restOf 64 = .ok (.istore_n 3, 1) := dg_cX11_restOf_167.2.2.2.2.1
theorem dX11_restOf_65 : decode cX11_restOf 65 = .ok (.iinc 4 1, 3) := dg_cX11_restOf_167.2.2.2.2.2.1
theorem dX11_restOf_68 : decode cX11_restOf 68 = .ok (.goto (-61), 3) := dg_cX11_restOf_167.2.2.2.2.2.2.1
theorem dX11_restOf_71 : decode cX11_restOf 71 = .ok (.iload_n 3, 1) := dg_cX11_restOf_167.2.2.2.2.2.2.2.1
theorem dX11_restOf_72 : decode cX11_restOf 72 = .ok (.ireturn, 1) := dg_cX11_restOf_167.2.2.2.2.2.2.2.2
set_option maxRecDepth 100000 in
theorem dg_cX11_nearestSum_168 : (decode cX11_nearestSum 0 = .ok (.aload_n 0, 1)) ∧ (decode cX11_nearestSum 1 = .ok (.iload_n 1, 1)) ∧ (decode cX11_nearestSum 2 = .ok (.invokevirtual 180, 3)) ∧ (decode cX11_nearestSum 5 = .ok (.istore_n 3, 1)) ∧ (decode cX11_nearestSum 6 = .ok (.iload_n 3, 1)) ∧ (decode cX11_nearestSum 7 = .ok (.iconst 1, 1)) ∧ (decode cX11_nearestSum 8 = .ok (.isub, 1)) ∧ (decode cX11_nearestSum 9 = .ok (.istore 4, 2)) ∧ (decode cX11_nearestSum 11 = .ok (.iload 4, 2)) ∧ (decode cX11_nearestSum 13 = .ok (.ifCond .lt 122, 3)) ∧ (decode cX11_nearestSum 16 = .ok (.iconst 0, 1)) ∧ (decode cX11_nearestSum 17 = .ok (.istore 5, 2)) ∧ (decode cX11_nearestSum 19 = .ok (.iload 5, 2)) ∧ (decode cX11_nearestSum 21 = .ok (.aload_n 0, 1)) ∧ (decode cX11_nearestSum 22 = .ok (.getfield 81, 3)) ∧ (decode cX11_nearestSum 25 = .ok (.if_icmp .ge 104, 3)) := by decide +kernel
theorem dX11_nearestSum_0 : decode cX11_nearestSum 0 = .ok (.aload_n 0, 1) := dg_cX11_nearestSum_168.1
theorem dX11_nearestSum_1 : decode cX11_nearestSum 1 = .ok (.iload_n 1, 1) := dg_cX11_nearestSum_168.2.1
theorem dX11_nearestSum_2 : decode cX11_nearestSum 2 = .ok (.invokevirtual 180, 3) := dg_cX11_nearestSum_168.2.2.1
theorem dX11_nearestSum_5 : decode cX11_nearestSum 5 = .ok (.istore_n 3, 1) := dg_cX11_nearestSum_168.2.2.2.1
theorem dX11_nearestSum_6 : decode cX11_nearestSum 6 = .ok (.iload_n 3, 1) := dg_cX11_nearestSum_168.2.2.2.2.1
theorem dX11_nearestSum_7 : decode cX11_nearestSum 7 = .ok (.iconst 1, 1) := dg_cX11_nearestSum_168.2.2.2.2.2.1
theorem dX11_nearestSum_8 : decode cX11_nearestSum 8 = .ok (.isub, 1) := dg_cX11_nearestSum_168.2.2.2.2.2.2.1
theorem dX11_nearestSum_9 : decode cX11_nearestSum 9 = .ok (.istore 4, 2) := dg_cX11_nearestSum_168.2.2.2.2.2.2.2.1
theorem dX11_nearestSum_11 : decode cX11_nearestSum 11 = .ok (.iload 4, 2) := dg_cX11_nearestSum_168.2.2.2.2.2.2.2.2.1
theorem dX11_nearestSum_13 : decode cX11_nearestSum 13 = .ok (.ifCond .lt 122, 3) := dg_cX11_nearestSum_168.2.2.2.2.2.2.2.2.2.1
theorem dX11_nearestSum_16 : decode cX11_nearestSum 16 = .ok (.iconst 0, 1) := dg_cX11_nearestSum_168.2.2.2.2.2.2.2.2.2.2.1
theorem dX11_nearestSum_17 : decode cX11_nearestSum 17 = .ok (.istore 5, 2) := dg_cX11_nearestSum_168.2.2.2.2.2.2.2.2.2.2.2.1
theorem dX11_nearestSum_19 : decode cX11_nearestSum 19 = .ok (.iload 5, 2) := dg_cX11_nearestSum_168.2.2.2.2.2.2.2.2.2.2.2.2.1
theorem dX11_nearestSum_21 : decode cX11_nearestSum 21 = .ok (.aload_n 0, 1) := dg_cX11_nearestSum_168.2.2.2.2.2.2.2.2.2.2.2.2.2.1
theorem dX11_nearestSum_22 : decode cX11_nearestSum 22 = .ok (.getfield 81, 3) := dg_cX11_nearestSum_168.2.2.2.2.2.2.2.2.2.2.2.2.2.2.1
theorem dX11_nearestSum_25 : decode cX11_nearestSum 25 = .ok (.if_icmp .ge 104, 3) := dg_cX11_nearestSum_168.2.2.2.2.2.2.2.2.2.2.2.2.2.2.2
set_option maxRecDepth 100000 in
theorem dg_cX11_nearestSum_169 : (decode cX11_nearestSum 28 = .ok (.iload 4, 2)) ∧ (decode cX11_nearestSum 30 = .ok (.iload_n 3, 1)) ∧ (decode cX11_nearestSum 31 = .ok (.iconst 1, 1)) ∧ (decode cX11_nearestSum 32 = .ok (.isub, 1)) ∧ (decode cX11_nearestSum 33 = .ok (.if_icmp .ne 7, 3)) ∧ (decode cX11_nearestSum 36 = .ok (.iconst 0, 1)) ∧ (decode cX11_nearestSum 37 = .ok (.goto 13, 3)) ∧ (decode cX11_nearestSum 40 = .ok (.aload_n 0, 1)) ∧ (decode cX11_nearestSum 41 = .ok (.iload 4, 2)) ∧ (decode cX11_nearestSum 43 = .ok (.iconst 1, 1)) ∧ (decode cX11_nearestSum 44 = .ok (.iadd, 1)) ∧ (decode cX11_nearestSum 45 = .ok (.iload 5, 2)) ∧ (decode cX11_nearestSum 47 = .ok (.invokevirtual 282, 3)) ∧ (decode cX11_nearestSum 50 = .ok (.istore 6, 2)) ∧ (decode cX11_nearestSum 52 = .ok (.iload 5, 2)) ∧ (decode cX11_nearestSum 54 = .ok (.iload_n 2, 1)) := by decide +kernel
theorem dX11_nearestSum_28 : decode cX11_nearestSum 28 = .ok (.iload 4, 2) := dg_cX11_nearestSum_169.1
theorem dX11_nearestSum_30 : decode cX11_nearestSum 30 = .ok (.iload_n 3, 1) := dg_cX11_nearestSum_169.2.1
theorem dX11_nearestSum_31 : decode cX11_nearestSum 31 = .ok (.iconst 1, 1) := dg_cX11_nearestSum_169.2.2.1
theorem dX11_nearestSum_32 : decode cX11_nearestSum 32 = .ok (.isub, 1) := dg_cX11_nearestSum_169.2.2.2.1
theorem dX11_nearestSum_33 : decode cX11_nearestSum 33 = .ok (.if_icmp .ne 7, 3) := dg_cX11_nearestSum_169.2.2.2.2.1
theorem dX11_nearestSum_36 : decode cX11_nearestSum 36 = .ok (.iconst 0, 1) := dg_cX11_nearestSum_169.2.2.2.2.2.1
theorem dX11_nearestSum_37 : decode cX11_nearestSum 37 = .ok (.goto 13, 3) := dg_cX11_nearestSum_169.2.2.2.2.2.2.1
theorem dX11_nearestSum_40 : decode cX11_nearestSum 40 = .ok (.aload_n 0, 1) := dg_cX11_nearestSum_169.2.2.2.2.2.2.2.1
theorem dX11_nearestSum_41 : decode cX11_nearestSum 41 = .ok (.iload 4, 2) := dg_cX11_nearestSum_169.2.2.2.2.2.2.2.2.1
theorem dX11_nearestSum_43 : decode cX11_nearestSum 43 = .ok (.iconst 1, 1) := dg_cX11_nearestSum_169.2.2.2.2.2.2.2.2.2.1
theorem dX11_nearestSum_44 : decode cX11_nearestSum 44 = .ok (.iadd, 1) := dg_cX11_nearestSum_169.2.2.2.2.2.2.2.2.2.2.1
theorem dX11_nearestSum_45 : decode cX11_nearestSum 45 = .ok (.iload 5, 2) := dg_cX11_nearestSum_169.2.2.2.2.2.2.2.2.2.2.2.1
theorem dX11_nearestSum_47 : decode cX11_nearestSum 47 = .ok (.invokevirtual 282, 3) := dg_cX11_nearestSum_169.2.2.2.2.2.2.2.2.2.2.2.2.1
theorem dX11_nearestSum_50 : decode cX11_nearestSum 50 = .ok (.istore 6, 2) := dg_cX11_nearestSum_169.2.2.2.2.2.2.2.2.2.2.2.2.2.1
theorem dX11_nearestSum_52 : decode cX11_nearestSum 52 = .ok (.iload 5, 2) := dg_cX11_nearestSum_169.2.2.2.2.2.2.2.2.2.2.2.2.2.2.1
theorem dX11_nearestSum_54 : decode cX11_nearestSum 54 = .ok (.iload_n 2, 1) := dg_cX11_nearestSum_169.2.2.2.2.2.2.2.2.2.2.2.2.2.2.2
set_option maxRecDepth 100000 in
theorem dg_cX11_nearestSum_170 : (decode cX11_nearestSum 55 = .ok (.if_icmp .eq 25, 3)) ∧ (decode cX11_nearestSum 58 = .ok (.aload_n 0, 1)) ∧ (decode cX11_nearestSum 59 = .ok (.iload 5, 2)) ∧ (decode cX11_nearestSum 61 = .ok (.iconst 3, 1)) ∧ (decode cX11_nearestSum 62 = .ok (.invokevirtual 172, 3)) ∧ (decode cX11_nearestSum 65 = .ok (.ifCond .ne 15, 3)) ∧ (decode cX11_nearestSum 68 = .ok (.iload 6, 2)) ∧ (decode cX11_nearestSum 70 = .ok (.ldc_w 262, 3)) ∧ (decode cX11_nearestSum 73 = .ok (.if_icmp .ge 7, 3)) ∧ (decode cX11_nearestSum 76 = .ok (.iconst 1, 1)) ∧ (decode cX11_nearestSum 77 = .ok (.goto 4, 3)) ∧ (decode cX11_nearestSum 80 = .ok (.iconst 0, 1)) ∧ (decode cX11_nearestSum 81 = .ok (.istore 7, 2)) ∧ (decode cX11_nearestSum 83 = .ok (.aload_n 0, 1)) ∧ (decode cX11_nearestSum 84 = .ok (.getfield 35, 3)) ∧ (decode cX11_nearestSum 87 = .ok (.bipush 12, 2)) := by decide +kernel
theorem dX11_nearestSum_55 : decode cX11_nearestSum 55 = .ok (.if_icmp .eq 25, 3) := dg_cX11_nearestSum_170.1
theorem dX11_nearestSum_58 : decode cX11_nearestSum 58 = .ok (.aload_n 0, 1) := dg_cX11_nearestSum_170.2.1
theorem dX11_nearestSum_59 : decode cX11_nearestSum 59 = .ok (.iload 5, 2) := dg_cX11_nearestSum_170.2.2.1
theorem dX11_nearestSum_61 : decode cX11_nearestSum 61 = .ok (.iconst 3, 1) := dg_cX11_nearestSum_170.2.2.2.1
theorem dX11_nearestSum_62 : decode cX11_nearestSum 62 = .ok (.invokevirtual 172, 3) := dg_cX11_nearestSum_170.2.2.2.2.1
theorem dX11_nearestSum_65 : decode cX11_nearestSum 65 = .ok (.ifCond .ne 15, 3) := dg_cX11_nearestSum_170.2.2.2.2.2.1
theorem dX11_nearestSum_68 : decode cX11_nearestSum 68 = .ok (.iload 6, 2) := dg_cX11_nearestSum_170.2.2.2.2.2.2.1
theorem dX11_nearestSum_70 : decode cX11_nearestSum 70 = .ok (.ldc_w 262, 3) := dg_cX11_nearestSum_170.2.2.2.2.2.2.2.1
theorem dX11_nearestSum_73 : decode cX11_nearestSum 73 = .ok (.if_icmp .ge 7, 3) := dg_cX11_nearestSum_170.2.2.2.2.2.2.2.2.1
theorem dX11_nearestSum_76 : decode cX11_nearestSum 76 = .ok (.iconst 1, 1) := dg_cX11_nearestSum_170.2.2.2.2.2.2.2.2.2.1
theorem dX11_nearestSum_77 : decode cX11_nearestSum 77 = .ok (.goto 4, 3) := dg_cX11_nearestSum_170.2.2.2.2.2.2.2.2.2.2.1
theorem dX11_nearestSum_80 : decode cX11_nearestSum 80 = .ok (.iconst 0, 1) := dg_cX11_nearestSum_170.2.2.2.2.2.2.2.2.2.2.2.1
theorem dX11_nearestSum_81 : decode cX11_nearestSum 81 = .ok (.istore 7, 2) := dg_cX11_nearestSum_170.2.2.2.2.2.2.2.2.2.2.2.2.1
theorem dX11_nearestSum_83 : decode cX11_nearestSum 83 = .ok (.aload_n 0, 1) := dg_cX11_nearestSum_170.2.2.2.2.2.2.2.2.2.2.2.2.2.1
theorem dX11_nearestSum_84 : decode cX11_nearestSum 84 = .ok (.getfield 35, 3) := dg_cX11_nearestSum_170.2.2.2.2.2.2.2.2.2.2.2.2.2.2.1
theorem dX11_nearestSum_87 : decode cX11_nearestSum 87 = .ok (.bipush 12, 2) := dg_cX11_nearestSum_170.2.2.2.2.2.2.2.2.2.2.2.2.2.2.2
set_option maxRecDepth 100000 in
theorem dg_cX11_nearestSum_171 : (decode cX11_nearestSum 89 = .ok (.iload 4, 2)) ∧ (decode cX11_nearestSum 91 = .ok (.imul, 1)) ∧ (decode cX11_nearestSum 92 = .ok (.iload 5, 2)) ∧ (decode cX11_nearestSum 94 = .ok (.iadd, 1)) ∧ (decode cX11_nearestSum 95 = .ok (.iload 7, 2)) ∧ (decode cX11_nearestSum 97 = .ok (.ifCond .eq 22, 3)) ∧ (decode cX11_nearestSum 100 = .ok (.iload 6, 2)) ∧ (decode cX11_nearestSum 102 = .ok (.iload 5, 2)) ∧ (decode cX11_nearestSum 104 = .ok (.aload_n 0, 1)) ∧ (decode cX11_nearestSum 105 = .ok (.iload_n 1, 1)) ∧ (decode cX11_nearestSum 106 = .ok (.iload 4, 2)) ∧ (decode cX11_nearestSum 108 = .ok (.invokevirtual 183, 3)) ∧ (decode cX11_nearestSum 111 = .ok (.isub, 1)) ∧ (decode cX11_nearestSum 112 = .ok (.invokestatic 285, 3)) ∧ (decode cX11_nearestSum 115 = .ok (.iadd, 1)) ∧ (decode cX11_nearestSum 116 = .ok (.goto 6, 3)) := by decide +kernel
theorem dX11_nearestSum_89 : decode cX11_nearestSum 89 = .ok (.iload 4, 2) := dg_cX11_nearestSum_171.1
theorem dX11_nearestSum_91 : decode cX11_nearestSum 91 = .ok (.imul, 1) := dg_cX11_nearestSum_171.2.1
theorem dX11_nearestSum_92 : decode cX11_nearestSum 92 = .ok (.iload 5, 2) := dg_cX11_nearestSum_171.2.2.1
theorem dX11_nearestSum_94 : decode cX11_nearestSum 94 = .ok (.iadd, 1) := dg_cX11_nearestSum_171.2.2.2.1
theorem dX11_nearestSum_95 : decode cX11_nearestSum 95 = .ok (.iload 7, 2) := dg_cX11_nearestSum_171.2.2.2.2.1
theorem dX11_nearestSum_97 : decode cX11_nearestSum 97 = .ok (.ifCond .eq 22, 3) := dg_cX11_nearestSum_171.2.2.2.2.2.1
theorem dX11_nearestSum_100 : decode cX11_nearestSum 100 = .ok (.iload 6, 2) := dg_cX11_nearestSum_171.2.2.2.2.2.2.1
theorem dX11_nearestSum_102 : decode cX11_nearestSum 102 = .ok (.iload 5, 2) := dg_cX11_nearestSum_171.2.2.2.2.2.2.2.1
theorem dX11_nearestSum_104 : decode cX11_nearestSum 104 = .ok (.aload_n 0, 1) := dg_cX11_nearestSum_171.2.2.2.2.2.2.2.2.1
theorem dX11_nearestSum_105 : decode cX11_nearestSum 105 = .ok (.iload_n 1, 1) := dg_cX11_nearestSum_171.2.2.2.2.2.2.2.2.2.1
theorem dX11_nearestSum_106 : decode cX11_nearestSum 106 = .ok (.iload 4, 2) := dg_cX11_nearestSum_171.2.2.2.2.2.2.2.2.2.2.1
theorem dX11_nearestSum_108 : decode cX11_nearestSum 108 = .ok (.invokevirtual 183, 3) := dg_cX11_nearestSum_171.2.2.2.2.2.2.2.2.2.2.2.1
theorem dX11_nearestSum_111 : decode cX11_nearestSum 111 = .ok (.isub, 1) := dg_cX11_nearestSum_171.2.2.2.2.2.2.2.2.2.2.2.2.1
theorem dX11_nearestSum_112 : decode cX11_nearestSum 112 = .ok (.invokestatic 285, 3) := dg_cX11_nearestSum_171.2.2.2.2.2.2.2.2.2.2.2.2.2.1
theorem dX11_nearestSum_115 : decode cX11_nearestSum 115 = .ok (.iadd, 1) := dg_cX11_nearestSum_171.2.2.2.2.2.2.2.2.2.2.2.2.2.2.1
theorem dX11_nearestSum_116 : decode cX11_nearestSum 116 = .ok (.goto 6, 3) := dg_cX11_nearestSum_171.2.2.2.2.2.2.2.2.2.2.2.2.2.2.2
set_option maxRecDepth 100000 in
theorem dg_cX11_nearestSum_172 : (decode cX11_nearestSum 119 = .ok (.ldc_w 262, 3)) ∧ (decode cX11_nearestSum 122 = .ok (.iastore, 1)) ∧ (decode cX11_nearestSum 123 = .ok (.iinc 5 1, 3)) ∧ (decode cX11_nearestSum 126 = .ok (.goto (-107), 3)) ∧ (decode cX11_nearestSum 129 = .ok (.iinc 4 (-1), 3)) ∧ (decode cX11_nearestSum 132 = .ok (.goto (-121), 3)) ∧ (decode cX11_nearestSum 135 = .ok (.aload_n 0, 1)) ∧ (decode cX11_nearestSum 136 = .ok (.iconst 0, 1)) ∧ (decode cX11_nearestSum 137 = .ok (.bipush (-4), 2)) ∧ (decode cX11_nearestSum 139 = .ok (.invokevirtual 282, 3)) ∧ (decode cX11_nearestSum 142 = .ok (.ireturn, 1)) := by decide +kernel
theorem dX11_nearestSum_119 : decode cX11_nearestSum 119 = .ok (.ldc_w 262, 3) := dg_cX11_nearestSum_172.1
theorem dX11_nearestSum_122 : decode cX11_nearestSum 122 = .ok (.iastore, 1) := dg_cX11_nearestSum_172.2.1
theorem dX11_nearestSum_123 : decode cX11_nearestSum 123 = .ok (.iinc 5 1, 3) := dg_cX11_nearestSum_172.2.2.1
theorem dX11_nearestSum_126 : decode cX11_nearestSum 126 = .ok (.goto (-107), 3) := dg_cX11_nearestSum_172.2.2.2.1
theorem dX11_nearestSum_129 : decode cX11_nearestSum 129 = .ok (.iinc 4 (-1), 3) := dg_cX11_nearestSum_172.2.2.2.2.1
theorem dX11_nearestSum_132 : decode cX11_nearestSum 132 = .ok (.goto (-121), 3) := dg_cX11_nearestSum_172.2.2.2.2.2.1
theorem dX11_nearestSum_135 : decode cX11_nearestSum 135 = .ok (.aload_n 0, 1) := dg_cX11_nearestSum_172.2.2.2.2.2.2.1
theorem dX11_nearestSum_136 : decode cX11_nearestSum 136 = .ok (.iconst 0, 1) := dg_cX11_nearestSum_172.2.2.2.2.2.2.2.1
theorem dX11_nearestSum_137 : decode cX11_nearestSum 137 = .ok (.bipush (-4), 2) := dg_cX11_nearestSum_172.2.2.2.2.2.2.2.2.1
theorem dX11_nearestSum_139 : decode cX11_nearestSum 139 = .ok (.invokevirtual 282, 3) := dg_cX11_nearestSum_172.2.2.2.2.2.2.2.2.2.1
theorem dX11_nearestSum_142 : decode cX11_nearestSum 142 = .ok (.ireturn, 1) := dg_cX11_nearestSum_172.2.2.2.2.2.2.2.2.2.2
set_option maxRecDepth 100000 in
theorem dg_cX11_nearestStroke_173 : (decode cX11_nearestStroke 0 = .ok (.bipush (-4), 2)) ∧ (decode cX11_nearestStroke 2 = .ok (.istore_n 2, 1)) ∧ (decode cX11_nearestStroke 3 = .ok (.iconst 0, 1)) ∧ (decode cX11_nearestStroke 4 = .ok (.istore_n 3, 1)) ∧ (decode cX11_nearestStroke 5 = .ok (.iload_n 3, 1)) ∧ (decode cX11_nearestStroke 6 = .ok (.iload_n 1, 1)) ∧ (decode cX11_nearestStroke 7 = .ok (.if_icmp .gt 97, 3)) ∧ (decode cX11_nearestStroke 10 = .ok (.aload_n 0, 1)) ∧ (decode cX11_nearestStroke 11 = .ok (.iload_n 3, 1)) ∧ (decode cX11_nearestStroke 12 = .ok (.iload_n 2, 1)) ∧ (decode cX11_nearestStroke 13 = .ok (.invokevirtual 282, 3)) ∧ (decode cX11_nearestStroke 16 = .ok (.istore 4, 2)) ∧ (decode cX11_nearestStroke 18 = .ok (.bipush (-4), 2)) ∧ (decode cX11_nearestStroke 20 = .ok (.istore 5, 2)) ∧ (decode cX11_nearestStroke 22 = .ok (.aload_n 0, 1)) ∧ (decode cX11_nearestStroke 23 = .ok (.getfield 81, 3)) := by decide +kernel
theorem dX11_nearestStroke_0 : decode cX11_nearestStroke 0 = .ok (.bipush (-4), 2) := dg_cX11_nearestStroke_173.1
theorem dX11_nearestStroke_2 : decode cX11_nearestStroke 2 = .ok (.istore_n 2, 1) := dg_cX11_nearestStroke_173.2.1
theorem dX11_nearestStroke_3 : decode cX11_nearestStroke 3 = .ok (.iconst 0, 1) := dg_cX11_nearestStroke_173.2.2.1
theorem dX11_nearestStroke_4 : decode cX11_nearestStroke 4 = .ok (.istore_n 3, 1) := dg_cX11_nearestStroke_173.2.2.2.1
theorem dX11_nearestStroke_5 : decode cX11_nearestStroke 5 = .ok (.iload_n 3, 1) := dg_cX11_nearestStroke_173.2.2.2.2.1
theorem dX11_nearestStroke_6 : decode cX11_nearestStroke 6 = .ok (.iload_n 1, 1) := dg_cX11_nearestStroke_173.2.2.2.2.2.1
theorem dX11_nearestStroke_7 : decode cX11_nearestStroke 7 = .ok (.if_icmp .gt 97, 3) := dg_cX11_nearestStroke_173.2.2.2.2.2.2.1
theorem dX11_nearestStroke_10 : decode cX11_nearestStroke 10 = .ok (.aload_n 0, 1) := dg_cX11_nearestStroke_173.2.2.2.2.2.2.2.1
theorem dX11_nearestStroke_11 : decode cX11_nearestStroke 11 = .ok (.iload_n 3, 1) := dg_cX11_nearestStroke_173.2.2.2.2.2.2.2.2.1
theorem dX11_nearestStroke_12 : decode cX11_nearestStroke 12 = .ok (.iload_n 2, 1) := dg_cX11_nearestStroke_173.2.2.2.2.2.2.2.2.2.1
theorem dX11_nearestStroke_13 : decode cX11_nearestStroke 13 = .ok (.invokevirtual 282, 3) := dg_cX11_nearestStroke_173.2.2.2.2.2.2.2.2.2.2.1
theorem dX11_nearestStroke_16 : decode cX11_nearestStroke 16 = .ok (.istore 4, 2) := dg_cX11_nearestStroke_173.2.2.2.2.2.2.2.2.2.2.2.1
theorem dX11_nearestStroke_18 : decode cX11_nearestStroke 18 = .ok (.bipush (-4), 2) := dg_cX11_nearestStroke_173.2.2.2.2.2.2.2.2.2.2.2.2.1
theorem dX11_nearestStroke_20 : decode cX11_nearestStroke 20 = .ok (.istore 5, 2) := dg_cX11_nearestStroke_173.2.2.2.2.2.2.2.2.2.2.2.2.2.1
theorem dX11_nearestStroke_22 : decode cX11_nearestStroke 22 = .ok (.aload_n 0, 1) := dg_cX11_nearestStroke_173.2.2.2.2.2.2.2.2.2.2.2.2.2.2.1
theorem dX11_nearestStroke_23 : decode cX11_nearestStroke 23 = .ok (.getfield 81, 3) := dg_cX11_nearestStroke_173.2.2.2.2.2.2.2.2.2.2.2.2.2.2.2
set_option maxRecDepth 100000 in
theorem dg_cX11_nearestStroke_174 : (decode cX11_nearestStroke 26 = .ok (.iconst 1, 1)) ∧ (decode cX11_nearestStroke 27 = .ok (.isub, 1)) ∧ (decode cX11_nearestStroke 28 = .ok (.istore 6, 2)) ∧ (decode cX11_nearestStroke 30 = .ok (.iload 6, 2)) ∧ (decode cX11_nearestStroke 32 = .ok (.ifCond .lt 63, 3)) ∧ (decode cX11_nearestStroke 35 = .ok (.iload_n 2, 1)) ∧ (decode cX11_nearestStroke 36 = .ok (.bipush (-4), 2)) ∧ (decode cX11_nearestStroke 38 = .ok (.if_icmp .eq 13, 3)) ∧ (decode cX11_nearestStroke 41 = .ok (.aload_n 0, 1)) ∧ (decode cX11_nearestStroke 42 = .ok (.iload_n 2, 1)) ∧ (decode cX11_nearestStroke 43 = .ok (.iload 6, 2)) ∧ (decode cX11_nearestStroke 45 = .ok (.invokevirtual 279, 3)) ∧ (decode cX11_nearestStroke 48 = .ok (.ifCond .eq 24, 3)) ∧ (decode cX11_nearestStroke 51 = .ok (.aload_n 0, 1)) ∧ (decode cX11_nearestStroke 52 = .ok (.getfield 35, 3)) ∧ (decode cX11_nearestStroke 55 = .ok (.bipush 12, 2)) := by decide +kernel
theorem dX11_nearestStroke_26 : decode cX11_nearestStroke 26 = .ok (.iconst 1, 1) := dg_cX11_nearestStroke_174.1
theorem dX11_nearestStroke_27 : decode cX11_nearestStroke 27 = .ok (.isub, 1) := dg_cX11_nearestStroke_174.2.1
theorem dX11_nearestStroke_28 : decode cX11_nearestStroke 28 = .ok (.istore 6, 2) := dg_cX11_nearestStroke_174.2.2.1
theorem dX11_nearestStroke_30 : decode cX11_nearestStroke 30 = .ok (.iload 6, 2) := dg_cX11_nearestStroke_174.2.2.2.1
theorem dX11_nearestStroke_32 : decode cX11_nearestStroke 32 = .ok (.ifCond .lt 63, 3) := dg_cX11_nearestStroke_174.2.2.2.2.1
theorem dX11_nearestStroke_35 : decode cX11_nearestStroke 35 = .ok (.iload_n 2, 1) := dg_cX11_nearestStroke_174.2.2.2.2.2.1
theorem dX11_nearestStroke_36 : decode cX11_nearestStroke 36 = .ok (.bipush (-4), 2) := dg_cX11_nearestStroke_174.2.2.2.2.2.2.1
theorem dX11_nearestStroke_38 : decode cX11_nearestStroke 38 = .ok (.if_icmp .eq 13, 3) := dg_cX11_nearestStroke_174.2.2.2.2.2.2.2.1
theorem dX11_nearestStroke_41 : decode cX11_nearestStroke 41 = .ok (.aload_n 0, 1) := dg_cX11_nearestStroke_174.2.2.2.2.2.2.2.2.1
theorem dX11_nearestStroke_42 : decode cX11_nearestStroke 42 = .ok (.iload_n 2, 1) := dg_cX11_nearestStroke_174.2.2.2.2.2.2.2.2.2.1
theorem dX11_nearestStroke_43 : decode cX11_nearestStroke 43 = .ok (.iload 6, 2) := dg_cX11_nearestStroke_174.2.2.2.2.2.2.2.2.2.2.1
theorem dX11_nearestStroke_45 : decode cX11_nearestStroke 45 = .ok (.invokevirtual 279, 3) := dg_cX11_nearestStroke_174.2.2.2.2.2.2.2.2.2.2.2.1
theorem dX11_nearestStroke_48 : decode cX11_nearestStroke 48 = .ok (.ifCond .eq 24, 3) := dg_cX11_nearestStroke_174.2.2.2.2.2.2.2.2.2.2.2.2.1
theorem dX11_nearestStroke_51 : decode cX11_nearestStroke 51 = .ok (.aload_n 0, 1) := dg_cX11_nearestStroke_174.2.2.2.2.2.2.2.2.2.2.2.2.2.1
theorem dX11_nearestStroke_52 : decode cX11_nearestStroke 52 = .ok (.getfield 35, 3) := dg_cX11_nearestStroke_174.2.2.2.2.2.2.2.2.2.2.2.2.2.2.1
theorem dX11_nearestStroke_55 : decode cX11_nearestStroke 55 = .ok (.bipush 12, 2) := dg_cX11_nearestStroke_174.2.2.2.2.2.2.2.2.2.2.2.2.2.2.2
set_option maxRecDepth 100000 in
theorem dg_cX11_nearestStroke_175 : (decode cX11_nearestStroke 57 = .ok (.iload_n 3, 1)) ∧ (decode cX11_nearestStroke 58 = .ok (.imul, 1)) ∧ (decode cX11_nearestStroke 59 = .ok (.iload 6, 2)) ∧ (decode cX11_nearestStroke 61 = .ok (.iadd, 1)) ∧ (decode cX11_nearestStroke 62 = .ok (.iaload, 1)) ∧ (decode cX11_nearestStroke 63 = .ok (.iload 4, 2)) ∧ (decode cX11_nearestStroke 65 = .ok (.if_icmp .ne 7, 3)) ∧ (decode cX11_nearestStroke 68 = .ok (.iconst 1, 1)) ∧ (decode cX11_nearestStroke 69 = .ok (.goto 4, 3)) ∧ (decode cX11_nearestStroke 72 = .ok (.iconst 0, 1)) ∧ (decode cX11_nearestStroke 73 = .ok (.istore 7, 2)) ∧ (decode cX11_nearestStroke 75 = .ok (.iload 7, 2)) ∧ (decode cX11_nearestStroke 77 = .ok (.ifCond .eq 8, 3)) ∧ (decode cX11_nearestStroke 80 = .ok (.iload 6, 2)) ∧ (decode cX11_nearestStroke 82 = .ok (.goto 5, 3)) ∧ (decode cX11_nearestStroke 85 = .ok (.iload 5, 2)) := by decide +kernel
theorem dX11_nearestStroke_57 : decode cX11_nearestStroke 57 = .ok (.iload_n 3, 1) := dg_cX11_nearestStroke_175.1
theorem dX11_nearestStroke_58 : decode cX11_nearestStroke 58 = .ok (.imul, 1) := dg_cX11_nearestStroke_175.2.1
theorem dX11_nearestStroke_59 : decode cX11_nearestStroke 59 = .ok (.iload 6, 2) := dg_cX11_nearestStroke_175.2.2.1
theorem dX11_nearestStroke_61 : decode cX11_nearestStroke 61 = .ok (.iadd, 1) := dg_cX11_nearestStroke_175.2.2.2.1
theorem dX11_nearestStroke_62 : decode cX11_nearestStroke 62 = .ok (.iaload, 1) := dg_cX11_nearestStroke_175.2.2.2.2.1
theorem dX11_nearestStroke_63 : decode cX11_nearestStroke 63 = .ok (.iload 4, 2) := dg_cX11_nearestStroke_175.2.2.2.2.2.1
theorem dX11_nearestStroke_65 : decode cX11_nearestStroke 65 = .ok (.if_icmp .ne 7, 3) := dg_cX11_nearestStroke_175.2.2.2.2.2.2.1
theorem dX11_nearestStroke_68 : decode cX11_nearestStroke 68 = .ok (.iconst 1, 1) := dg_cX11_nearestStroke_175.2.2.2.2.2.2.2.1
theorem dX11_nearestStroke_69 : decode cX11_nearestStroke 69 = .ok (.goto 4, 3) := dg_cX11_nearestStroke_175.2.2.2.2.2.2.2.2.1
theorem dX11_nearestStroke_72 : decode cX11_nearestStroke 72 = .ok (.iconst 0, 1) := dg_cX11_nearestStroke_175.2.2.2.2.2.2.2.2.2.1
theorem dX11_nearestStroke_73 : decode cX11_nearestStroke 73 = .ok (.istore 7, 2) := dg_cX11_nearestStroke_175.2.2.2.2.2.2.2.2.2.2.1
theorem dX11_nearestStroke_75 : decode cX11_nearestStroke 75 = .ok (.iload 7, 2) := dg_cX11_nearestStroke_175.2.2.2.2.2.2.2.2.2.2.2.1
theorem dX11_nearestStroke_77 : decode cX11_nearestStroke 77 = .ok (.ifCond .eq 8, 3) := dg_cX11_nearestStroke_175.2.2.2.2.2.2.2.2.2.2.2.2.1
theorem dX11_nearestStroke_80 : decode cX11_nearestStroke 80 = .ok (.iload 6, 2) := dg_cX11_nearestStroke_175.2.2.2.2.2.2.2.2.2.2.2.2.2.1
theorem dX11_nearestStroke_82 : decode cX11_nearestStroke 82 = .ok (.goto 5, 3) := dg_cX11_nearestStroke_175.2.2.2.2.2.2.2.2.2.2.2.2.2.2.1
theorem dX11_nearestStroke_85 : decode cX11_nearestStroke 85 = .ok (.iload 5, 2) := dg_cX11_nearestStroke_175.2.2.2.2.2.2.2.2.2.2.2.2.2.2.2
set_option maxRecDepth 100000 in
theorem dg_cX11_nearestStroke_176 : (decode cX11_nearestStroke 87 = .ok (.istore 5, 2)) ∧ (decode cX11_nearestStroke 89 = .ok (.iinc 6 (-1), 3)) ∧ (decode cX11_nearestStroke 92 = .ok (.goto (-62), 3)) ∧ (decode cX11_nearestStroke 95 = .ok (.iload 5, 2)) ∧ (decode cX11_nearestStroke 97 = .ok (.istore_n 2, 1)) ∧ (decode cX11_nearestStroke 98 = .ok (.iinc 3 1, 3)) ∧ (decode cX11_nearestStroke 101 = .ok (.goto (-96), 3)) ∧ (decode cX11_nearestStroke 104 = .ok (.iload_n 2, 1)) ∧ (decode cX11_nearestStroke 105 = .ok (.ireturn, 1)) := by decide +kernel
theorem dX11_nearestStroke_87 : decode cX11_nearestStroke 87 = .ok (.istore 5, 2) := dg_cX11_nearestStroke_176.1
theorem dX11_nearestStroke_89 : decode cX11_nearestStroke 89 = .ok (.iinc 6 (-1), 3) := dg_cX11_nearestStroke_176.2.1
theorem dX11_nearestStroke_92 : decode cX11_nearestStroke 92 = .ok (.goto (-62), 3) := dg_cX11_nearestStroke_176.2.2.1
theorem dX11_nearestStroke_95 : decode cX11_nearestStroke 95 = .ok (.iload 5, 2) := dg_cX11_nearestStroke_176.2.2.2.1
theorem dX11_nearestStroke_97 : decode cX11_nearestStroke 97 = .ok (.istore_n 2, 1) := dg_cX11_nearestStroke_176.2.2.2.2.1
theorem dX11_nearestStroke_98 : decode cX11_nearestStroke 98 = .ok (.iinc 3 1, 3) := dg_cX11_nearestStroke_176.2.2.2.2.2.1
theorem dX11_nearestStroke_101 : decode cX11_nearestStroke 101 = .ok (.goto (-96), 3) := dg_cX11_nearestStroke_176.2.2.2.2.2.2.1
theorem dX11_nearestStroke_104 : decode cX11_nearestStroke 104 = .ok (.iload_n 2, 1) := dg_cX11_nearestStroke_176.2.2.2.2.2.2.2.1
theorem dX11_nearestStroke_105 : decode cX11_nearestStroke 105 = .ok (.ireturn, 1) := dg_cX11_nearestStroke_176.2.2.2.2.2.2.2.2
set_option maxRecDepth 100000 in
theorem dg_cX11_nearest_177 : (decode cX11_nearest 0 = .ok (.aload_n 0, 1)) ∧ (decode cX11_nearest 1 = .ok (.iload_n 1, 1)) ∧ (decode cX11_nearest 2 = .ok (.invokevirtual 175, 3)) ∧ (decode cX11_nearest 5 = .ok (.ifCond .eq 35, 3)) ∧ (decode cX11_nearest 8 = .ok (.aload_n 0, 1)) ∧ (decode cX11_nearest 9 = .ok (.iload_n 2, 1)) ∧ (decode cX11_nearest 10 = .ok (.invokevirtual 166, 3)) ∧ (decode cX11_nearest 13 = .ok (.ifCond .eq 27, 3)) ∧ (decode cX11_nearest 16 = .ok (.iload_n 3, 1)) ∧ (decode cX11_nearest 17 = .ok (.ifCond .eq 25, 3)) ∧ (decode cX11_nearest 20 = .ok (.iload_n 3, 1)) ∧ (decode cX11_nearest 21 = .ok (.i2l, 1)) ∧ (decode cX11_nearest 22 = .ok (.ldc2_w 178, 3)) ∧ (decode cX11_nearest 25 = .ok (.bipush 9, 2)) ∧ (decode cX11_nearest 27 = .ok (.aload_n 0, 1)) ∧ (decode cX11_nearest 28 = .ok (.iload_n 1, 1)) := by decide +kernel
theorem dX11_nearest_0 : decode cX11_nearest 0 = .ok (.aload_n 0, 1) := dg_cX11_nearest_177.1
theorem dX11_nearest_1 : decode cX11_nearest 1 = .ok (.iload_n 1, 1) := dg_cX11_nearest_177.2.1
theorem dX11_nearest_2 : decode cX11_nearest 2 = .ok (.invokevirtual 175, 3) := dg_cX11_nearest_177.2.2.1
theorem dX11_nearest_5 : decode cX11_nearest 5 = .ok (.ifCond .eq 35, 3) := dg_cX11_nearest_177.2.2.2.1
theorem dX11_nearest_8 : decode cX11_nearest 8 = .ok (.aload_n 0, 1) := dg_cX11_nearest_177.2.2.2.2.1
theorem dX11_nearest_9 : decode cX11_nearest 9 = .ok (.iload_n 2, 1) := dg_cX11_nearest_177.2.2.2.2.2.1
theorem dX11_nearest_10 : decode cX11_nearest 10 = .ok (.invokevirtual 166, 3) := dg_cX11_nearest_177.2.2.2.2.2.2.1
theorem dX11_nearest_13 : decode cX11_nearest 13 = .ok (.ifCond .eq 27, 3) := dg_cX11_nearest_177.2.2.2.2.2.2.2.1
theorem dX11_nearest_16 : decode cX11_nearest 16 = .ok (.iload_n 3, 1) := dg_cX11_nearest_177.2.2.2.2.2.2.2.2.1
theorem dX11_nearest_17 : decode cX11_nearest 17 = .ok (.ifCond .eq 25, 3) := dg_cX11_nearest_177.2.2.2.2.2.2.2.2.2.1
theorem dX11_nearest_20 : decode cX11_nearest 20 = .ok (.iload_n 3, 1) := dg_cX11_nearest_177.2.2.2.2.2.2.2.2.2.2.1
theorem dX11_nearest_21 : decode cX11_nearest 21 = .ok (.i2l, 1) := dg_cX11_nearest_177.2.2.2.2.2.2.2.2.2.2.2.1
theorem dX11_nearest_22 : decode cX11_nearest 22 = .ok (.ldc2_w 178, 3) := dg_cX11_nearest_177.2.2.2.2.2.2.2.2.2.2.2.2.1
theorem dX11_nearest_25 : decode cX11_nearest 25 = .ok (.bipush 9, 2) := dg_cX11_nearest_177.2.2.2.2.2.2.2.2.2.2.2.2.2.1
theorem dX11_nearest_27 : decode cX11_nearest 27 = .ok (.aload_n 0, 1) := dg_cX11_nearest_177.2.2.2.2.2.2.2.2.2.2.2.2.2.2.1
theorem dX11_nearest_28 : decode cX11_nearest 28 = .ok (.iload_n 1, 1) := dg_cX11_nearest_177.2.2.2.2.2.2.2.2.2.2.2.2.2.2.2
set_option maxRecDepth 100000 in
theorem dg_cX11_nearest_178 : (decode cX11_nearest 29 = .ok (.invokevirtual 180, 3)) ∧ (decode cX11_nearest 32 = .ok (.iadd, 1)) ∧ (decode cX11_nearest 33 = .ok (.i2l, 1)) ∧ (decode cX11_nearest 34 = .ok (.invokestatic 92, 3)) ∧ (decode cX11_nearest 37 = .ok (.ifCond .ne 5, 3)) ∧ (decode cX11_nearest 40 = .ok (.iconst (-1), 1)) ∧ (decode cX11_nearest 41 = .ok (.ireturn, 1)) ∧ (decode cX11_nearest 42 = .ok (.aload_n 0, 1)) ∧ (decode cX11_nearest 43 = .ok (.iload_n 1, 1)) ∧ (decode cX11_nearest 44 = .ok (.iload_n 2, 1)) ∧ (decode cX11_nearest 45 = .ok (.invokevirtual 288, 3)) ∧ (decode cX11_nearest 48 = .ok (.istore 4, 2)) ∧ (decode cX11_nearest 50 = .ok (.iload 4, 2)) ∧ (decode cX11_nearest 52 = .ok (.ldc_w 262, 3)) ∧ (decode cX11_nearest 55 = .ok (.if_icmp .ne 8, 3)) ∧ (decode cX11_nearest 58 = .ok (.bipush (-4), 2)) := by decide +kernel
theorem dX11_nearest_29 : decode cX11_nearest 29 = .ok (.invokevirtual 180, 3) := dg_cX11_nearest_178.1
theorem dX11_nearest_32 : decode cX11_nearest 32 = .ok (.iadd, 1) := dg_cX11_nearest_178.2.1
theorem dX11_nearest_33 : decode cX11_nearest 33 = .ok (.i2l, 1) := dg_cX11_nearest_178.2.2.1
theorem dX11_nearest_34 : decode cX11_nearest 34 = .ok (.invokestatic 92, 3) := dg_cX11_nearest_178.2.2.2.1
theorem dX11_nearest_37 : decode cX11_nearest 37 = .ok (.ifCond .ne 5, 3) := dg_cX11_nearest_178.2.2.2.2.1
theorem dX11_nearest_40 : decode cX11_nearest 40 = .ok (.iconst (-1), 1) := dg_cX11_nearest_178.2.2.2.2.2.1
theorem dX11_nearest_41 : decode cX11_nearest 41 = .ok (.ireturn, 1) := dg_cX11_nearest_178.2.2.2.2.2.2.1
theorem dX11_nearest_42 : decode cX11_nearest 42 = .ok (.aload_n 0, 1) := dg_cX11_nearest_178.2.2.2.2.2.2.2.1
theorem dX11_nearest_43 : decode cX11_nearest 43 = .ok (.iload_n 1, 1) := dg_cX11_nearest_178.2.2.2.2.2.2.2.2.1
theorem dX11_nearest_44 : decode cX11_nearest 44 = .ok (.iload_n 2, 1) := dg_cX11_nearest_178.2.2.2.2.2.2.2.2.2.1
theorem dX11_nearest_45 : decode cX11_nearest 45 = .ok (.invokevirtual 288, 3) := dg_cX11_nearest_178.2.2.2.2.2.2.2.2.2.2.1
theorem dX11_nearest_48 : decode cX11_nearest 48 = .ok (.istore 4, 2) := dg_cX11_nearest_178.2.2.2.2.2.2.2.2.2.2.2.1
theorem dX11_nearest_50 : decode cX11_nearest 50 = .ok (.iload 4, 2) := dg_cX11_nearest_178.2.2.2.2.2.2.2.2.2.2.2.2.1
theorem dX11_nearest_52 : decode cX11_nearest 52 = .ok (.ldc_w 262, 3) := dg_cX11_nearest_178.2.2.2.2.2.2.2.2.2.2.2.2.2.1
theorem dX11_nearest_55 : decode cX11_nearest 55 = .ok (.if_icmp .ne 8, 3) := dg_cX11_nearest_178.2.2.2.2.2.2.2.2.2.2.2.2.2.2.1
theorem dX11_nearest_58 : decode cX11_nearest 58 = .ok (.bipush (-4), 2) := dg_cX11_nearest_178.2.2.2.2.2.2.2.2.2.2.2.2.2.2.2
set_option maxRecDepth 100000 in
theorem dg_cX11_nearest_179 : (decode cX11_nearest 60 = .ok (.goto 20, 3)) ∧ (decode cX11_nearest 63 = .ok (.iload_n 3, 1)) ∧ (decode cX11_nearest 64 = .ok (.ifCond .ne 8, 3)) ∧ (decode cX11_nearest 67 = .ok (.iload 4, 2)) ∧ (decode cX11_nearest 69 = .ok (.goto 11, 3)) ∧ (decode cX11_nearest 72 = .ok (.aload_n 0, 1)) ∧ (decode cX11_nearest 73 = .ok (.iload_n 3, 1)) ∧ (decode cX11_nearest 74 = .ok (.bipush 10, 2)) ∧ (decode cX11_nearest 76 = .ok (.isub, 1)) ∧ (decode cX11_nearest 77 = .ok (.invokevirtual 291, 3)) ∧ (decode cX11_nearest 80 = .ok (.ireturn, 1)) := by decide +kernel
theorem dX11_nearest_60 : decode cX11_nearest 60 = .ok (.goto 20, 3) := dg_cX11_nearest_179.1
theorem dX11_nearest_63 : decode cX11_nearest 63 = .ok (.iload_n 3, 1) := dg_cX11_nearest_179.2.1
theorem dX11_nearest_64 : decode cX11_nearest 64 = .ok (.ifCond .ne 8, 3) := dg_cX11_nearest_179.2.2.1
theorem dX11_nearest_67 : decode cX11_nearest 67 = .ok (.iload 4, 2) := dg_cX11_nearest_179.2.2.2.1
theorem dX11_nearest_69 : decode cX11_nearest 69 = .ok (.goto 11, 3) := dg_cX11_nearest_179.2.2.2.2.1
theorem dX11_nearest_72 : decode cX11_nearest 72 = .ok (.aload_n 0, 1) := dg_cX11_nearest_179.2.2.2.2.2.1
theorem dX11_nearest_73 : decode cX11_nearest 73 = .ok (.iload_n 3, 1) := dg_cX11_nearest_179.2.2.2.2.2.2.1
theorem dX11_nearest_74 : decode cX11_nearest 74 = .ok (.bipush 10, 2) := dg_cX11_nearest_179.2.2.2.2.2.2.2.1
theorem dX11_nearest_76 : decode cX11_nearest 76 = .ok (.isub, 1) := dg_cX11_nearest_179.2.2.2.2.2.2.2.2.1
theorem dX11_nearest_77 : decode cX11_nearest 77 = .ok (.invokevirtual 291, 3) := dg_cX11_nearest_179.2.2.2.2.2.2.2.2.2.1
theorem dX11_nearest_80 : decode cX11_nearest 80 = .ok (.ireturn, 1) := dg_cX11_nearest_179.2.2.2.2.2.2.2.2.2.2
set_option maxRecDepth 100000 in
theorem dg_cX11_dear_180 : (decode cX11_dear 0 = .ok (.aload_n 0, 1)) ∧ (decode cX11_dear 1 = .ok (.iload_n 1, 1)) ∧ (decode cX11_dear 2 = .ok (.invokevirtual 175, 3)) ∧ (decode cX11_dear 5 = .ok (.ifCond .ne 5, 3)) ∧ (decode cX11_dear 8 = .ok (.iconst (-1), 1)) ∧ (decode cX11_dear 9 = .ok (.ireturn, 1)) ∧ (decode cX11_dear 10 = .ok (.bipush (-4), 2)) ∧ (decode cX11_dear 12 = .ok (.istore_n 2, 1)) ∧ (decode cX11_dear 13 = .ok (.iconst 0, 1)) ∧ (decode cX11_dear 14 = .ok (.istore_n 3, 1)) ∧ (decode cX11_dear 15 = .ok (.iconst 0, 1)) ∧ (decode cX11_dear 16 = .ok (.istore 4, 2)) ∧ (decode cX11_dear 18 = .ok (.iload 4, 2)) ∧ (decode cX11_dear 20 = .ok (.aload_n 0, 1)) ∧ (decode cX11_dear 21 = .ok (.getfield 81, 3)) ∧ (decode cX11_dear 24 = .ok (.if_icmp .ge 61, 3)) := by decide +kernel
theorem dX11_dear_0 : decode cX11_dear 0 = .ok (.aload_n 0, 1) := dg_cX11_dear_180.1
theorem dX11_dear_1 : decode cX11_dear 1 = .ok (.iload_n 1, 1) := dg_cX11_dear_180.2.1
theorem dX11_dear_2 : decode cX11_dear 2 = .ok (.invokevirtual 175, 3) := dg_cX11_dear_180.2.2.1
theorem dX11_dear_5 : decode cX11_dear 5 = .ok (.ifCond .ne 5, 3) := dg_cX11_dear_180.2.2.2.1
theorem dX11_dear_8 : decode cX11_dear 8 = .ok (.iconst (-1), 1) := dg_cX11_dear_180.2.2.2.2.1
theorem dX11_dear_9 : decode cX11_dear 9 = .ok (.ireturn, 1) := dg_cX11_dear_180.2.2.2.2.2.1
theorem dX11_dear_10 : decode cX11_dear 10 = .ok (.bipush (-4), 2) := dg_cX11_dear_180.2.2.2.2.2.2.1
theorem dX11_dear_12 : decode cX11_dear 12 = .ok (.istore_n 2, 1) := dg_cX11_dear_180.2.2.2.2.2.2.2.1
theorem dX11_dear_13 : decode cX11_dear 13 = .ok (.iconst 0, 1) := dg_cX11_dear_180.2.2.2.2.2.2.2.2.1
theorem dX11_dear_14 : decode cX11_dear 14 = .ok (.istore_n 3, 1) := dg_cX11_dear_180.2.2.2.2.2.2.2.2.2.1
theorem dX11_dear_15 : decode cX11_dear 15 = .ok (.iconst 0, 1) := dg_cX11_dear_180.2.2.2.2.2.2.2.2.2.2.1
theorem dX11_dear_16 : decode cX11_dear 16 = .ok (.istore 4, 2) := dg_cX11_dear_180.2.2.2.2.2.2.2.2.2.2.2.1
theorem dX11_dear_18 : decode cX11_dear 18 = .ok (.iload 4, 2) := dg_cX11_dear_180.2.2.2.2.2.2.2.2.2.2.2.2.1
theorem dX11_dear_20 : decode cX11_dear 20 = .ok (.aload_n 0, 1) := dg_cX11_dear_180.2.2.2.2.2.2.2.2.2.2.2.2.2.1
theorem dX11_dear_21 : decode cX11_dear 21 = .ok (.getfield 81, 3) := dg_cX11_dear_180.2.2.2.2.2.2.2.2.2.2.2.2.2.2.1
theorem dX11_dear_24 : decode cX11_dear 24 = .ok (.if_icmp .ge 61, 3) := dg_cX11_dear_180.2.2.2.2.2.2.2.2.2.2.2.2.2.2.2
set_option maxRecDepth 100000 in
theorem dg_cX11_dear_181 : (decode cX11_dear 27 = .ok (.aload_n 0, 1)) ∧ (decode cX11_dear 28 = .ok (.iload_n 1, 1)) ∧ (decode cX11_dear 29 = .ok (.iload 4, 2)) ∧ (decode cX11_dear 31 = .ok (.invokevirtual 288, 3)) ∧ (decode cX11_dear 34 = .ok (.istore 5, 2)) ∧ (decode cX11_dear 36 = .ok (.iload_n 2, 1)) ∧ (decode cX11_dear 37 = .ok (.bipush (-4), 2)) ∧ (decode cX11_dear 39 = .ok (.if_icmp .eq 9, 3)) ∧ (decode cX11_dear 42 = .ok (.iload 5, 2)) ∧ (decode cX11_dear 44 = .ok (.iload_n 3, 1)) ∧ (decode cX11_dear 45 = .ok (.if_icmp .le 7, 3)) ∧ (decode cX11_dear 48 = .ok (.iconst 1, 1)) ∧ (decode cX11_dear 49 = .ok (.goto 4, 3)) ∧ (decode cX11_dear 52 = .ok (.iconst 0, 1)) ∧ (decode cX11_dear 53 = .ok (.istore 6, 2)) ∧ (decode cX11_dear 55 = .ok (.iload 6, 2)) := by decide +kernel
theorem dX11_dear_27 : decode cX11_dear 27 = .ok (.aload_n 0, 1) := dg_cX11_dear_181.1
theorem dX11_dear_28 : decode cX11_dear 28 = .ok (.iload_n 1, 1) := dg_cX11_dear_181.2.1
theorem dX11_dear_29 : decode cX11_dear 29 = .ok (.iload 4, 2) := dg_cX11_dear_181.2.2.1
theorem dX11_dear_31 : decode cX11_dear 31 = .ok (.invokevirtual 288, 3) := dg_cX11_dear_181.2.2.2.1
theorem dX11_dear_34 : decode cX11_dear 34 = .ok (.istore 5, 2) := dg_cX11_dear_181.2.2.2.2.1
theorem dX11_dear_36 : decode cX11_dear 36 = .ok (.iload_n 2, 1) := dg_cX11_dear_181.2.2.2.2.2.1
theorem dX11_dear_37 : decode cX11_dear 37 = .ok (.bipush (-4), 2) := dg_cX11_dear_181.2.2.2.2.2.2.1
theorem dX11_dear_39 : decode cX11_dear 39 = .ok (.if_icmp .eq 9, 3) := dg_cX11_dear_181.2.2.2.2.2.2.2.1
theorem dX11_dear_42 : decode cX11_dear 42 = .ok (.iload 5, 2) := dg_cX11_dear_181.2.2.2.2.2.2.2.2.1
theorem dX11_dear_44 : decode cX11_dear 44 = .ok (.iload_n 3, 1) := dg_cX11_dear_181.2.2.2.2.2.2.2.2.2.1
theorem dX11_dear_45 : decode cX11_dear 45 = .ok (.if_icmp .le 7, 3) := dg_cX11_dear_181.2.2.2.2.2.2.2.2.2.2.1
theorem dX11_dear_48 : decode cX11_dear 48 = .ok (.iconst 1, 1) := dg_cX11_dear_181.2.2.2.2.2.2.2.2.2.2.2.1
theorem dX11_dear_49 : decode cX11_dear 49 = .ok (.goto 4, 3) := dg_cX11_dear_181.2.2.2.2.2.2.2.2.2.2.2.2.1
theorem dX11_dear_52 : decode cX11_dear 52 = .ok (.iconst 0, 1) := dg_cX11_dear_181.2.2.2.2.2.2.2.2.2.2.2.2.2.1
theorem dX11_dear_53 : decode cX11_dear 53 = .ok (.istore 6, 2) := dg_cX11_dear_181.2.2.2.2.2.2.2.2.2.2.2.2.2.2.1
theorem dX11_dear_55 : decode cX11_dear 55 = .ok (.iload 6, 2) := dg_cX11_dear_181.2.2.2.2.2.2.2.2.2.2.2.2.2.2.2
set_option maxRecDepth 100000 in
theorem dg_cX11_dear_182 : (decode cX11_dear 57 = .ok (.ifCond .eq 8, 3)) ∧ (decode cX11_dear 60 = .ok (.iload 4, 2)) ∧ (decode cX11_dear 62 = .ok (.goto 4, 3)) ∧ (decode cX11_dear 65 = .ok (.iload_n 2, 1)) ∧ (decode cX11_dear 66 = .ok (.istore_n 2, 1)) ∧ (decode cX11_dear 67 = .ok (.iload 6, 2)) ∧ (decode cX11_dear 69 = .ok (.ifCond .eq 8, 3)) ∧ (decode cX11_dear 72 = .ok (.iload 5, 2)) ∧ (decode cX11_dear 74 = .ok (.goto 4, 3)) ∧ (decode cX11_dear 77 = .ok (.iload_n 3, 1)) ∧ (decode cX11_dear 78 = .ok (.istore_n 3, 1)) ∧ (decode cX11_dear 79 = .ok (.iinc 4 1, 3)) ∧ (decode cX11_dear 82 = .ok (.goto (-64), 3)) ∧ (decode cX11_dear 85 = .ok (.iload_n 2, 1)) ∧ (decode cX11_dear 86 = .ok (.ireturn, 1)) := by decide +kernel
theorem dX11_dear_57 : decode cX11_dear 57 = .ok (.ifCond .eq 8, 3) := dg_cX11_dear_182.1
theorem dX11_dear_60 : decode cX11_dear 60 = .ok (.iload 4, 2) := dg_cX11_dear_182.2.1
theorem dX11_dear_62 : decode cX11_dear 62 = .ok (.goto 4, 3) := dg_cX11_dear_182.2.2.1
theorem dX11_dear_65 : decode cX11_dear 65 = .ok (.iload_n 2, 1) := dg_cX11_dear_182.2.2.2.1
theorem dX11_dear_66 : decode cX11_dear 66 = .ok (.istore_n 2, 1) := dg_cX11_dear_182.2.2.2.2.1
theorem dX11_dear_67 : decode cX11_dear 67 = .ok (.iload 6, 2) := dg_cX11_dear_182.2.2.2.2.2.1
theorem dX11_dear_69 : decode cX11_dear 69 = .ok (.ifCond .eq 8, 3) := dg_cX11_dear_182.2.2.2.2.2.2.1
theorem dX11_dear_72 : decode cX11_dear 72 = .ok (.iload 5, 2) := dg_cX11_dear_182.2.2.2.2.2.2.2.1
theorem dX11_dear_74 : decode cX11_dear 74 = .ok (.goto 4, 3) := dg_cX11_dear_182.2.2.2.2.2.2.2.2.1
theorem dX11_dear_77 : decode cX11_dear 77 = .ok (.iload_n 3, 1) := dg_cX11_dear_182.2.2.2.2.2.2.2.2.2.1
theorem dX11_dear_78 : decode cX11_dear 78 = .ok (.istore_n 3, 1) := dg_cX11_dear_182.2.2.2.2.2.2.2.2.2.2.1
theorem dX11_dear_79 : decode cX11_dear 79 = .ok (.iinc 4 1, 3) := dg_cX11_dear_182.2.2.2.2.2.2.2.2.2.2.2.1
theorem dX11_dear_82 : decode cX11_dear 82 = .ok (.goto (-64), 3) := dg_cX11_dear_182.2.2.2.2.2.2.2.2.2.2.2.2.1
theorem dX11_dear_85 : decode cX11_dear 85 = .ok (.iload_n 2, 1) := dg_cX11_dear_182.2.2.2.2.2.2.2.2.2.2.2.2.2.1
theorem dX11_dear_86 : decode cX11_dear 86 = .ok (.ireturn, 1) := dg_cX11_dear_182.2.2.2.2.2.2.2.2.2.2.2.2.2.2
set_option maxRecDepth 100000 in
theorem dg_cX11_storm_183 : (decode cX11_storm 0 = .ok (.aload_n 0, 1)) ∧ (decode cX11_storm 1 = .ok (.iload_n 1, 1)) ∧ (decode cX11_storm 2 = .ok (.invokevirtual 186, 3)) ∧ (decode cX11_storm 5 = .ok (.ifCond .eq 13, 3)) ∧ (decode cX11_storm 8 = .ok (.iload_n 2, 1)) ∧ (decode cX11_storm 9 = .ok (.i2l, 1)) ∧ (decode cX11_storm 10 = .ok (.lconst 0, 1)) ∧ (decode cX11_storm 11 = .ok (.lconst 1, 1)) ∧ (decode cX11_storm 12 = .ok (.invokestatic 92, 3)) ∧ (decode cX11_storm 15 = .ok (.ifCond .ne 5, 3)) ∧ (decode cX11_storm 18 = .ok (.iconst (-1), 1)) ∧ (decode cX11_storm 19 = .ok (.ireturn, 1)) ∧ (decode cX11_storm 20 = .ok (.iconst 0, 1)) ∧ (decode cX11_storm 21 = .ok (.istore_n 3, 1)) ∧ (decode cX11_storm 22 = .ok (.iconst 0, 1)) ∧ (decode cX11_storm 23 = .ok (.istore 4, 2)) := by decide +kernel
theorem dX11_storm_0 : decode cX11_storm 0 = .ok (.aload_n 0, 1) := dg_cX11_storm_183.1
theorem dX11_storm_1 : decode cX11_storm 1 = .ok (.iload_n 1, 1) := dg_cX11_storm_183.2.1
theorem dX11_storm_2 : decode cX11_storm 2 = .ok (.invokevirtual 186, 3) := dg_cX11_storm_183.2.2.1
theorem dX11_storm_5 : decode cX11_storm 5 = .ok (.ifCond .eq 13, 3) := dg_cX11_storm_183.2.2.2.1
theorem dX11_storm_8 : decode cX11_storm 8 = .ok (.iload_n 2, 1) := dg_cX11_storm_183.2.2.2.2.1
theorem dX11_storm_9 : decode cX11_storm 9 = .ok (.i2l, 1) := dg_cX11_storm_183.2.2.2.2.2.1
theorem dX11_storm_10 : decode cX11_storm 10 = .ok (.lconst 0, 1) := dg_cX11_storm_183.2.2.2.2.2.2.1
theorem dX11_storm_11 : decode cX11_storm 11 = .ok (.lconst 1, 1) := dg_cX11_storm_183.2.2.2.2.2.2.2.1
theorem dX11_storm_12 : decode cX11_storm 12 = .ok (.invokestatic 92, 3) := dg_cX11_storm_183.2.2.2.2.2.2.2.2.1
theorem dX11_storm_15 : decode cX11_storm 15 = .ok (.ifCond .ne 5, 3) := dg_cX11_storm_183.2.2.2.2.2.2.2.2.2.1
theorem dX11_storm_18 : decode cX11_storm 18 = .ok (.iconst (-1), 1) := dg_cX11_storm_183.2.2.2.2.2.2.2.2.2.2.1
theorem dX11_storm_19 : decode cX11_storm 19 = .ok (.ireturn, 1) := dg_cX11_storm_183.2.2.2.2.2.2.2.2.2.2.2.1
theorem dX11_storm_20 : decode cX11_storm 20 = .ok (.iconst 0, 1) := dg_cX11_storm_183.2.2.2.2.2.2.2.2.2.2.2.2.1
theorem dX11_storm_21 : decode cX11_storm 21 = .ok (.istore_n 3, 1) := dg_cX11_storm_183.2.2.2.2.2.2.2.2.2.2.2.2.2.1
theorem dX11_storm_22 : decode cX11_storm 22 = .ok (.iconst 0, 1) := dg_cX11_storm_183.2.2.2.2.2.2.2.2.2.2.2.2.2.2.1
theorem dX11_storm_23 : decode cX11_storm 23 = .ok (.istore 4, 2) := dg_cX11_storm_183.2.2.2.2.2.2.2.2.2.2.2.2.2.2.2
set_option maxRecDepth 100000 in
theorem dg_cX11_storm_184 : (decode cX11_storm 25 = .ok (.iconst 0, 1)) ∧ (decode cX11_storm 26 = .ok (.istore 5, 2)) ∧ (decode cX11_storm 28 = .ok (.iconst 0, 1)) ∧ (decode cX11_storm 29 = .ok (.istore 6, 2)) ∧ (decode cX11_storm 31 = .ok (.iload 6, 2)) ∧ (decode cX11_storm 33 = .ok (.aload_n 0, 1)) ∧ (decode cX11_storm 34 = .ok (.getfield 81, 3)) ∧ (decode cX11_storm 37 = .ok (.if_icmp .ge 57, 3)) ∧ (decode cX11_storm 40 = .ok (.iload_n 3, 1)) ∧ (decode cX11_storm 41 = .ok (.aload_n 0, 1)) ∧ (decode cX11_storm 42 = .ok (.iload_n 1, 1)) ∧ (decode cX11_storm 43 = .ok (.iload 6, 2)) ∧ (decode cX11_storm 45 = .ok (.invokevirtual 226, 3)) ∧ (decode cX11_storm 48 = .ok (.iadd, 1)) ∧ (decode cX11_storm 49 = .ok (.istore_n 3, 1)) ∧ (decode cX11_storm 50 = .ok (.iload 4, 2)) := by decide +kernel
theorem dX11_storm_25 : decode cX11_storm 25 = .ok (.iconst 0, 1) := dg_cX11_storm_184.1
theorem dX11_storm_26 : decode cX11_storm 26 = .ok (.istore 5, 2) := dg_cX11_storm_184.2.1
theorem dX11_storm_28 : decode cX11_storm 28 = .ok (.iconst 0, 1) := dg_cX11_storm_184.2.2.1
theorem dX11_storm_29 : decode cX11_storm 29 = .ok (.istore 6, 2) := dg_cX11_storm_184.2.2.2.1
theorem dX11_storm_31 : decode cX11_storm 31 = .ok (.iload 6, 2) := dg_cX11_storm_184.2.2.2.2.1
theorem dX11_storm_33 : decode cX11_storm 33 = .ok (.aload_n 0, 1) := dg_cX11_storm_184.2.2.2.2.2.1
theorem dX11_storm_34 : decode cX11_storm 34 = .ok (.getfield 81, 3) := dg_cX11_storm_184.2.2.2.2.2.2.1
theorem dX11_storm_37 : decode cX11_storm 37 = .ok (.if_icmp .ge 57, 3) := dg_cX11_storm_184.2.2.2.2.2.2.2.1
theorem dX11_storm_40 : decode cX11_storm 40 = .ok (.iload_n 3, 1) := dg_cX11_storm_184.2.2.2.2.2.2.2.2.1
theorem dX11_storm_41 : decode cX11_storm 41 = .ok (.aload_n 0, 1) := dg_cX11_storm_184.2.2.2.2.2.2.2.2.2.1
theorem dX11_storm_42 : decode cX11_storm 42 = .ok (.iload_n 1, 1) := dg_cX11_storm_184.2.2.2.2.2.2.2.2.2.2.1
theorem dX11_storm_43 : decode cX11_storm 43 = .ok (.iload 6, 2) := dg_cX11_storm_184.2.2.2.2.2.2.2.2.2.2.2.1
theorem dX11_storm_45 : decode cX11_storm 45 = .ok (.invokevirtual 226, 3) := dg_cX11_storm_184.2.2.2.2.2.2.2.2.2.2.2.2.1
theorem dX11_storm_48 : decode cX11_storm 48 = .ok (.iadd, 1) := dg_cX11_storm_184.2.2.2.2.2.2.2.2.2.2.2.2.2.1
theorem dX11_storm_49 : decode cX11_storm 49 = .ok (.istore_n 3, 1) := dg_cX11_storm_184.2.2.2.2.2.2.2.2.2.2.2.2.2.2.1
theorem dX11_storm_50 : decode cX11_storm 50 = .ok (.iload 4, 2) := dg_cX11_storm_184.2.2.2.2.2.2.2.2.2.2.2.2.2.2.2
set_option maxRecDepth 100000 in
theorem dg_cX11_storm_185 : (decode cX11_storm 52 = .ok (.iconst 2, 1)) ∧ (decode cX11_storm 53 = .ok (.aload_n 0, 1)) ∧ (decode cX11_storm 54 = .ok (.iload 6, 2)) ∧ (decode cX11_storm 56 = .ok (.iconst 1, 1)) ∧ (decode cX11_storm 57 = .ok (.invokevirtual 172, 3)) ∧ (decode cX11_storm 60 = .ok (.imul, 1)) ∧ (decode cX11_storm 61 = .ok (.iadd, 1)) ∧ (decode cX11_storm 62 = .ok (.istore 4, 2)) ∧ (decode cX11_storm 64 = .ok (.iload 5, 2)) ∧ (decode cX11_storm 66 = .ok (.aload_n 0, 1)) ∧ (decode cX11_storm 67 = .ok (.iload 6, 2)) ∧ (decode cX11_storm 69 = .ok (.iconst 0, 1)) ∧ (decode cX11_storm 70 = .ok (.invokevirtual 172, 3)) ∧ (decode cX11_storm 73 = .ok (.iload_n 1, 1)) ∧ (decode cX11_storm 74 = .ok (.if_icmp .ne 7, 3)) ∧ (decode cX11_storm 77 = .ok (.iconst 1, 1)) := by decide +kernel
theorem dX11_storm_52 : decode cX11_storm 52 = .ok (.iconst 2, 1) := dg_cX11_storm_185.1
theorem dX11_storm_53 : decode cX11_storm 53 = .ok (.aload_n 0, 1) := dg_cX11_storm_185.2.1
theorem dX11_storm_54 : decode cX11_storm 54 = .ok (.iload 6, 2) := dg_cX11_storm_185.2.2.1
theorem dX11_storm_56 : decode cX11_storm 56 = .ok (.iconst 1, 1) := dg_cX11_storm_185.2.2.2.1
theorem dX11_storm_57 : decode cX11_storm 57 = .ok (.invokevirtual 172, 3) := dg_cX11_storm_185.2.2.2.2.1
theorem dX11_storm_60 : decode cX11_storm 60 = .ok (.imul, 1) := dg_cX11_storm_185.2.2.2.2.2.1
theorem dX11_storm_61 : decode cX11_storm 61 = .ok (.iadd, 1) := dg_cX11_storm_185.2.2.2.2.2.2.1
theorem dX11_storm_62 : decode cX11_storm 62 = .ok (.istore 4, 2) := dg_cX11_storm_185.2.2.2.2.2.2.2.1
theorem dX11_storm_64 : decode cX11_storm 64 = .ok (.iload 5, 2) := dg_cX11_storm_185.2.2.2.2.2.2.2.2.1
theorem dX11_storm_66 : decode cX11_storm 66 = .ok (.aload_n 0, 1) := dg_cX11_storm_185.2.2.2.2.2.2.2.2.2.1
theorem dX11_storm_67 : decode cX11_storm 67 = .ok (.iload 6, 2) := dg_cX11_storm_185.2.2.2.2.2.2.2.2.2.2.1
theorem dX11_storm_69 : decode cX11_storm 69 = .ok (.iconst 0, 1) := dg_cX11_storm_185.2.2.2.2.2.2.2.2.2.2.2.1
theorem dX11_storm_70 : decode cX11_storm 70 = .ok (.invokevirtual 172, 3) := dg_cX11_storm_185.2.2.2.2.2.2.2.2.2.2.2.2.1
theorem dX11_storm_73 : decode cX11_storm 73 = .ok (.iload_n 1, 1) := dg_cX11_storm_185.2.2.2.2.2.2.2.2.2.2.2.2.2.1
theorem dX11_storm_74 : decode cX11_storm 74 = .ok (.if_icmp .ne 7, 3) := dg_cX11_storm_185.2.2.2.2.2.2.2.2.2.2.2.2.2.2.1
theorem dX11_storm_77 : decode cX11_storm 77 = .ok (.iconst 1, 1) := dg_cX11_storm_185.2.2.2.2.2.2.2.2.2.2.2.2.2.2.2
set_option maxRecDepth 100000 in
theorem dg_cX11_storm_186 : (decode cX11_storm 78 = .ok (.goto 4, 3)) ∧ (decode cX11_storm 81 = .ok (.iconst 0, 1)) ∧ (decode cX11_storm 82 = .ok (.invokestatic 191, 3)) ∧ (decode cX11_storm 85 = .ok (.iadd, 1)) ∧ (decode cX11_storm 86 = .ok (.istore 5, 2)) ∧ (decode cX11_storm 88 = .ok (.iinc 6 1, 3)) ∧ (decode cX11_storm 91 = .ok (.goto (-60), 3)) ∧ (decode cX11_storm 94 = .ok (.iload_n 2, 1)) ∧ (decode cX11_storm 95 = .ok (.ifCond .ne 7, 3)) ∧ (decode cX11_storm 98 = .ok (.iload_n 3, 1)) ∧ (decode cX11_storm 99 = .ok (.goto 19, 3)) ∧ (decode cX11_storm 102 = .ok (.aload_n 0, 1)) ∧ (decode cX11_storm 103 = .ok (.getfield 81, 3)) ∧ (decode cX11_storm 106 = .ok (.iload_n 3, 1)) ∧ (decode cX11_storm 107 = .ok (.imul, 1)) ∧ (decode cX11_storm 108 = .ok (.iload 4, 2)) := by decide +kernel
theorem dX11_storm_78 : decode cX11_storm 78 = .ok (.goto 4, 3) := dg_cX11_storm_186.1
theorem dX11_storm_81 : decode cX11_storm 81 = .ok (.iconst 0, 1) := dg_cX11_storm_186.2.1
theorem dX11_storm_82 : decode cX11_storm 82 = .ok (.invokestatic 191, 3) := dg_cX11_storm_186.2.2.1
theorem dX11_storm_85 : decode cX11_storm 85 = .ok (.iadd, 1) := dg_cX11_storm_186.2.2.2.1
theorem dX11_storm_86 : decode cX11_storm 86 = .ok (.istore 5, 2) := dg_cX11_storm_186.2.2.2.2.1
theorem dX11_storm_88 : decode cX11_storm 88 = .ok (.iinc 6 1, 3) := dg_cX11_storm_186.2.2.2.2.2.1
theorem dX11_storm_91 : decode cX11_storm 91 = .ok (.goto (-60), 3) := dg_cX11_storm_186.2.2.2.2.2.2.1
theorem dX11_storm_94 : decode cX11_storm 94 = .ok (.iload_n 2, 1) := dg_cX11_storm_186.2.2.2.2.2.2.2.1
theorem dX11_storm_95 : decode cX11_storm 95 = .ok (.ifCond .ne 7, 3) := dg_cX11_storm_186.2.2.2.2.2.2.2.2.1
theorem dX11_storm_98 : decode cX11_storm 98 = .ok (.iload_n 3, 1) := dg_cX11_storm_186.2.2.2.2.2.2.2.2.2.1
theorem dX11_storm_99 : decode cX11_storm 99 = .ok (.goto 19, 3) := dg_cX11_storm_186.2.2.2.2.2.2.2.2.2.2.1
theorem dX11_storm_102 : decode cX11_storm 102 = .ok (.aload_n 0, 1) := dg_cX11_storm_186.2.2.2.2.2.2.2.2.2.2.2.1
theorem dX11_storm_103 : decode cX11_storm 103 = .ok (.getfield 81, 3) := dg_cX11_storm_186.2.2.2.2.2.2.2.2.2.2.2.2.1
theorem dX11_storm_106 : decode cX11_storm 106 = .ok (.iload_n 3, 1) := dg_cX11_storm_186.2.2.2.2.2.2.2.2.2.2.2.2.2.1
theorem dX11_storm_107 : decode cX11_storm 107 = .ok (.imul, 1) := dg_cX11_storm_186.2.2.2.2.2.2.2.2.2.2.2.2.2.2.1
theorem dX11_storm_108 : decode cX11_storm 108 = .ok (.iload 4, 2) := dg_cX11_storm_186.2.2.2.2.2.2.2.2.2.2.2.2.2.2.2
set_option maxRecDepth 100000 in
theorem dg_cX11_storm_187 : (decode cX11_storm 110 = .ok (.iload 5, 2)) ∧ (decode cX11_storm 112 = .ok (.imul, 1)) ∧ (decode cX11_storm 113 = .ok (.isub, 1)) ∧ (decode cX11_storm 114 = .ok (.ldc_w 294, 3)) ∧ (decode cX11_storm 117 = .ok (.iadd, 1)) ∧ (decode cX11_storm 118 = .ok (.ireturn, 1)) := by decide +kernel
theorem dX11_storm_110 : decode cX11_storm 110 = .ok (.iload 5, 2) := dg_cX11_storm_187.1
theorem dX11_storm_112 : decode cX11_storm 112 = .ok (.imul, 1) := dg_cX11_storm_187.2.1
theorem dX11_storm_113 : decode cX11_storm 113 = .ok (.isub, 1) := dg_cX11_storm_187.2.2.1
theorem dX11_storm_114 : decode cX11_storm 114 = .ok (.ldc_w 294, 3) := dg_cX11_storm_187.2.2.2.1
theorem dX11_storm_117 : decode cX11_storm 117 = .ok (.iadd, 1) := dg_cX11_storm_187.2.2.2.2.1
theorem dX11_storm_118 : decode cX11_storm 118 = .ok (.ireturn, 1) := dg_cX11_storm_187.2.2.2.2.2
set_option maxRecDepth 100000 in
theorem dg_cX11_wine_188 : (decode cX11_wine 0 = .ok (.iload_n 1, 1)) ∧ (decode cX11_wine 1 = .ok (.i2l, 1)) ∧ (decode cX11_wine 2 = .ok (.lconst 0, 1)) ∧ (decode cX11_wine 3 = .ok (.ldc2_w 295, 3)) ∧ (decode cX11_wine 6 = .ok (.invokestatic 92, 3)) ∧ (decode cX11_wine 9 = .ok (.ifCond .eq 11, 3)) ∧ (decode cX11_wine 12 = .ok (.aload_n 0, 1)) ∧ (decode cX11_wine 13 = .ok (.iload_n 2, 1)) ∧ (decode cX11_wine 14 = .ok (.invokevirtual 186, 3)) ∧ (decode cX11_wine 17 = .ok (.ifCond .ne 5, 3)) ∧ (decode cX11_wine 20 = .ok (.iconst (-1), 1)) ∧ (decode cX11_wine 21 = .ok (.ireturn, 1)) ∧ (decode cX11_wine 22 = .ok (.aload_n 0, 1)) ∧ (decode cX11_wine 23 = .ok (.invokevirtual 256, 3)) ∧ (decode cX11_wine 26 = .ok (.iconst 0, 1)) ∧ (decode cX11_wine 27 = .ok (.istore_n 3, 1)) := by decide +kernel
theorem dX11_wine_0 : decode cX11_wine 0 = .ok (.iload_n 1, 1) := dg_cX11_wine_188.1
theorem dX11_wine_1 : decode cX11_wine 1 = .ok (.i2l, 1) := dg_cX11_wine_188.2.1
theorem dX11_wine_2 : decode cX11_wine 2 = .ok (.lconst 0, 1) := dg_cX11_wine_188.2.2.1
theorem dX11_wine_3 : decode cX11_wine 3 = .ok (.ldc2_w 295, 3) := dg_cX11_wine_188.2.2.2.1
theorem dX11_wine_6 : decode cX11_wine 6 = .ok (.invokestatic 92, 3) := dg_cX11_wine_188.2.2.2.2.1
theorem dX11_wine_9 : decode cX11_wine 9 = .ok (.ifCond .eq 11, 3) := dg_cX11_wine_188.2.2.2.2.2.1
theorem dX11_wine_12 : decode cX11_wine 12 = .ok (.aload_n 0, 1) := dg_cX11_wine_188.2.2.2.2.2.2.1
theorem dX11_wine_13 : decode cX11_wine 13 = .ok (.iload_n 2, 1) := dg_cX11_wine_188.2.2.2.2.2.2.2.1
theorem dX11_wine_14 : decode cX11_wine 14 = .ok (.invokevirtual 186, 3) := dg_cX11_wine_188.2.2.2.2.2.2.2.2.1
theorem dX11_wine_17 : decode cX11_wine 17 = .ok (.ifCond .ne 5, 3) := dg_cX11_wine_188.2.2.2.2.2.2.2.2.2.1
theorem dX11_wine_20 : decode cX11_wine 20 = .ok (.iconst (-1), 1) := dg_cX11_wine_188.2.2.2.2.2.2.2.2.2.2.1
theorem dX11_wine_21 : decode cX11_wine 21 = .ok (.ireturn, 1) := dg_cX11_wine_188.2.2.2.2.2.2.2.2.2.2.2.1
theorem dX11_wine_22 : decode cX11_wine 22 = .ok (.aload_n 0, 1) := dg_cX11_wine_188.2.2.2.2.2.2.2.2.2.2.2.2.1
theorem dX11_wine_23 : decode cX11_wine 23 = .ok (.invokevirtual 256, 3) := dg_cX11_wine_188.2.2.2.2.2.2.2.2.2.2.2.2.2.1
theorem dX11_wine_26 : decode cX11_wine 26 = .ok (.iconst 0, 1) := dg_cX11_wine_188.2.2.2.2.2.2.2.2.2.2.2.2.2.2.1
theorem dX11_wine_27 : decode cX11_wine 27 = .ok (.istore_n 3, 1) := dg_cX11_wine_188.2.2.2.2.2.2.2.2.2.2.2.2.2.2.2
set_option maxRecDepth 100000 in
theorem dg_cX11_wine_189 : (decode cX11_wine 28 = .ok (.iload_n 3, 1)) ∧ (decode cX11_wine 29 = .ok (.aload_n 0, 1)) ∧ (decode cX11_wine 30 = .ok (.getfield 84, 3)) ∧ (decode cX11_wine 33 = .ok (.if_icmp .ge 14, 3)) ∧ (decode cX11_wine 36 = .ok (.aload_n 0, 1)) ∧ (decode cX11_wine 37 = .ok (.iload_n 3, 1)) ∧ (decode cX11_wine 38 = .ok (.invokevirtual 216, 3)) ∧ (decode cX11_wine 41 = .ok (.iinc 3 1, 3)) ∧ (decode cX11_wine 44 = .ok (.goto (-16), 3)) ∧ (decode cX11_wine 47 = .ok (.iconst 0, 1)) ∧ (decode cX11_wine 48 = .ok (.istore_n 3, 1)) ∧ (decode cX11_wine 49 = .ok (.iconst 0, 1)) ∧ (decode cX11_wine 50 = .ok (.istore 4, 2)) ∧ (decode cX11_wine 52 = .ok (.iload 4, 2)) ∧ (decode cX11_wine 54 = .ok (.aload_n 0, 1)) ∧ (decode cX11_wine 55 = .ok (.getfield 75, 3)) := by decide +kernel
theorem dX11_wine_28 : decode cX11_wine 28 = .ok (.iload_n 3, 1) := dg_cX11_wine_189.1
theorem dX11_wine_29 : decode cX11_wine 29 = .ok (.aload_n 0, 1) := dg_cX11_wine_189.2.1
theorem dX11_wine_30 : decode cX11_wine 30 = .ok (.getfield 84, 3) := dg_cX11_wine_189.2.2.1
theorem dX11_wine_33 : decode cX11_wine 33 = .ok (.if_icmp .ge 14, 3) := dg_cX11_wine_189.2.2.2.1
theorem dX11_wine_36 : decode cX11_wine 36 = .ok (.aload_n 0, 1) := dg_cX11_wine_189.2.2.2.2.1
theorem dX11_wine_37 : decode cX11_wine 37 = .ok (.iload_n 3, 1) := dg_cX11_wine_189.2.2.2.2.2.1
theorem dX11_wine_38 : decode cX11_wine 38 = .ok (.invokevirtual 216, 3) := dg_cX11_wine_189.2.2.2.2.2.2.1
theorem dX11_wine_41 : decode cX11_wine 41 = .ok (.iinc 3 1, 3) := dg_cX11_wine_189.2.2.2.2.2.2.2.1
theorem dX11_wine_44 : decode cX11_wine 44 = .ok (.goto (-16), 3) := dg_cX11_wine_189.2.2.2.2.2.2.2.2.1
theorem dX11_wine_47 : decode cX11_wine 47 = .ok (.iconst 0, 1) := dg_cX11_wine_189.2.2.2.2.2.2.2.2.2.1
theorem dX11_wine_48 : decode cX11_wine 48 = .ok (.istore_n 3, 1) := dg_cX11_wine_189.2.2.2.2.2.2.2.2.2.2.1
theorem dX11_wine_49 : decode cX11_wine 49 = .ok (.iconst 0, 1) := dg_cX11_wine_189.2.2.2.2.2.2.2.2.2.2.2.1
theorem dX11_wine_50 : decode cX11_wine 50 = .ok (.istore 4, 2) := dg_cX11_wine_189.2.2.2.2.2.2.2.2.2.2.2.2.1
theorem dX11_wine_52 : decode cX11_wine 52 = .ok (.iload 4, 2) := dg_cX11_wine_189.2.2.2.2.2.2.2.2.2.2.2.2.2.1
theorem dX11_wine_54 : decode cX11_wine 54 = .ok (.aload_n 0, 1) := dg_cX11_wine_189.2.2.2.2.2.2.2.2.2.2.2.2.2.2.1
theorem dX11_wine_55 : decode cX11_wine 55 = .ok (.getfield 75, 3) := dg_cX11_wine_189.2.2.2.2.2.2.2.2.2.2.2.2.2.2.2
set_option maxRecDepth 100000 in
theorem dg_cX11_wine_190 : (decode cX11_wine 58 = .ok (.if_icmp .ge 19, 3)) ∧ (decode cX11_wine 61 = .ok (.iload_n 3, 1)) ∧ (decode cX11_wine 62 = .ok (.aload_n 0, 1)) ∧ (decode cX11_wine 63 = .ok (.getfield 29, 3)) ∧ (decode cX11_wine 66 = .ok (.iload 4, 2)) ∧ (decode cX11_wine 68 = .ok (.iaload, 1)) ∧ (decode cX11_wine 69 = .ok (.iadd, 1)) ∧ (decode cX11_wine 70 = .ok (.istore_n 3, 1)) ∧ (decode cX11_wine 71 = .ok (.iinc 4 1, 3)) ∧ (decode cX11_wine 74 = .ok (.goto (-22), 3)) ∧ (decode cX11_wine 77 = .ok (.iload_n 3, 1)) ∧ (decode cX11_wine 78 = .ok (.ifCond .ne 6, 3)) ∧ (decode cX11_wine 81 = .ok (.bipush (-4), 2)) ∧ (decode cX11_wine 83 = .ok (.ireturn, 1)) ∧ (decode cX11_wine 84 = .ok (.iload_n 1, 1)) ∧ (decode cX11_wine 85 = .ok (.istore 4, 2)) := by decide +kernel
theorem dX11_wine_58 : decode cX11_wine 58 = .ok (.if_icmp .ge 19, 3) := dg_cX11_wine_190.1
theorem dX11_wine_61 : decode cX11_wine 61 = .ok (.iload_n 3, 1) := dg_cX11_wine_190.2.1
theorem dX11_wine_62 : decode cX11_wine 62 = .ok (.aload_n 0, 1) := dg_cX11_wine_190.2.2.1
theorem dX11_wine_63 : decode cX11_wine 63 = .ok (.getfield 29, 3) := dg_cX11_wine_190.2.2.2.1
theorem dX11_wine_66 : decode cX11_wine 66 = .ok (.iload 4, 2) := dg_cX11_wine_190.2.2.2.2.1
theorem dX11_wine_68 : decode cX11_wine 68 = .ok (.iaload, 1) := dg_cX11_wine_190.2.2.2.2.2.1
theorem dX11_wine_69 : decode cX11_wine 69 = .ok (.iadd, 1) := dg_cX11_wine_190.2.2.2.2.2.2.1
theorem dX11_wine_70 : decode cX11_wine 70 = .ok (.istore_n 3, 1) := dg_cX11_wine_190.2.2.2.2.2.2.2.1
theorem dX11_wine_71 : decode cX11_wine 71 = .ok (.iinc 4 1, 3) := dg_cX11_wine_190.2.2.2.2.2.2.2.2.1
theorem dX11_wine_74 : decode cX11_wine 74 = .ok (.goto (-22), 3) := dg_cX11_wine_190.2.2.2.2.2.2.2.2.2.1
theorem dX11_wine_77 : decode cX11_wine 77 = .ok (.iload_n 3, 1) := dg_cX11_wine_190.2.2.2.2.2.2.2.2.2.2.1
theorem dX11_wine_78 : decode cX11_wine 78 = .ok (.ifCond .ne 6, 3) := dg_cX11_wine_190.2.2.2.2.2.2.2.2.2.2.2.1
theorem dX11_wine_81 : decode cX11_wine 81 = .ok (.bipush (-4), 2) := dg_cX11_wine_190.2.2.2.2.2.2.2.2.2.2.2.2.1
theorem dX11_wine_83 : decode cX11_wine 83 = .ok (.ireturn, 1) := dg_cX11_wine_190.2.2.2.2.2.2.2.2.2.2.2.2.2.1
theorem dX11_wine_84 : decode cX11_wine 84 = .ok (.iload_n 1, 1) := dg_cX11_wine_190.2.2.2.2.2.2.2.2.2.2.2.2.2.2.1
theorem dX11_wine_85 : decode cX11_wine 85 = .ok (.istore 4, 2) := dg_cX11_wine_190.2.2.2.2.2.2.2.2.2.2.2.2.2.2.2
set_option maxRecDepth 100000 in
theorem dg_cX11_wine_191 : (decode cX11_wine 87 = .ok (.iconst 0, 1)) ∧ (decode cX11_wine 88 = .ok (.istore 5, 2)) ∧ (decode cX11_wine 90 = .ok (.iload_n 1, 1)) ∧ (decode cX11_wine 91 = .ok (.aload_n 0, 1)) ∧ (decode cX11_wine 92 = .ok (.getfield 29, 3)) ∧ (decode cX11_wine 95 = .ok (.iload_n 2, 1)) ∧ (decode cX11_wine 96 = .ok (.iaload, 1)) ∧ (decode cX11_wine 97 = .ok (.imul, 1)) ∧ (decode cX11_wine 98 = .ok (.iload_n 3, 1)) ∧ (decode cX11_wine 99 = .ok (.irem, 1)) ∧ (decode cX11_wine 100 = .ok (.istore 6, 2)) ∧ (decode cX11_wine 102 = .ok (.iconst 0, 1)) ∧ (decode cX11_wine 103 = .ok (.istore 7, 2)) ∧ (decode cX11_wine 105 = .ok (.iload 7, 2)) ∧ (decode cX11_wine 107 = .ok (.aload_n 0, 1)) ∧ (decode cX11_wine 108 = .ok (.getfield 75, 3)) := by decide +kernel
theorem dX11_wine_87 : decode cX11_wine 87 = .ok (.iconst 0, 1) := dg_cX11_wine_191.1
theorem dX11_wine_88 : decode cX11_wine 88 = .ok (.istore 5, 2) := dg_cX11_wine_191.2.1
theorem dX11_wine_90 : decode cX11_wine 90 = .ok (.iload_n 1, 1) := dg_cX11_wine_191.2.2.1
theorem dX11_wine_91 : decode cX11_wine 91 = .ok (.aload_n 0, 1) := dg_cX11_wine_191.2.2.2.1
theorem dX11_wine_92 : decode cX11_wine 92 = .ok (.getfield 29, 3) := dg_cX11_wine_191.2.2.2.2.1
theorem dX11_wine_95 : decode cX11_wine 95 = .ok (.iload_n 2, 1) := dg_cX11_wine_191.2.2.2.2.2.1
theorem dX11_wine_96 : decode cX11_wine 96 = .ok (.iaload, 1) := dg_cX11_wine_191.2.2.2.2.2.2.1
theorem dX11_wine_97 : decode cX11_wine 97 = .ok (.imul, 1) := dg_cX11_wine_191.2.2.2.2.2.2.2.1
theorem dX11_wine_98 : decode cX11_wine 98 = .ok (.iload_n 3, 1) := dg_cX11_wine_191.2.2.2.2.2.2.2.2.1
theorem dX11_wine_99 : decode cX11_wine 99 = .ok (.irem, 1) := dg_cX11_wine_191.2.2.2.2.2.2.2.2.2.1
theorem dX11_wine_100 : decode cX11_wine 100 = .ok (.istore 6, 2) := dg_cX11_wine_191.2.2.2.2.2.2.2.2.2.2.1
theorem dX11_wine_102 : decode cX11_wine 102 = .ok (.iconst 0, 1) := dg_cX11_wine_191.2.2.2.2.2.2.2.2.2.2.2.1
theorem dX11_wine_103 : decode cX11_wine 103 = .ok (.istore 7, 2) := dg_cX11_wine_191.2.2.2.2.2.2.2.2.2.2.2.2.1
theorem dX11_wine_105 : decode cX11_wine 105 = .ok (.iload 7, 2) := dg_cX11_wine_191.2.2.2.2.2.2.2.2.2.2.2.2.2.1
theorem dX11_wine_107 : decode cX11_wine 107 = .ok (.aload_n 0, 1) := dg_cX11_wine_191.2.2.2.2.2.2.2.2.2.2.2.2.2.2.1
theorem dX11_wine_108 : decode cX11_wine 108 = .ok (.getfield 75, 3) := dg_cX11_wine_191.2.2.2.2.2.2.2.2.2.2.2.2.2.2.2
set_option maxRecDepth 100000 in
theorem dg_cX11_wine_192 : (decode cX11_wine 111 = .ok (.if_icmp .ge 71, 3)) ∧ (decode cX11_wine 114 = .ok (.iload_n 1, 1)) ∧ (decode cX11_wine 115 = .ok (.aload_n 0, 1)) ∧ (decode cX11_wine 116 = .ok (.getfield 29, 3)) ∧ (decode cX11_wine 119 = .ok (.iload 7, 2)) ∧ (decode cX11_wine 121 = .ok (.iaload, 1)) ∧ (decode cX11_wine 122 = .ok (.imul, 1)) ∧ (decode cX11_wine 123 = .ok (.iload_n 3, 1)) ∧ (decode cX11_wine 124 = .ok (.irem, 1)) ∧ (decode cX11_wine 125 = .ok (.istore 8, 2)) ∧ (decode cX11_wine 127 = .ok (.iload 4, 2)) ∧ (decode cX11_wine 129 = .ok (.iload_n 1, 1)) ∧ (decode cX11_wine 130 = .ok (.aload_n 0, 1)) ∧ (decode cX11_wine 131 = .ok (.getfield 29, 3)) ∧ (decode cX11_wine 134 = .ok (.iload 7, 2)) ∧ (decode cX11_wine 136 = .ok (.iaload, 1)) := by decide +kernel
theorem dX11_wine_111 : decode cX11_wine 111 = .ok (.if_icmp .ge 71, 3) := dg_cX11_wine_192.1
theorem dX11_wine_114 : decode cX11_wine 114 = .ok (.iload_n 1, 1) := dg_cX11_wine_192.2.1
theorem dX11_wine_115 : decode cX11_wine 115 = .ok (.aload_n 0, 1) := dg_cX11_wine_192.2.2.1
theorem dX11_wine_116 : decode cX11_wine 116 = .ok (.getfield 29, 3) := dg_cX11_wine_192.2.2.2.1
theorem dX11_wine_119 : decode cX11_wine 119 = .ok (.iload 7, 2) := dg_cX11_wine_192.2.2.2.2.1
theorem dX11_wine_121 : decode cX11_wine 121 = .ok (.iaload, 1) := dg_cX11_wine_192.2.2.2.2.2.1
theorem dX11_wine_122 : decode cX11_wine 122 = .ok (.imul, 1) := dg_cX11_wine_192.2.2.2.2.2.2.1
theorem dX11_wine_123 : decode cX11_wine 123 = .ok (.iload_n 3, 1) := dg_cX11_wine_192.2.2.2.2.2.2.2.1
theorem dX11_wine_124 : decode cX11_wine 124 = .ok (.irem, 1) := dg_cX11_wine_192.2.2.2.2.2.2.2.2.1
theorem dX11_wine_125 : decode cX11_wine 125 = .ok (.istore 8, 2) := dg_cX11_wine_192.2.2.2.2.2.2.2.2.2.1
theorem dX11_wine_127 : decode cX11_wine 127 = .ok (.iload 4, 2) := dg_cX11_wine_192.2.2.2.2.2.2.2.2.2.2.1
theorem dX11_wine_129 : decode cX11_wine 129 = .ok (.iload_n 1, 1) := dg_cX11_wine_192.2.2.2.2.2.2.2.2.2.2.2.1
theorem dX11_wine_130 : decode cX11_wine 130 = .ok (.aload_n 0, 1) := dg_cX11_wine_192.2.2.2.2.2.2.2.2.2.2.2.2.1
theorem dX11_wine_131 : decode cX11_wine 131 = .ok (.getfield 29, 3) := dg_cX11_wine_192.2.2.2.2.2.2.2.2.2.2.2.2.2.1
theorem dX11_wine_134 : decode cX11_wine 134 = .ok (.iload 7, 2) := dg_cX11_wine_192.2.2.2.2.2.2.2.2.2.2.2.2.2.2.1
theorem dX11_wine_136 : decode cX11_wine 136 = .ok (.iaload, 1) := dg_cX11_wine_192.2.2.2.2.2.2.2.2.2.2.2.2.2.2.2
set_option maxRecDepth 100000 in
theorem dg_cX11_wine_193 : (decode cX11_wine 137 = .ok (.imul, 1)) ∧ (decode cX11_wine 138 = .ok (.iload_n 3, 1)) ∧ (decode cX11_wine 139 = .ok (.idiv, 1)) ∧ (decode cX11_wine 140 = .ok (.isub, 1)) ∧ (decode cX11_wine 141 = .ok (.istore 4, 2)) ∧ (decode cX11_wine 143 = .ok (.iload 5, 2)) ∧ (decode cX11_wine 145 = .ok (.iload 8, 2)) ∧ (decode cX11_wine 147 = .ok (.iload 6, 2)) ∧ (decode cX11_wine 149 = .ok (.if_icmp .gt 16, 3)) ∧ (decode cX11_wine 152 = .ok (.iload 8, 2)) ∧ (decode cX11_wine 154 = .ok (.iload 6, 2)) ∧ (decode cX11_wine 156 = .ok (.if_icmp .ne 13, 3)) ∧ (decode cX11_wine 159 = .ok (.iload 7, 2)) ∧ (decode cX11_wine 161 = .ok (.iload_n 2, 1)) ∧ (decode cX11_wine 162 = .ok (.if_icmp .ge 7, 3)) ∧ (decode cX11_wine 165 = .ok (.iconst 1, 1)) := by decide +kernel
theorem dX11_wine_137 : decode cX11_wine 137 = .ok (.imul, 1) := dg_cX11_wine_193.1
theorem dX11_wine_138 : decode cX11_wine 138 = .ok (.iload_n 3, 1) := dg_cX11_wine_193.2.1
theorem dX11_wine_139 : decode cX11_wine 139 = .ok (.idiv, 1) := dg_cX11_wine_193.2.2.1
theorem dX11_wine_140 : decode cX11_wine 140 = .ok (.isub, 1) := dg_cX11_wine_193.2.2.2.1
theorem dX11_wine_141 : decode cX11_wine 141 = .ok (.istore 4, 2) := dg_cX11_wine_193.2.2.2.2.1
theorem dX11_wine_143 : decode cX11_wine 143 = .ok (.iload 5, 2) := dg_cX11_wine_193.2.2.2.2.2.1
theorem dX11_wine_145 : decode cX11_wine 145 = .ok (.iload 8, 2) := dg_cX11_wine_193.2.2.2.2.2.2.1
theorem dX11_wine_147 : decode cX11_wine 147 = .ok (.iload 6, 2) := dg_cX11_wine_193.2.2.2.2.2.2.2.1
theorem dX11_wine_149 : decode cX11_wine 149 = .ok (.if_icmp .gt 16, 3) := dg_cX11_wine_193.2.2.2.2.2.2.2.2.1
theorem dX11_wine_152 : decode cX11_wine 152 = .ok (.iload 8, 2) := dg_cX11_wine_193.2.2.2.2.2.2.2.2.2.1
theorem dX11_wine_154 : decode cX11_wine 154 = .ok (.iload 6, 2) := dg_cX11_wine_193.2.2.2.2.2.2.2.2.2.2.1
theorem dX11_wine_156 : decode cX11_wine 156 = .ok (.if_icmp .ne 13, 3) := dg_cX11_wine_193.2.2.2.2.2.2.2.2.2.2.2.1
theorem dX11_wine_159 : decode cX11_wine 159 = .ok (.iload 7, 2) := dg_cX11_wine_193.2.2.2.2.2.2.2.2.2.2.2.2.1
theorem dX11_wine_161 : decode cX11_wine 161 = .ok (.iload_n 2, 1) := dg_cX11_wine_193.2.2.2.2.2.2.2.2.2.2.2.2.2.1
theorem dX11_wine_162 : decode cX11_wine 162 = .ok (.if_icmp .ge 7, 3) := dg_cX11_wine_193.2.2.2.2.2.2.2.2.2.2.2.2.2.2.1
theorem dX11_wine_165 : decode cX11_wine 165 = .ok (.iconst 1, 1) := dg_cX11_wine_193.2.2.2.2.2.2.2.2.2.2.2.2.2.2.2
set_option maxRecDepth 100000 in
theorem dg_cX11_wine_194 : (decode cX11_wine 166 = .ok (.goto 4, 3)) ∧ (decode cX11_wine 169 = .ok (.iconst 0, 1)) ∧ (decode cX11_wine 170 = .ok (.invokestatic 191, 3)) ∧ (decode cX11_wine 173 = .ok (.iadd, 1)) ∧ (decode cX11_wine 174 = .ok (.istore 5, 2)) ∧ (decode cX11_wine 176 = .ok (.iinc 7 1, 3)) ∧ (decode cX11_wine 179 = .ok (.goto (-74), 3)) ∧ (decode cX11_wine 182 = .ok (.iload_n 1, 1)) ∧ (decode cX11_wine 183 = .ok (.aload_n 0, 1)) ∧ (decode cX11_wine 184 = .ok (.getfield 29, 3)) ∧ (decode cX11_wine 187 = .ok (.iload_n 2, 1)) ∧ (decode cX11_wine 188 = .ok (.iaload, 1)) ∧ (decode cX11_wine 189 = .ok (.imul, 1)) ∧ (decode cX11_wine 190 = .ok (.iload_n 3, 1)) ∧ (decode cX11_wine 191 = .ok (.idiv, 1)) ∧ (decode cX11_wine 192 = .ok (.iload 5, 2)) := by decide +kernel
theorem dX11_wine_166 : decode cX11_wine 166 = .ok (.goto 4, 3) := dg_cX11_wine_194.1
theorem dX11_wine_169 : decode cX11_wine 169 = .ok (.iconst 0, 1) := dg_cX11_wine_194.2.1
theorem dX11_wine_170 : decode cX11_wine 170 = .ok (.invokestatic 191, 3) := dg_cX11_wine_194.2.2.1
theorem dX11_wine_173 : decode cX11_wine 173 = .ok (.iadd, 1) := dg_cX11_wine_194.2.2.2.1
theorem dX11_wine_174 : decode cX11_wine 174 = .ok (.istore 5, 2) := dg_cX11_wine_194.2.2.2.2.1
theorem dX11_wine_176 : decode cX11_wine 176 = .ok (.iinc 7 1, 3) := dg_cX11_wine_194.2.2.2.2.2.1
theorem dX11_wine_179 : decode cX11_wine 179 = .ok (.goto (-74), 3) := dg_cX11_wine_194.2.2.2.2.2.2.1
theorem dX11_wine_182 : decode cX11_wine 182 = .ok (.iload_n 1, 1) := dg_cX11_wine_194.2.2.2.2.2.2.2.1
theorem dX11_wine_183 : decode cX11_wine 183 = .ok (.aload_n 0, 1) := dg_cX11_wine_194.2.2.2.2.2.2.2.2.1
theorem dX11_wine_184 : decode cX11_wine 184 = .ok (.getfield 29, 3) := dg_cX11_wine_194.2.2.2.2.2.2.2.2.2.1
theorem dX11_wine_187 : decode cX11_wine 187 = .ok (.iload_n 2, 1) := dg_cX11_wine_194.2.2.2.2.2.2.2.2.2.2.1
theorem dX11_wine_188 : decode cX11_wine 188 = .ok (.iaload, 1) := dg_cX11_wine_194.2.2.2.2.2.2.2.2.2.2.2.1
theorem dX11_wine_189 : decode cX11_wine 189 = .ok (.imul, 1) := dg_cX11_wine_194.2.2.2.2.2.2.2.2.2.2.2.2.1
theorem dX11_wine_190 : decode cX11_wine 190 = .ok (.iload_n 3, 1) := dg_cX11_wine_194.2.2.2.2.2.2.2.2.2.2.2.2.2.1
theorem dX11_wine_191 : decode cX11_wine 191 = .ok (.idiv, 1) := dg_cX11_wine_194.2.2.2.2.2.2.2.2.2.2.2.2.2.2.1
theorem dX11_wine_192 : decode cX11_wine 192 = .ok (.iload 5, 2) := dg_cX11_wine_194.2.2.2.2.2.2.2.2.2.2.2.2.2.2.2
set_option maxRecDepth 100000 in
theorem dg_cX11_wine_195 : (decode cX11_wine 194 = .ok (.iload 4, 2)) ∧ (decode cX11_wine 196 = .ok (.if_icmp .ge 7, 3)) ∧ (decode cX11_wine 199 = .ok (.iconst 1, 1)) ∧ (decode cX11_wine 200 = .ok (.goto 4, 3)) ∧ (decode cX11_wine 203 = .ok (.iconst 0, 1)) ∧ (decode cX11_wine 204 = .ok (.invokestatic 191, 3)) ∧ (decode cX11_wine 207 = .ok (.iadd, 1)) ∧ (decode cX11_wine 208 = .ok (.ireturn, 1)) := by decide +kernel
theorem dX11_wine_194 : decode cX11_wine 194 = .ok (.iload 4, 2) := dg_cX11_wine_195.1
theorem dX11_wine_196 : decode cX11_wine 196 = .ok (.if_icmp .ge 7, 3) := dg_cX11_wine_195.2.1
theorem dX11_wine_199 : decode cX11_wine 199 = .ok (.iconst 1, 1) := dg_cX11_wine_195.2.2.1
theorem dX11_wine_200 : decode cX11_wine 200 = .ok (.goto 4, 3) := dg_cX11_wine_195.2.2.2.1
theorem dX11_wine_203 : decode cX11_wine 203 = .ok (.iconst 0, 1) := dg_cX11_wine_195.2.2.2.2.1
theorem dX11_wine_204 : decode cX11_wine 204 = .ok (.invokestatic 191, 3) := dg_cX11_wine_195.2.2.2.2.2.1
theorem dX11_wine_207 : decode cX11_wine 207 = .ok (.iadd, 1) := dg_cX11_wine_195.2.2.2.2.2.2.1
theorem dX11_wine_208 : decode cX11_wine 208 = .ok (.ireturn, 1) := dg_cX11_wine_195.2.2.2.2.2.2.2
set_option maxRecDepth 100000 in
theorem dg_cX11_hear_196 : (decode cX11_hear 0 = .ok (.iload_n 1, 1)) ∧ (decode cX11_hear 1 = .ok (.bipush (-4), 2)) ∧ (decode cX11_hear 3 = .ok (.if_icmp .eq 13, 3)) ∧ (decode cX11_hear 6 = .ok (.aload_n 0, 1)) ∧ (decode cX11_hear 7 = .ok (.iload_n 1, 1)) ∧ (decode cX11_hear 8 = .ok (.invokevirtual 166, 3)) ∧ (decode cX11_hear 11 = .ok (.ifCond .ne 5, 3)) ∧ (decode cX11_hear 14 = .ok (.iconst (-1), 1)) ∧ (decode cX11_hear 15 = .ok (.ireturn, 1)) ∧ (decode cX11_hear 16 = .ok (.aload_n 0, 1)) ∧ (decode cX11_hear 17 = .ok (.getfield 7, 3)) ∧ (decode cX11_hear 20 = .ok (.bipush 66, 2)) ∧ (decode cX11_hear 22 = .ok (.iaload, 1)) ∧ (decode cX11_hear 23 = .ok (.bipush 12, 2)) ∧ (decode cX11_hear 25 = .ok (.if_icmp .ne 6, 3)) ∧ (decode cX11_hear 28 = .ok (.bipush (-3), 2)) := by decide +kernel
theorem dX11_hear_0 : decode cX11_hear 0 = .ok (.iload_n 1, 1) := dg_cX11_hear_196.1
theorem dX11_hear_1 : decode cX11_hear 1 = .ok (.bipush (-4), 2) := dg_cX11_hear_196.2.1
theorem dX11_hear_3 : decode cX11_hear 3 = .ok (.if_icmp .eq 13, 3) := dg_cX11_hear_196.2.2.1
theorem dX11_hear_6 : decode cX11_hear 6 = .ok (.aload_n 0, 1) := dg_cX11_hear_196.2.2.2.1
theorem dX11_hear_7 : decode cX11_hear 7 = .ok (.iload_n 1, 1) := dg_cX11_hear_196.2.2.2.2.1
theorem dX11_hear_8 : decode cX11_hear 8 = .ok (.invokevirtual 166, 3) := dg_cX11_hear_196.2.2.2.2.2.1
theorem dX11_hear_11 : decode cX11_hear 11 = .ok (.ifCond .ne 5, 3) := dg_cX11_hear_196.2.2.2.2.2.2.1
theorem dX11_hear_14 : decode cX11_hear 14 = .ok (.iconst (-1), 1) := dg_cX11_hear_196.2.2.2.2.2.2.2.1
theorem dX11_hear_15 : decode cX11_hear 15 = .ok (.ireturn, 1) := dg_cX11_hear_196.2.2.2.2.2.2.2.2.1
theorem dX11_hear_16 : decode cX11_hear 16 = .ok (.aload_n 0, 1) := dg_cX11_hear_196.2.2.2.2.2.2.2.2.2.1
theorem dX11_hear_17 : decode cX11_hear 17 = .ok (.getfield 7, 3) := dg_cX11_hear_196.2.2.2.2.2.2.2.2.2.2.1
theorem dX11_hear_20 : decode cX11_hear 20 = .ok (.bipush 66, 2) := dg_cX11_hear_196.2.2.2.2.2.2.2.2.2.2.2.1
theorem dX11_hear_22 : decode cX11_hear 22 = .ok (.iaload, 1) := dg_cX11_hear_196.2.2.2.2.2.2.2.2.2.2.2.2.1
theorem dX11_hear_23 : decode cX11_hear 23 = .ok (.bipush 12, 2) := dg_cX11_hear_196.2.2.2.2.2.2.2.2.2.2.2.2.2.1
theorem dX11_hear_25 : decode cX11_hear 25 = .ok (.if_icmp .ne 6, 3) := dg_cX11_hear_196.2.2.2.2.2.2.2.2.2.2.2.2.2.2.1
theorem dX11_hear_28 : decode cX11_hear 28 = .ok (.bipush (-3), 2) := dg_cX11_hear_196.2.2.2.2.2.2.2.2.2.2.2.2.2.2.2
set_option maxRecDepth 100000 in
theorem dg_cX11_hear_197 : (decode cX11_hear 30 = .ok (.ireturn, 1)) ∧ (decode cX11_hear 31 = .ok (.aload_n 0, 1)) ∧ (decode cX11_hear 32 = .ok (.getfield 7, 3)) ∧ (decode cX11_hear 35 = .ok (.bipush 67, 2)) ∧ (decode cX11_hear 37 = .ok (.aload_n 0, 1)) ∧ (decode cX11_hear 38 = .ok (.getfield 7, 3)) ∧ (decode cX11_hear 41 = .ok (.bipush 66, 2)) ∧ (decode cX11_hear 43 = .ok (.iaload, 1)) ∧ (decode cX11_hear 44 = .ok (.iadd, 1)) ∧ (decode cX11_hear 45 = .ok (.iload_n 1, 1)) ∧ (decode cX11_hear 46 = .ok (.iastore, 1)) ∧ (decode cX11_hear 47 = .ok (.aload_n 0, 1)) ∧ (decode cX11_hear 48 = .ok (.getfield 7, 3)) ∧ (decode cX11_hear 51 = .ok (.bipush 66, 2)) ∧ (decode cX11_hear 53 = .ok (.dup2, 1)) ∧ (decode cX11_hear 54 = .ok (.iaload, 1)) := by decide +kernel
theorem dX11_hear_30 : decode cX11_hear 30 = .ok (.ireturn, 1) := dg_cX11_hear_197.1
theorem dX11_hear_31 : decode cX11_hear 31 = .ok (.aload_n 0, 1) := dg_cX11_hear_197.2.1
theorem dX11_hear_32 : decode cX11_hear 32 = .ok (.getfield 7, 3) := dg_cX11_hear_197.2.2.1
theorem dX11_hear_35 : decode cX11_hear 35 = .ok (.bipush 67, 2) := dg_cX11_hear_197.2.2.2.1
theorem dX11_hear_37 : decode cX11_hear 37 = .ok (.aload_n 0, 1) := dg_cX11_hear_197.2.2.2.2.1
theorem dX11_hear_38 : decode cX11_hear 38 = .ok (.getfield 7, 3) := dg_cX11_hear_197.2.2.2.2.2.1
theorem dX11_hear_41 : decode cX11_hear 41 = .ok (.bipush 66, 2) := dg_cX11_hear_197.2.2.2.2.2.2.1
theorem dX11_hear_43 : decode cX11_hear 43 = .ok (.iaload, 1) := dg_cX11_hear_197.2.2.2.2.2.2.2.1
theorem dX11_hear_44 : decode cX11_hear 44 = .ok (.iadd, 1) := dg_cX11_hear_197.2.2.2.2.2.2.2.2.1
theorem dX11_hear_45 : decode cX11_hear 45 = .ok (.iload_n 1, 1) := dg_cX11_hear_197.2.2.2.2.2.2.2.2.2.1
theorem dX11_hear_46 : decode cX11_hear 46 = .ok (.iastore, 1) := dg_cX11_hear_197.2.2.2.2.2.2.2.2.2.2.1
theorem dX11_hear_47 : decode cX11_hear 47 = .ok (.aload_n 0, 1) := dg_cX11_hear_197.2.2.2.2.2.2.2.2.2.2.2.1
theorem dX11_hear_48 : decode cX11_hear 48 = .ok (.getfield 7, 3) := dg_cX11_hear_197.2.2.2.2.2.2.2.2.2.2.2.2.1
theorem dX11_hear_51 : decode cX11_hear 51 = .ok (.bipush 66, 2) := dg_cX11_hear_197.2.2.2.2.2.2.2.2.2.2.2.2.2.1
theorem dX11_hear_53 : decode cX11_hear 53 = .ok (.dup2, 1) := dg_cX11_hear_197.2.2.2.2.2.2.2.2.2.2.2.2.2.2.1
theorem dX11_hear_54 : decode cX11_hear 54 = .ok (.iaload, 1) := dg_cX11_hear_197.2.2.2.2.2.2.2.2.2.2.2.2.2.2.2
set_option maxRecDepth 100000 in
theorem dg_cX11_hear_198 : (decode cX11_hear 55 = .ok (.iconst 1, 1)) ∧ (decode cX11_hear 56 = .ok (.iadd, 1)) ∧ (decode cX11_hear 57 = .ok (.iastore, 1)) ∧ (decode cX11_hear 58 = .ok (.aload_n 0, 1)) ∧ (decode cX11_hear 59 = .ok (.getfield 7, 3)) ∧ (decode cX11_hear 62 = .ok (.bipush 66, 2)) ∧ (decode cX11_hear 64 = .ok (.iaload, 1)) ∧ (decode cX11_hear 65 = .ok (.ireturn, 1)) := by decide +kernel
theorem dX11_hear_55 : decode cX11_hear 55 = .ok (.iconst 1, 1) := dg_cX11_hear_198.1
theorem dX11_hear_56 : decode cX11_hear 56 = .ok (.iadd, 1) := dg_cX11_hear_198.2.1
theorem dX11_hear_57 : decode cX11_hear 57 = .ok (.iastore, 1) := dg_cX11_hear_198.2.2.1
theorem dX11_hear_58 : decode cX11_hear 58 = .ok (.aload_n 0, 1) := dg_cX11_hear_198.2.2.2.1
theorem dX11_hear_59 : decode cX11_hear 59 = .ok (.getfield 7, 3) := dg_cX11_hear_198.2.2.2.2.1
theorem dX11_hear_62 : decode cX11_hear 62 = .ok (.bipush 66, 2) := dg_cX11_hear_198.2.2.2.2.2.1
theorem dX11_hear_64 : decode cX11_hear 64 = .ok (.iaload, 1) := dg_cX11_hear_198.2.2.2.2.2.2.1
theorem dX11_hear_65 : decode cX11_hear 65 = .ok (.ireturn, 1) := dg_cX11_hear_198.2.2.2.2.2.2.2
set_option maxRecDepth 100000 in
theorem dg_cX11_hush_199 : (decode cX11_hush 0 = .ok (.aload_n 0, 1)) ∧ (decode cX11_hush 1 = .ok (.getfield 7, 3)) ∧ (decode cX11_hush 4 = .ok (.bipush 66, 2)) ∧ (decode cX11_hush 6 = .ok (.iaload, 1)) ∧ (decode cX11_hush 7 = .ok (.istore_n 1, 1)) ∧ (decode cX11_hush 8 = .ok (.aload_n 0, 1)) ∧ (decode cX11_hush 9 = .ok (.getfield 7, 3)) ∧ (decode cX11_hush 12 = .ok (.bipush 66, 2)) ∧ (decode cX11_hush 14 = .ok (.iconst 0, 1)) ∧ (decode cX11_hush 15 = .ok (.iastore, 1)) ∧ (decode cX11_hush 16 = .ok (.iload_n 1, 1)) ∧ (decode cX11_hush 17 = .ok (.ireturn, 1)) := by decide +kernel
theorem dX11_hush_0 : decode cX11_hush 0 = .ok (.aload_n 0, 1) := dg_cX11_hush_199.1
theorem dX11_hush_1 : decode cX11_hush 1 = .ok (.getfield 7, 3) := dg_cX11_hush_199.2.1
theorem dX11_hush_4 : decode cX11_hush 4 = .ok (.bipush 66, 2) := dg_cX11_hush_199.2.2.1
theorem dX11_hush_6 : decode cX11_hush 6 = .ok (.iaload, 1) := dg_cX11_hush_199.2.2.2.1
theorem dX11_hush_7 : decode cX11_hush 7 = .ok (.istore_n 1, 1) := dg_cX11_hush_199.2.2.2.2.1
theorem dX11_hush_8 : decode cX11_hush 8 = .ok (.aload_n 0, 1) := dg_cX11_hush_199.2.2.2.2.2.1
theorem dX11_hush_9 : decode cX11_hush 9 = .ok (.getfield 7, 3) := dg_cX11_hush_199.2.2.2.2.2.2.1
theorem dX11_hush_12 : decode cX11_hush 12 = .ok (.bipush 66, 2) := dg_cX11_hush_199.2.2.2.2.2.2.2.1
theorem dX11_hush_14 : decode cX11_hush 14 = .ok (.iconst 0, 1) := dg_cX11_hush_199.2.2.2.2.2.2.2.2.1
theorem dX11_hush_15 : decode cX11_hush 15 = .ok (.iastore, 1) := dg_cX11_hush_199.2.2.2.2.2.2.2.2.2.1
theorem dX11_hush_16 : decode cX11_hush 16 = .ok (.iload_n 1, 1) := dg_cX11_hush_199.2.2.2.2.2.2.2.2.2.2.1
theorem dX11_hush_17 : decode cX11_hush 17 = .ok (.ireturn, 1) := dg_cX11_hush_199.2.2.2.2.2.2.2.2.2.2.2
set_option maxRecDepth 100000 in
theorem dg_cX11_isFit_200 : (decode cX11_isFit 0 = .ok (.aload_n 0, 1)) ∧ (decode cX11_isFit 1 = .ok (.iconst 0, 1)) ∧ (decode cX11_isFit 2 = .ok (.putfield 297, 3)) ∧ (decode cX11_isFit 5 = .ok (.iconst 0, 1)) ∧ (decode cX11_isFit 6 = .ok (.istore_n 2, 1)) ∧ (decode cX11_isFit 7 = .ok (.aload_n 0, 1)) ∧ (decode cX11_isFit 8 = .ok (.iload_n 1, 1)) ∧ (decode cX11_isFit 9 = .ok (.invokevirtual 180, 3)) ∧ (decode cX11_isFit 12 = .ok (.aload_n 0, 1)) ∧ (decode cX11_isFit 13 = .ok (.getfield 7, 3)) ∧ (decode cX11_isFit 16 = .ok (.bipush 66, 2)) ∧ (decode cX11_isFit 18 = .ok (.iaload, 1)) ∧ (decode cX11_isFit 19 = .ok (.if_icmp .ne 7, 3)) ∧ (decode cX11_isFit 22 = .ok (.iconst 1, 1)) ∧ (decode cX11_isFit 23 = .ok (.goto 4, 3)) ∧ (decode cX11_isFit 26 = .ok (.iconst 0, 1)) := by decide +kernel
theorem dX11_isFit_0 : decode cX11_isFit 0 = .ok (.aload_n 0, 1) := dg_cX11_isFit_200.1
theorem dX11_isFit_1 : decode cX11_isFit 1 = .ok (.iconst 0, 1) := dg_cX11_isFit_200.2.1
theorem dX11_isFit_2 : decode cX11_isFit 2 = .ok (.putfield 297, 3) := dg_cX11_isFit_200.2.2.1
theorem dX11_isFit_5 : decode cX11_isFit 5 = .ok (.iconst 0, 1) := dg_cX11_isFit_200.2.2.2.1
theorem dX11_isFit_6 : decode cX11_isFit 6 = .ok (.istore_n 2, 1) := dg_cX11_isFit_200.2.2.2.2.1
theorem dX11_isFit_7 : decode cX11_isFit 7 = .ok (.aload_n 0, 1) := dg_cX11_isFit_200.2.2.2.2.2.1
theorem dX11_isFit_8 : decode cX11_isFit 8 = .ok (.iload_n 1, 1) := dg_cX11_isFit_200.2.2.2.2.2.2.1
theorem dX11_isFit_9 : decode cX11_isFit 9 = .ok (.invokevirtual 180, 3) := dg_cX11_isFit_200.2.2.2.2.2.2.2.1
theorem dX11_isFit_12 : decode cX11_isFit 12 = .ok (.aload_n 0, 1) := dg_cX11_isFit_200.2.2.2.2.2.2.2.2.1
theorem dX11_isFit_13 : decode cX11_isFit 13 = .ok (.getfield 7, 3) := dg_cX11_isFit_200.2.2.2.2.2.2.2.2.2.1
theorem dX11_isFit_16 : decode cX11_isFit 16 = .ok (.bipush 66, 2) := dg_cX11_isFit_200.2.2.2.2.2.2.2.2.2.2.1
theorem dX11_isFit_18 : decode cX11_isFit 18 = .ok (.iaload, 1) := dg_cX11_isFit_200.2.2.2.2.2.2.2.2.2.2.2.1
theorem dX11_isFit_19 : decode cX11_isFit 19 = .ok (.if_icmp .ne 7, 3) := dg_cX11_isFit_200.2.2.2.2.2.2.2.2.2.2.2.2.1
theorem dX11_isFit_22 : decode cX11_isFit 22 = .ok (.iconst 1, 1) := dg_cX11_isFit_200.2.2.2.2.2.2.2.2.2.2.2.2.2.1
theorem dX11_isFit_23 : decode cX11_isFit 23 = .ok (.goto 4, 3) := dg_cX11_isFit_200.2.2.2.2.2.2.2.2.2.2.2.2.2.2.1
theorem dX11_isFit_26 : decode cX11_isFit 26 = .ok (.iconst 0, 1) := dg_cX11_isFit_200.2.2.2.2.2.2.2.2.2.2.2.2.2.2.2
set_option maxRecDepth 100000 in
theorem dg_cX11_isFit_201 : (decode cX11_isFit 27 = .ok (.istore_n 3, 1)) ∧ (decode cX11_isFit 28 = .ok (.iconst 0, 1)) ∧ (decode cX11_isFit 29 = .ok (.istore 4, 2)) ∧ (decode cX11_isFit 31 = .ok (.iload 4, 2)) ∧ (decode cX11_isFit 33 = .ok (.aload_n 0, 1)) ∧ (decode cX11_isFit 34 = .ok (.getfield 7, 3)) ∧ (decode cX11_isFit 37 = .ok (.bipush 66, 2)) ∧ (decode cX11_isFit 39 = .ok (.iaload, 1)) ∧ (decode cX11_isFit 40 = .ok (.if_icmp .ge 106, 3)) ∧ (decode cX11_isFit 43 = .ok (.iload_n 3, 1)) ∧ (decode cX11_isFit 44 = .ok (.ifCond .eq 102, 3)) ∧ (decode cX11_isFit 47 = .ok (.aload_n 0, 1)) ∧ (decode cX11_isFit 48 = .ok (.getfield 7, 3)) ∧ (decode cX11_isFit 51 = .ok (.bipush 67, 2)) ∧ (decode cX11_isFit 53 = .ok (.iload 4, 2)) ∧ (decode cX11_isFit 55 = .ok (.iadd, 1)) := by decide +kernel
theorem dX11_isFit_27 : decode cX11_isFit 27 = .ok (.istore_n 3, 1) := dg_cX11_isFit_201.1
theorem dX11_isFit_28 : decode cX11_isFit 28 = .ok (.iconst 0, 1) := dg_cX11_isFit_201.2.1
theorem dX11_isFit_29 : decode cX11_isFit 29 = .ok (.istore 4, 2) := dg_cX11_isFit_201.2.2.1
theorem dX11_isFit_31 : decode cX11_isFit 31 = .ok (.iload 4, 2) := dg_cX11_isFit_201.2.2.2.1
theorem dX11_isFit_33 : decode cX11_isFit 33 = .ok (.aload_n 0, 1) := dg_cX11_isFit_201.2.2.2.2.1
theorem dX11_isFit_34 : decode cX11_isFit 34 = .ok (.getfield 7, 3) := dg_cX11_isFit_201.2.2.2.2.2.1
theorem dX11_isFit_37 : decode cX11_isFit 37 = .ok (.bipush 66, 2) := dg_cX11_isFit_201.2.2.2.2.2.2.1
theorem dX11_isFit_39 : decode cX11_isFit 39 = .ok (.iaload, 1) := dg_cX11_isFit_201.2.2.2.2.2.2.2.1
theorem dX11_isFit_40 : decode cX11_isFit 40 = .ok (.if_icmp .ge 106, 3) := dg_cX11_isFit_201.2.2.2.2.2.2.2.2.1
theorem dX11_isFit_43 : decode cX11_isFit 43 = .ok (.iload_n 3, 1) := dg_cX11_isFit_201.2.2.2.2.2.2.2.2.2.1
theorem dX11_isFit_44 : decode cX11_isFit 44 = .ok (.ifCond .eq 102, 3) := dg_cX11_isFit_201.2.2.2.2.2.2.2.2.2.2.1
theorem dX11_isFit_47 : decode cX11_isFit 47 = .ok (.aload_n 0, 1) := dg_cX11_isFit_201.2.2.2.2.2.2.2.2.2.2.2.1
theorem dX11_isFit_48 : decode cX11_isFit 48 = .ok (.getfield 7, 3) := dg_cX11_isFit_201.2.2.2.2.2.2.2.2.2.2.2.2.1
theorem dX11_isFit_51 : decode cX11_isFit 51 = .ok (.bipush 67, 2) := dg_cX11_isFit_201.2.2.2.2.2.2.2.2.2.2.2.2.2.1
theorem dX11_isFit_53 : decode cX11_isFit 53 = .ok (.iload 4, 2) := dg_cX11_isFit_201.2.2.2.2.2.2.2.2.2.2.2.2.2.2.1
theorem dX11_isFit_55 : decode cX11_isFit 55 = .ok (.iadd, 1) := dg_cX11_isFit_201.2.2.2.2.2.2.2.2.2.2.2.2.2.2.2
set_option maxRecDepth 100000 in
theorem dg_cX11_isFit_202 : (decode cX11_isFit 56 = .ok (.iaload, 1)) ∧ (decode cX11_isFit 57 = .ok (.istore 5, 2)) ∧ (decode cX11_isFit 59 = .ok (.aload_n 0, 1)) ∧ (decode cX11_isFit 60 = .ok (.aload_n 0, 1)) ∧ (decode cX11_isFit 61 = .ok (.iload_n 1, 1)) ∧ (decode cX11_isFit 62 = .ok (.iload 4, 2)) ∧ (decode cX11_isFit 64 = .ok (.invokevirtual 183, 3)) ∧ (decode cX11_isFit 67 = .ok (.iconst 0, 1)) ∧ (decode cX11_isFit 68 = .ok (.invokevirtual 172, 3)) ∧ (decode cX11_isFit 71 = .ok (.istore 6, 2)) ∧ (decode cX11_isFit 73 = .ok (.aload_n 0, 1)) ∧ (decode cX11_isFit 74 = .ok (.dup, 1)) ∧ (decode cX11_isFit 75 = .ok (.getfield 297, 3)) ∧ (decode cX11_isFit 78 = .ok (.iload 5, 2)) ∧ (decode cX11_isFit 80 = .ok (.bipush (-4), 2)) ∧ (decode cX11_isFit 82 = .ok (.if_icmp .ne 10, 3)) := by decide +kernel
theorem dX11_isFit_56 : decode cX11_isFit 56 = .ok (.iaload, 1) := dg_cX11_isFit_202.1
theorem dX11_isFit_57 : decode cX11_isFit 57 = .ok (.istore 5, 2) := dg_cX11_isFit_202.2.1
theorem dX11_isFit_59 : decode cX11_isFit 59 = .ok (.aload_n 0, 1) := dg_cX11_isFit_202.2.2.1
theorem dX11_isFit_60 : decode cX11_isFit 60 = .ok (.aload_n 0, 1) := dg_cX11_isFit_202.2.2.2.1
theorem dX11_isFit_61 : decode cX11_isFit 61 = .ok (.iload_n 1, 1) := dg_cX11_isFit_202.2.2.2.2.1
theorem dX11_isFit_62 : decode cX11_isFit 62 = .ok (.iload 4, 2) := dg_cX11_isFit_202.2.2.2.2.2.1
theorem dX11_isFit_64 : decode cX11_isFit 64 = .ok (.invokevirtual 183, 3) := dg_cX11_isFit_202.2.2.2.2.2.2.1
theorem dX11_isFit_67 : decode cX11_isFit 67 = .ok (.iconst 0, 1) := dg_cX11_isFit_202.2.2.2.2.2.2.2.1
theorem dX11_isFit_68 : decode cX11_isFit 68 = .ok (.invokevirtual 172, 3) := dg_cX11_isFit_202.2.2.2.2.2.2.2.2.1
theorem dX11_isFit_71 : decode cX11_isFit 71 = .ok (.istore 6, 2) := dg_cX11_isFit_202.2.2.2.2.2.2.2.2.2.1
theorem dX11_isFit_73 : decode cX11_isFit 73 = .ok (.aload_n 0, 1) := dg_cX11_isFit_202.2.2.2.2.2.2.2.2.2.2.1
theorem dX11_isFit_74 : decode cX11_isFit 74 = .ok (.dup, 1) := dg_cX11_isFit_202.2.2.2.2.2.2.2.2.2.2.2.1
theorem dX11_isFit_75 : decode cX11_isFit 75 = .ok (.getfield 297, 3) := dg_cX11_isFit_202.2.2.2.2.2.2.2.2.2.2.2.2.1
theorem dX11_isFit_78 : decode cX11_isFit 78 = .ok (.iload 5, 2) := dg_cX11_isFit_202.2.2.2.2.2.2.2.2.2.2.2.2.2.1
theorem dX11_isFit_80 : decode cX11_isFit 80 = .ok (.bipush (-4), 2) := dg_cX11_isFit_202.2.2.2.2.2.2.2.2.2.2.2.2.2.2.1
theorem dX11_isFit_82 : decode cX11_isFit 82 = .ok (.if_icmp .ne 10, 3) := dg_cX11_isFit_202.2.2.2.2.2.2.2.2.2.2.2.2.2.2.2
set_option maxRecDepth 100000 in
theorem dg_cX11_isFit_203 : (decode cX11_isFit 85 = .ok (.iconst 1, 1)) ∧ (decode cX11_isFit 86 = .ok (.iload 6, 2)) ∧ (decode cX11_isFit 88 = .ok (.ishl, 1)) ∧ (decode cX11_isFit 89 = .ok (.goto 4, 3)) ∧ (decode cX11_isFit 92 = .ok (.iconst 0, 1)) ∧ (decode cX11_isFit 93 = .ok (.ior, 1)) ∧ (decode cX11_isFit 94 = .ok (.putfield 297, 3)) ∧ (decode cX11_isFit 97 = .ok (.iload_n 2, 1)) ∧ (decode cX11_isFit 98 = .ok (.iload 5, 2)) ∧ (decode cX11_isFit 100 = .ok (.bipush (-4), 2)) ∧ (decode cX11_isFit 102 = .ok (.if_icmp .ne 7, 3)) ∧ (decode cX11_isFit 105 = .ok (.iconst 0, 1)) ∧ (decode cX11_isFit 106 = .ok (.goto 7, 3)) ∧ (decode cX11_isFit 109 = .ok (.iconst 1, 1)) ∧ (decode cX11_isFit 110 = .ok (.iload 6, 2)) ∧ (decode cX11_isFit 112 = .ok (.ishl, 1)) := by decide +kernel
theorem dX11_isFit_85 : decode cX11_isFit 85 = .ok (.iconst 1, 1) := dg_cX11_isFit_203.1
theorem dX11_isFit_86 : decode cX11_isFit 86 = .ok (.iload 6, 2) := dg_cX11_isFit_203.2.1
theorem dX11_isFit_88 : decode cX11_isFit 88 = .ok (.ishl, 1) := dg_cX11_isFit_203.2.2.1
theorem dX11_isFit_89 : decode cX11_isFit 89 = .ok (.goto 4, 3) := dg_cX11_isFit_203.2.2.2.1
theorem dX11_isFit_92 : decode cX11_isFit 92 = .ok (.iconst 0, 1) := dg_cX11_isFit_203.2.2.2.2.1
theorem dX11_isFit_93 : decode cX11_isFit 93 = .ok (.ior, 1) := dg_cX11_isFit_203.2.2.2.2.2.1
theorem dX11_isFit_94 : decode cX11_isFit 94 = .ok (.putfield 297, 3) := dg_cX11_isFit_203.2.2.2.2.2.2.1
theorem dX11_isFit_97 : decode cX11_isFit 97 = .ok (.iload_n 2, 1) := dg_cX11_isFit_203.2.2.2.2.2.2.2.1
theorem dX11_isFit_98 : decode cX11_isFit 98 = .ok (.iload 5, 2) := dg_cX11_isFit_203.2.2.2.2.2.2.2.2.1
theorem dX11_isFit_100 : decode cX11_isFit 100 = .ok (.bipush (-4), 2) := dg_cX11_isFit_203.2.2.2.2.2.2.2.2.2.1
theorem dX11_isFit_102 : decode cX11_isFit 102 = .ok (.if_icmp .ne 7, 3) := dg_cX11_isFit_203.2.2.2.2.2.2.2.2.2.2.1
theorem dX11_isFit_105 : decode cX11_isFit 105 = .ok (.iconst 0, 1) := dg_cX11_isFit_203.2.2.2.2.2.2.2.2.2.2.2.1
theorem dX11_isFit_106 : decode cX11_isFit 106 = .ok (.goto 7, 3) := dg_cX11_isFit_203.2.2.2.2.2.2.2.2.2.2.2.2.1
theorem dX11_isFit_109 : decode cX11_isFit 109 = .ok (.iconst 1, 1) := dg_cX11_isFit_203.2.2.2.2.2.2.2.2.2.2.2.2.2.1
theorem dX11_isFit_110 : decode cX11_isFit 110 = .ok (.iload 6, 2) := dg_cX11_isFit_203.2.2.2.2.2.2.2.2.2.2.2.2.2.2.1
theorem dX11_isFit_112 : decode cX11_isFit 112 = .ok (.ishl, 1) := dg_cX11_isFit_203.2.2.2.2.2.2.2.2.2.2.2.2.2.2.2
set_option maxRecDepth 100000 in
theorem dg_cX11_isFit_204 : (decode cX11_isFit 113 = .ok (.ior, 1)) ∧ (decode cX11_isFit 114 = .ok (.istore_n 2, 1)) ∧ (decode cX11_isFit 115 = .ok (.iload 5, 2)) ∧ (decode cX11_isFit 117 = .ok (.bipush (-4), 2)) ∧ (decode cX11_isFit 119 = .ok (.if_icmp .eq 15, 3)) ∧ (decode cX11_isFit 122 = .ok (.iload 5, 2)) ∧ (decode cX11_isFit 124 = .ok (.aload_n 0, 1)) ∧ (decode cX11_isFit 125 = .ok (.iload_n 1, 1)) ∧ (decode cX11_isFit 126 = .ok (.iload 4, 2)) ∧ (decode cX11_isFit 128 = .ok (.invokevirtual 183, 3)) ∧ (decode cX11_isFit 131 = .ok (.if_icmp .ne 7, 3)) ∧ (decode cX11_isFit 134 = .ok (.iconst 1, 1)) ∧ (decode cX11_isFit 135 = .ok (.goto 4, 3)) ∧ (decode cX11_isFit 138 = .ok (.iconst 0, 1)) ∧ (decode cX11_isFit 139 = .ok (.istore_n 3, 1)) ∧ (decode cX11_isFit 140 = .ok (.iinc 4 1, 3)) := by decide +kernel
theorem dX11_isFit_113 : decode cX11_isFit 113 = .ok (.ior, 1) := dg_cX11_isFit_204.1
theorem dX11_isFit_114 : decode cX11_isFit 114 = .ok (.istore_n 2, 1) := dg_cX11_isFit_204.2.1
theorem dX11_isFit_115 : decode cX11_isFit 115 = .ok (.iload 5, 2) := dg_cX11_isFit_204.2.2.1
theorem dX11_isFit_117 : decode cX11_isFit 117 = .ok (.bipush (-4), 2) := dg_cX11_isFit_204.2.2.2.1
theorem dX11_isFit_119 : decode cX11_isFit 119 = .ok (.if_icmp .eq 15, 3) := dg_cX11_isFit_204.2.2.2.2.1
theorem dX11_isFit_122 : decode cX11_isFit 122 = .ok (.iload 5, 2) := dg_cX11_isFit_204.2.2.2.2.2.1
theorem dX11_isFit_124 : decode cX11_isFit 124 = .ok (.aload_n 0, 1) := dg_cX11_isFit_204.2.2.2.2.2.2.1
theorem dX11_isFit_125 : decode cX11_isFit 125 = .ok (.iload_n 1, 1) := dg_cX11_isFit_204.2.2.2.2.2.2.2.1
theorem dX11_isFit_126 : decode cX11_isFit 126 = .ok (.iload 4, 2) := dg_cX11_isFit_204.2.2.2.2.2.2.2.2.1
theorem dX11_isFit_128 : decode cX11_isFit 128 = .ok (.invokevirtual 183, 3) := dg_cX11_isFit_204.2.2.2.2.2.2.2.2.2.1
theorem dX11_isFit_131 : decode cX11_isFit 131 = .ok (.if_icmp .ne 7, 3) := dg_cX11_isFit_204.2.2.2.2.2.2.2.2.2.2.1
theorem dX11_isFit_134 : decode cX11_isFit 134 = .ok (.iconst 1, 1) := dg_cX11_isFit_204.2.2.2.2.2.2.2.2.2.2.2.1
theorem dX11_isFit_135 : decode cX11_isFit 135 = .ok (.goto 4, 3) := dg_cX11_isFit_204.2.2.2.2.2.2.2.2.2.2.2.2.1
theorem dX11_isFit_138 : decode cX11_isFit 138 = .ok (.iconst 0, 1) := dg_cX11_isFit_204.2.2.2.2.2.2.2.2.2.2.2.2.2.1
theorem dX11_isFit_139 : decode cX11_isFit 139 = .ok (.istore_n 3, 1) := dg_cX11_isFit_204.2.2.2.2.2.2.2.2.2.2.2.2.2.2.1
theorem dX11_isFit_140 : decode cX11_isFit 140 = .ok (.iinc 4 1, 3) := dg_cX11_isFit_204.2.2.2.2.2.2.2.2.2.2.2.2.2.2.2
set_option maxRecDepth 100000 in
theorem dg_cX11_isFit_205 : (decode cX11_isFit 143 = .ok (.goto (-112), 3)) ∧ (decode cX11_isFit 146 = .ok (.iload_n 3, 1)) ∧ (decode cX11_isFit 147 = .ok (.ifCond .eq 16, 3)) ∧ (decode cX11_isFit 150 = .ok (.iload_n 2, 1)) ∧ (decode cX11_isFit 151 = .ok (.aload_n 0, 1)) ∧ (decode cX11_isFit 152 = .ok (.getfield 297, 3)) ∧ (decode cX11_isFit 155 = .ok (.iand, 1)) ∧ (decode cX11_isFit 156 = .ok (.ifCond .ne 7, 3)) ∧ (decode cX11_isFit 159 = .ok (.iconst 1, 1)) ∧ (decode cX11_isFit 160 = .ok (.goto 4, 3)) ∧ (decode cX11_isFit 163 = .ok (.iconst 0, 1)) ∧ (decode cX11_isFit 164 = .ok (.ireturn, 1)) := by decide +kernel
theorem dX11_isFit_143 : decode cX11_isFit 143 = .ok (.goto (-112), 3) := dg_cX11_isFit_205.1
theorem dX11_isFit_146 : decode cX11_isFit 146 = .ok (.iload_n 3, 1) := dg_cX11_isFit_205.2.1
theorem dX11_isFit_147 : decode cX11_isFit 147 = .ok (.ifCond .eq 16, 3) := dg_cX11_isFit_205.2.2.1
theorem dX11_isFit_150 : decode cX11_isFit 150 = .ok (.iload_n 2, 1) := dg_cX11_isFit_205.2.2.2.1
theorem dX11_isFit_151 : decode cX11_isFit 151 = .ok (.aload_n 0, 1) := dg_cX11_isFit_205.2.2.2.2.1
theorem dX11_isFit_152 : decode cX11_isFit 152 = .ok (.getfield 297, 3) := dg_cX11_isFit_205.2.2.2.2.2.1
theorem dX11_isFit_155 : decode cX11_isFit 155 = .ok (.iand, 1) := dg_cX11_isFit_205.2.2.2.2.2.2.1
theorem dX11_isFit_156 : decode cX11_isFit 156 = .ok (.ifCond .ne 7, 3) := dg_cX11_isFit_205.2.2.2.2.2.2.2.1
theorem dX11_isFit_159 : decode cX11_isFit 159 = .ok (.iconst 1, 1) := dg_cX11_isFit_205.2.2.2.2.2.2.2.2.1
theorem dX11_isFit_160 : decode cX11_isFit 160 = .ok (.goto 4, 3) := dg_cX11_isFit_205.2.2.2.2.2.2.2.2.2.1
theorem dX11_isFit_163 : decode cX11_isFit 163 = .ok (.iconst 0, 1) := dg_cX11_isFit_205.2.2.2.2.2.2.2.2.2.2.1
theorem dX11_isFit_164 : decode cX11_isFit 164 = .ok (.ireturn, 1) := dg_cX11_isFit_205.2.2.2.2.2.2.2.2.2.2.2
set_option maxRecDepth 100000 in
theorem dg_cX11_fits_206 : (decode cX11_fits 0 = .ok (.aload_n 0, 1)) ∧ (decode cX11_fits 1 = .ok (.iload_n 1, 1)) ∧ (decode cX11_fits 2 = .ok (.invokevirtual 175, 3)) ∧ (decode cX11_fits 5 = .ok (.ifCond .ne 5, 3)) ∧ (decode cX11_fits 8 = .ok (.iconst (-1), 1)) ∧ (decode cX11_fits 9 = .ok (.ireturn, 1)) ∧ (decode cX11_fits 10 = .ok (.aload_n 0, 1)) ∧ (decode cX11_fits 11 = .ok (.getfield 7, 3)) ∧ (decode cX11_fits 14 = .ok (.bipush 66, 2)) ∧ (decode cX11_fits 16 = .ok (.iaload, 1)) ∧ (decode cX11_fits 17 = .ok (.ifCond .ne 8, 3)) ∧ (decode cX11_fits 20 = .ok (.bipush (-2), 2)) ∧ (decode cX11_fits 22 = .ok (.goto 11, 3)) ∧ (decode cX11_fits 25 = .ok (.aload_n 0, 1)) ∧ (decode cX11_fits 26 = .ok (.iload_n 1, 1)) ∧ (decode cX11_fits 27 = .ok (.invokevirtual 300, 3)) := by decide +kernel
theorem dX11_fits_0 : decode cX11_fits 0 = .ok (.aload_n 0, 1) := dg_cX11_fits_206.1
theorem dX11_fits_1 : decode cX11_fits 1 = .ok (.iload_n 1, 1) := dg_cX11_fits_206.2.1
theorem dX11_fits_2 : decode cX11_fits 2 = .ok (.invokevirtual 175, 3) := dg_cX11_fits_206.2.2.1
theorem dX11_fits_5 : decode cX11_fits 5 = .ok (.ifCond .ne 5, 3) := dg_cX11_fits_206.2.2.2.1
theorem dX11_fits_8 : decode cX11_fits 8 = .ok (.iconst (-1), 1) := dg_cX11_fits_206.2.2.2.2.1
theorem dX11_fits_9 : decode cX11_fits 9 = .ok (.ireturn, 1) := dg_cX11_fits_206.2.2.2.2.2.1
theorem dX11_fits_10 : decode cX11_fits 10 = .ok (.aload_n 0, 1) := dg_cX11_fits_206.2.2.2.2.2.2.1
theorem dX11_fits_11 : decode cX11_fits 11 = .ok (.getfield 7, 3) := dg_cX11_fits_206.2.2.2.2.2.2.2.1
theorem dX11_fits_14 : decode cX11_fits 14 = .ok (.bipush 66, 2) := dg_cX11_fits_206.2.2.2.2.2.2.2.2.1
theorem dX11_fits_16 : decode cX11_fits 16 = .ok (.iaload, 1) := dg_cX11_fits_206.2.2.2.2.2.2.2.2.2.1
theorem dX11_fits_17 : decode cX11_fits 17 = .ok (.ifCond .ne 8, 3) := dg_cX11_fits_206.2.2.2.2.2.2.2.2.2.2.1
theorem dX11_fits_20 : decode cX11_fits 20 = .ok (.bipush (-2), 2) := dg_cX11_fits_206.2.2.2.2.2.2.2.2.2.2.2.1
theorem dX11_fits_22 : decode cX11_fits 22 = .ok (.goto 11, 3) := dg_cX11_fits_206.2.2.2.2.2.2.2.2.2.2.2.2.1
theorem dX11_fits_25 : decode cX11_fits 25 = .ok (.aload_n 0, 1) := dg_cX11_fits_206.2.2.2.2.2.2.2.2.2.2.2.2.2.1
theorem dX11_fits_26 : decode cX11_fits 26 = .ok (.iload_n 1, 1) := dg_cX11_fits_206.2.2.2.2.2.2.2.2.2.2.2.2.2.2.1
theorem dX11_fits_27 : decode cX11_fits 27 = .ok (.invokevirtual 300, 3) := dg_cX11_fits_206.2.2.2.2.2.2.2.2.2.2.2.2.2.2.2
set_option maxRecDepth 100000 in
theorem dg_cX11_fits_207 : (decode cX11_fits 30 = .ok (.invokestatic 191, 3)) ∧ (decode cX11_fits 33 = .ok (.ireturn, 1)) := by decide +kernel
theorem dX11_fits_30 : decode cX11_fits 30 = .ok (.invokestatic 191, 3) := dg_cX11_fits_207.1
theorem dX11_fits_33 : decode cX11_fits 33 = .ok (.ireturn, 1) := dg_cX11_fits_207.2
set_option maxRecDepth 100000 in
theorem dg_cX11_which_208 : (decode cX11_which 0 = .ok (.iload_n 1, 1)) ∧ (decode cX11_which 1 = .ok (.i2l, 1)) ∧ (decode cX11_which 2 = .ok (.lconst 0, 1)) ∧ (decode cX11_which 3 = .ok (.ldc2_w 303, 3)) ∧ (decode cX11_which 6 = .ok (.invokestatic 92, 3)) ∧ (decode cX11_which 9 = .ok (.ifCond .ne 5, 3)) ∧ (decode cX11_which 12 = .ok (.iconst (-1), 1)) ∧ (decode cX11_which 13 = .ok (.ireturn, 1)) ∧ (decode cX11_which 14 = .ok (.aload_n 0, 1)) ∧ (decode cX11_which 15 = .ok (.getfield 7, 3)) ∧ (decode cX11_which 18 = .ok (.bipush 66, 2)) ∧ (decode cX11_which 20 = .ok (.iaload, 1)) ∧ (decode cX11_which 21 = .ok (.ifCond .ne 6, 3)) ∧ (decode cX11_which 24 = .ok (.bipush (-2), 2)) ∧ (decode cX11_which 26 = .ok (.ireturn, 1)) ∧ (decode cX11_which 27 = .ok (.iconst 0, 1)) := by decide +kernel
theorem dX11_which_0 : decode cX11_which 0 = .ok (.iload_n 1, 1) := dg_cX11_which_208.1
theorem dX11_which_1 : decode cX11_which 1 = .ok (.i2l, 1) := dg_cX11_which_208.2.1
theorem dX11_which_2 : decode cX11_which 2 = .ok (.lconst 0, 1) := dg_cX11_which_208.2.2.1
theorem dX11_which_3 : decode cX11_which 3 = .ok (.ldc2_w 303, 3) := dg_cX11_which_208.2.2.2.1
theorem dX11_which_6 : decode cX11_which 6 = .ok (.invokestatic 92, 3) := dg_cX11_which_208.2.2.2.2.1
theorem dX11_which_9 : decode cX11_which 9 = .ok (.ifCond .ne 5, 3) := dg_cX11_which_208.2.2.2.2.2.1
theorem dX11_which_12 : decode cX11_which 12 = .ok (.iconst (-1), 1) := dg_cX11_which_208.2.2.2.2.2.2.1
theorem dX11_which_13 : decode cX11_which 13 = .ok (.ireturn, 1) := dg_cX11_which_208.2.2.2.2.2.2.2.1
theorem dX11_which_14 : decode cX11_which 14 = .ok (.aload_n 0, 1) := dg_cX11_which_208.2.2.2.2.2.2.2.2.1
theorem dX11_which_15 : decode cX11_which 15 = .ok (.getfield 7, 3) := dg_cX11_which_208.2.2.2.2.2.2.2.2.2.1
theorem dX11_which_18 : decode cX11_which 18 = .ok (.bipush 66, 2) := dg_cX11_which_208.2.2.2.2.2.2.2.2.2.2.1
theorem dX11_which_20 : decode cX11_which 20 = .ok (.iaload, 1) := dg_cX11_which_208.2.2.2.2.2.2.2.2.2.2.2.1
theorem dX11_which_21 : decode cX11_which 21 = .ok (.ifCond .ne 6, 3) := dg_cX11_which_208.2.2.2.2.2.2.2.2.2.2.2.2.1
theorem dX11_which_24 : decode cX11_which 24 = .ok (.bipush (-2), 2) := dg_cX11_which_208.2.2.2.2.2.2.2.2.2.2.2.2.2.1
theorem dX11_which_26 : decode cX11_which 26 = .ok (.ireturn, 1) := dg_cX11_which_208.2.2.2.2.2.2.2.2.2.2.2.2.2.2.1
theorem dX11_which_27 : decode cX11_which 27 = .ok (.iconst 0, 1) := dg_cX11_which_208.2.2.2.2.2.2.2.2.2.2.2.2.2.2.2
set_option maxRecDepth 100000 in
theorem dg_cX11_which_209 : (decode cX11_which 28 = .ok (.istore_n 2, 1)) ∧ (decode cX11_which 29 = .ok (.bipush (-4), 2)) ∧ (decode cX11_which 31 = .ok (.istore_n 3, 1)) ∧ (decode cX11_which 32 = .ok (.bipush (-4), 2)) ∧ (decode cX11_which 34 = .ok (.istore 4, 2)) ∧ (decode cX11_which 36 = .ok (.bipush 63, 2)) ∧ (decode cX11_which 38 = .ok (.istore 5, 2)) ∧ (decode cX11_which 40 = .ok (.iconst 0, 1)) ∧ (decode cX11_which 41 = .ok (.istore 6, 2)) ∧ (decode cX11_which 43 = .ok (.iload 6, 2)) ∧ (decode cX11_which 45 = .ok (.aload_n 0, 1)) ∧ (decode cX11_which 46 = .ok (.getfield 84, 3)) ∧ (decode cX11_which 49 = .ok (.if_icmp .ge 56, 3)) ∧ (decode cX11_which 52 = .ok (.aload_n 0, 1)) ∧ (decode cX11_which 53 = .ok (.iload 6, 2)) ∧ (decode cX11_which 55 = .ok (.invokevirtual 300, 3)) := by decide +kernel
theorem dX11_which_28 : decode cX11_which 28 = .ok (.istore_n 2, 1) := dg_cX11_which_209.1
theorem dX11_which_29 : decode cX11_which 29 = .ok (.bipush (-4), 2) := dg_cX11_which_209.2.1
theorem dX11_which_31 : decode cX11_which 31 = .ok (.istore_n 3, 1) := dg_cX11_which_209.2.2.1
theorem dX11_which_32 : decode cX11_which 32 = .ok (.bipush (-4), 2) := dg_cX11_which_209.2.2.2.1
theorem dX11_which_34 : decode cX11_which 34 = .ok (.istore 4, 2) := dg_cX11_which_209.2.2.2.2.1
theorem dX11_which_36 : decode cX11_which 36 = .ok (.bipush 63, 2) := dg_cX11_which_209.2.2.2.2.2.1
theorem dX11_which_38 : decode cX11_which 38 = .ok (.istore 5, 2) := dg_cX11_which_209.2.2.2.2.2.2.1
theorem dX11_which_40 : decode cX11_which 40 = .ok (.iconst 0, 1) := dg_cX11_which_209.2.2.2.2.2.2.2.1
theorem dX11_which_41 : decode cX11_which 41 = .ok (.istore 6, 2) := dg_cX11_which_209.2.2.2.2.2.2.2.2.1
theorem dX11_which_43 : decode cX11_which 43 = .ok (.iload 6, 2) := dg_cX11_which_209.2.2.2.2.2.2.2.2.2.1
theorem dX11_which_45 : decode cX11_which 45 = .ok (.aload_n 0, 1) := dg_cX11_which_209.2.2.2.2.2.2.2.2.2.2.1
theorem dX11_which_46 : decode cX11_which 46 = .ok (.getfield 84, 3) := dg_cX11_which_209.2.2.2.2.2.2.2.2.2.2.2.1
theorem dX11_which_49 : decode cX11_which 49 = .ok (.if_icmp .ge 56, 3) := dg_cX11_which_209.2.2.2.2.2.2.2.2.2.2.2.2.1
theorem dX11_which_52 : decode cX11_which 52 = .ok (.aload_n 0, 1) := dg_cX11_which_209.2.2.2.2.2.2.2.2.2.2.2.2.2.1
theorem dX11_which_53 : decode cX11_which 53 = .ok (.iload 6, 2) := dg_cX11_which_209.2.2.2.2.2.2.2.2.2.2.2.2.2.2.1
theorem dX11_which_55 : decode cX11_which 55 = .ok (.invokevirtual 300, 3) := dg_cX11_which_209.2.2.2.2.2.2.2.2.2.2.2.2.2.2.2
set_option maxRecDepth 100000 in
theorem dg_cX11_which_210 : (decode cX11_which 58 = .ok (.ifCond .eq 41, 3)) ∧ (decode cX11_which 61 = .ok (.iload_n 2, 1)) ∧ (decode cX11_which 62 = .ok (.ifCond .ne 8, 3)) ∧ (decode cX11_which 65 = .ok (.iload 6, 2)) ∧ (decode cX11_which 67 = .ok (.goto 4, 3)) ∧ (decode cX11_which 70 = .ok (.iload_n 3, 1)) ∧ (decode cX11_which 71 = .ok (.istore_n 3, 1)) ∧ (decode cX11_which 72 = .ok (.iload_n 2, 1)) ∧ (decode cX11_which 73 = .ok (.ifCond .ne 10, 3)) ∧ (decode cX11_which 76 = .ok (.aload_n 0, 1)) ∧ (decode cX11_which 77 = .ok (.getfield 297, 3)) ∧ (decode cX11_which 80 = .ok (.goto 5, 3)) ∧ (decode cX11_which 83 = .ok (.iload 4, 2)) ∧ (decode cX11_which 85 = .ok (.istore 4, 2)) ∧ (decode cX11_which 87 = .ok (.iload 5, 2)) ∧ (decode cX11_which 89 = .ok (.aload_n 0, 1)) := by decide +kernel
theorem dX11_which_58 : decode cX11_which 58 = .ok (.ifCond .eq 41, 3) := dg_cX11_which_210.1
theorem dX11_which_61 : decode cX11_which 61 = .ok (.iload_n 2, 1) := dg_cX11_which_210.2.1
theorem dX11_which_62 : decode cX11_which 62 = .ok (.ifCond .ne 8, 3) := dg_cX11_which_210.2.2.1
theorem dX11_which_65 : decode cX11_which 65 = .ok (.iload 6, 2) := dg_cX11_which_210.2.2.2.1
theorem dX11_which_67 : decode cX11_which 67 = .ok (.goto 4, 3) := dg_cX11_which_210.2.2.2.2.1
theorem dX11_which_70 : decode cX11_which 70 = .ok (.iload_n 3, 1) := dg_cX11_which_210.2.2.2.2.2.1
theorem dX11_which_71 : decode cX11_which 71 = .ok (.istore_n 3, 1) := dg_cX11_which_210.2.2.2.2.2.2.1
theorem dX11_which_72 : decode cX11_which 72 = .ok (.iload_n 2, 1) := dg_cX11_which_210.2.2.2.2.2.2.2.1
theorem dX11_which_73 : decode cX11_which 73 = .ok (.ifCond .ne 10, 3) := dg_cX11_which_210.2.2.2.2.2.2.2.2.1
theorem dX11_which_76 : decode cX11_which 76 = .ok (.aload_n 0, 1) := dg_cX11_which_210.2.2.2.2.2.2.2.2.2.1
theorem dX11_which_77 : decode cX11_which 77 = .ok (.getfield 297, 3) := dg_cX11_which_210.2.2.2.2.2.2.2.2.2.2.1
theorem dX11_which_80 : decode cX11_which 80 = .ok (.goto 5, 3) := dg_cX11_which_210.2.2.2.2.2.2.2.2.2.2.2.1
theorem dX11_which_83 : decode cX11_which 83 = .ok (.iload 4, 2) := dg_cX11_which_210.2.2.2.2.2.2.2.2.2.2.2.2.1
theorem dX11_which_85 : decode cX11_which 85 = .ok (.istore 4, 2) := dg_cX11_which_210.2.2.2.2.2.2.2.2.2.2.2.2.2.1
theorem dX11_which_87 : decode cX11_which 87 = .ok (.iload 5, 2) := dg_cX11_which_210.2.2.2.2.2.2.2.2.2.2.2.2.2.2.1
theorem dX11_which_89 : decode cX11_which 89 = .ok (.aload_n 0, 1) := dg_cX11_which_210.2.2.2.2.2.2.2.2.2.2.2.2.2.2.2
set_option maxRecDepth 100000 in
theorem dg_cX11_which_211 : (decode cX11_which 90 = .ok (.getfield 297, 3)) ∧ (decode cX11_which 93 = .ok (.iand, 1)) ∧ (decode cX11_which 94 = .ok (.istore 5, 2)) ∧ (decode cX11_which 96 = .ok (.iinc 2 1, 3)) ∧ (decode cX11_which 99 = .ok (.iinc 6 1, 3)) ∧ (decode cX11_which 102 = .ok (.goto (-59), 3)) ∧ (decode cX11_which 105 = .ok (.iload_n 1, 1)) ∧ (decode cX11_which 106 = .ok (.ifCond .ne 7, 3)) ∧ (decode cX11_which 109 = .ok (.iload_n 2, 1)) ∧ (decode cX11_which 110 = .ok (.goto 33, 3)) ∧ (decode cX11_which 113 = .ok (.iload_n 2, 1)) ∧ (decode cX11_which 114 = .ok (.ifCond .ne 8, 3)) ∧ (decode cX11_which 117 = .ok (.bipush (-4), 2)) ∧ (decode cX11_which 119 = .ok (.goto 24, 3)) ∧ (decode cX11_which 122 = .ok (.iload_n 1, 1)) ∧ (decode cX11_which 123 = .ok (.iconst 1, 1)) := by decide +kernel
theorem dX11_which_90 : decode cX11_which 90 = .ok (.getfield 297, 3) := dg_cX11_which_211.1
theorem dX11_which_93 : decode cX11_which 93 = .ok (.iand, 1) := dg_cX11_which_211.2.1
theorem dX11_which_94 : decode cX11_which 94 = .ok (.istore 5, 2) := dg_cX11_which_211.2.2.1
theorem dX11_which_96 : decode cX11_which 96 = .ok (.iinc 2 1, 3) := dg_cX11_which_211.2.2.2.1
theorem dX11_which_99 : decode cX11_which 99 = .ok (.iinc 6 1, 3) := dg_cX11_which_211.2.2.2.2.1
theorem dX11_which_102 : decode cX11_which 102 = .ok (.goto (-59), 3) := dg_cX11_which_211.2.2.2.2.2.1
theorem dX11_which_105 : decode cX11_which 105 = .ok (.iload_n 1, 1) := dg_cX11_which_211.2.2.2.2.2.2.1
theorem dX11_which_106 : decode cX11_which 106 = .ok (.ifCond .ne 7, 3) := dg_cX11_which_211.2.2.2.2.2.2.2.1
theorem dX11_which_109 : decode cX11_which 109 = .ok (.iload_n 2, 1) := dg_cX11_which_211.2.2.2.2.2.2.2.2.1
theorem dX11_which_110 : decode cX11_which 110 = .ok (.goto 33, 3) := dg_cX11_which_211.2.2.2.2.2.2.2.2.2.1
theorem dX11_which_113 : decode cX11_which 113 = .ok (.iload_n 2, 1) := dg_cX11_which_211.2.2.2.2.2.2.2.2.2.2.1
theorem dX11_which_114 : decode cX11_which 114 = .ok (.ifCond .ne 8, 3) := dg_cX11_which_211.2.2.2.2.2.2.2.2.2.2.2.1
theorem dX11_which_117 : decode cX11_which 117 = .ok (.bipush (-4), 2) := dg_cX11_which_211.2.2.2.2.2.2.2.2.2.2.2.2.1
theorem dX11_which_119 : decode cX11_which 119 = .ok (.goto 24, 3) := dg_cX11_which_211.2.2.2.2.2.2.2.2.2.2.2.2.2.1
theorem dX11_which_122 : decode cX11_which 122 = .ok (.iload_n 1, 1) := dg_cX11_which_211.2.2.2.2.2.2.2.2.2.2.2.2.2.2.1
theorem dX11_which_123 : decode cX11_which 123 = .ok (.iconst 1, 1) := dg_cX11_which_211.2.2.2.2.2.2.2.2.2.2.2.2.2.2.2
set_option maxRecDepth 100000 in
theorem dg_cX11_which_212 : (decode cX11_which 124 = .ok (.if_icmp .ne 7, 3)) ∧ (decode cX11_which 127 = .ok (.iload_n 3, 1)) ∧ (decode cX11_which 128 = .ok (.goto 15, 3)) ∧ (decode cX11_which 131 = .ok (.iload_n 1, 1)) ∧ (decode cX11_which 132 = .ok (.iconst 2, 1)) ∧ (decode cX11_which 133 = .ok (.if_icmp .ne 8, 3)) ∧ (decode cX11_which 136 = .ok (.iload 4, 2)) ∧ (decode cX11_which 138 = .ok (.goto 5, 3)) ∧ (decode cX11_which 141 = .ok (.iload 5, 2)) ∧ (decode cX11_which 143 = .ok (.ireturn, 1)) := by decide +kernel
theorem dX11_which_124 : decode cX11_which 124 = .ok (.if_icmp .ne 7, 3) := dg_cX11_which_212.1
theorem dX11_which_127 : decode cX11_which 127 = .ok (.iload_n 3, 1) := dg_cX11_which_212.2.1
theorem dX11_which_128 : decode cX11_which 128 = .ok (.goto 15, 3) := dg_cX11_which_212.2.2.1
theorem dX11_which_131 : decode cX11_which 131 = .ok (.iload_n 1, 1) := dg_cX11_which_212.2.2.2.1
theorem dX11_which_132 : decode cX11_which 132 = .ok (.iconst 2, 1) := dg_cX11_which_212.2.2.2.2.1
theorem dX11_which_133 : decode cX11_which 133 = .ok (.if_icmp .ne 8, 3) := dg_cX11_which_212.2.2.2.2.2.1
theorem dX11_which_136 : decode cX11_which 136 = .ok (.iload 4, 2) := dg_cX11_which_212.2.2.2.2.2.2.1
theorem dX11_which_138 : decode cX11_which 138 = .ok (.goto 5, 3) := dg_cX11_which_212.2.2.2.2.2.2.2.1
theorem dX11_which_141 : decode cX11_which 141 = .ok (.iload 5, 2) := dg_cX11_which_212.2.2.2.2.2.2.2.2.1
theorem dX11_which_143 : decode cX11_which 143 = .ok (.ireturn, 1) := dg_cX11_which_212.2.2.2.2.2.2.2.2.2
set_option maxRecDepth 100000 in
theorem dg_cX11_copies_213 : (decode cX11_copies 0 = .ok (.iconst 0, 1)) ∧ (decode cX11_copies 1 = .ok (.istore_n 3, 1)) ∧ (decode cX11_copies 2 = .ok (.iload_n 3, 1)) ∧ (decode cX11_copies 3 = .ok (.bipush 80, 2)) ∧ (decode cX11_copies 5 = .ok (.if_icmp .ge 25, 3)) ∧ (decode cX11_copies 8 = .ok (.aload_n 0, 1)) ∧ (decode cX11_copies 9 = .ok (.getfield 7, 3)) ∧ (decode cX11_copies 12 = .ok (.iload_n 1, 1)) ∧ (decode cX11_copies 13 = .ok (.iload_n 3, 1)) ∧ (decode cX11_copies 14 = .ok (.iadd, 1)) ∧ (decode cX11_copies 15 = .ok (.aload_n 0, 1)) ∧ (decode cX11_copies 16 = .ok (.getfield 7, 3)) ∧ (decode cX11_copies 19 = .ok (.iload_n 2, 1)) ∧ (decode cX11_copies 20 = .ok (.iload_n 3, 1)) ∧ (decode cX11_copies 21 = .ok (.iadd, 1)) ∧ (decode cX11_copies 22 = .ok (.iaload, 1)) := by decide +kernel
theorem dX11_copies_0 : decode cX11_copies 0 = .ok (.iconst 0, 1) := dg_cX11_copies_213.1
theorem dX11_copies_1 : decode cX11_copies 1 = .ok (.istore_n 3, 1) := dg_cX11_copies_213.2.1
theorem dX11_copies_2 : decode cX11_copies 2 = .ok (.iload_n 3, 1) := dg_cX11_copies_213.2.2.1
theorem dX11_copies_3 : decode cX11_copies 3 = .ok (.bipush 80, 2) := dg_cX11_copies_213.2.2.2.1
theorem dX11_copies_5 : decode cX11_copies 5 = .ok (.if_icmp .ge 25, 3) := dg_cX11_copies_213.2.2.2.2.1
theorem dX11_copies_8 : decode cX11_copies 8 = .ok (.aload_n 0, 1) := dg_cX11_copies_213.2.2.2.2.2.1
theorem dX11_copies_9 : decode cX11_copies 9 = .ok (.getfield 7, 3) := dg_cX11_copies_213.2.2.2.2.2.2.1
theorem dX11_copies_12 : decode cX11_copies 12 = .ok (.iload_n 1, 1) := dg_cX11_copies_213.2.2.2.2.2.2.2.1
theorem dX11_copies_13 : decode cX11_copies 13 = .ok (.iload_n 3, 1) := dg_cX11_copies_213.2.2.2.2.2.2.2.2.1
theorem dX11_copies_14 : decode cX11_copies 14 = .ok (.iadd, 1) := dg_cX11_copies_213.2.2.2.2.2.2.2.2.2.1
theorem dX11_copies_15 : decode cX11_copies 15 = .ok (.aload_n 0, 1) := dg_cX11_copies_213.2.2.2.2.2.2.2.2.2.2.1
theorem dX11_copies_16 : decode cX11_copies 16 = .ok (.getfield 7, 3) := dg_cX11_copies_213.2.2.2.2.2.2.2.2.2.2.2.1
theorem dX11_copies_19 : decode cX11_copies 19 = .ok (.iload_n 2, 1) := dg_cX11_copies_213.2.2.2.2.2.2.2.2.2.2.2.2.1
theorem dX11_copies_20 : decode cX11_copies 20 = .ok (.iload_n 3, 1) := dg_cX11_copies_213.2.2.2.2.2.2.2.2.2.2.2.2.2.1
theorem dX11_copies_21 : decode cX11_copies 21 = .ok (.iadd, 1) := dg_cX11_copies_213.2.2.2.2.2.2.2.2.2.2.2.2.2.2.1
theorem dX11_copies_22 : decode cX11_copies 22 = .ok (.iaload, 1) := dg_cX11_copies_213.2.2.2.2.2.2.2.2.2.2.2.2.2.2.2
set_option maxRecDepth 100000 in
theorem dg_cX11_copies_214 : (decode cX11_copies 23 = .ok (.iastore, 1)) ∧ (decode cX11_copies 24 = .ok (.iinc 3 1, 3)) ∧ (decode cX11_copies 27 = .ok (.goto (-25), 3)) ∧ (decode cX11_copies 30 = .ok (.return_, 1)) := by decide +kernel
theorem dX11_copies_23 : decode cX11_copies 23 = .ok (.iastore, 1) := dg_cX11_copies_214.1
theorem dX11_copies_24 : decode cX11_copies 24 = .ok (.iinc 3 1, 3) := dg_cX11_copies_214.2.1
theorem dX11_copies_27 : decode cX11_copies 27 = .ok (.goto (-25), 3) := dg_cX11_copies_214.2.2.1
theorem dX11_copies_30 : decode cX11_copies 30 = .ok (.return_, 1) := dg_cX11_copies_214.2.2.2
set_option maxRecDepth 100000 in
theorem dg_cX11_keep_215 : (decode cX11_keep 0 = .ok (.iload_n 1, 1)) ∧ (decode cX11_keep 1 = .ok (.i2l, 1)) ∧ (decode cX11_keep 2 = .ok (.lconst 0, 1)) ∧ (decode cX11_keep 3 = .ok (.lconst 1, 1)) ∧ (decode cX11_keep 4 = .ok (.invokestatic 92, 3)) ∧ (decode cX11_keep 7 = .ok (.ifCond .ne 5, 3)) ∧ (decode cX11_keep 10 = .ok (.iconst (-1), 1)) ∧ (decode cX11_keep 11 = .ok (.ireturn, 1)) ∧ (decode cX11_keep 12 = .ok (.aload_n 0, 1)) ∧ (decode cX11_keep 13 = .ok (.getfield 13, 3)) ∧ (decode cX11_keep 16 = .ok (.iload_n 1, 1)) ∧ (decode cX11_keep 17 = .ok (.baload, 1)) ∧ (decode cX11_keep 18 = .ok (.invokestatic 191, 3)) ∧ (decode cX11_keep 21 = .ok (.istore_n 2, 1)) ∧ (decode cX11_keep 22 = .ok (.aload_n 0, 1)) ∧ (decode cX11_keep 23 = .ok (.getfield 13, 3)) := by decide +kernel
theorem dX11_keep_0 : decode cX11_keep 0 = .ok (.iload_n 1, 1) := dg_cX11_keep_215.1
theorem dX11_keep_1 : decode cX11_keep 1 = .ok (.i2l, 1) := dg_cX11_keep_215.2.1
theorem dX11_keep_2 : decode cX11_keep 2 = .ok (.lconst 0, 1) := dg_cX11_keep_215.2.2.1
theorem dX11_keep_3 : decode cX11_keep 3 = .ok (.lconst 1, 1) := dg_cX11_keep_215.2.2.2.1
theorem dX11_keep_4 : decode cX11_keep 4 = .ok (.invokestatic 92, 3) := dg_cX11_keep_215.2.2.2.2.1
theorem dX11_keep_7 : decode cX11_keep 7 = .ok (.ifCond .ne 5, 3) := dg_cX11_keep_215.2.2.2.2.2.1
theorem dX11_keep_10 : decode cX11_keep 10 = .ok (.iconst (-1), 1) := dg_cX11_keep_215.2.2.2.2.2.2.1
theorem dX11_keep_11 : decode cX11_keep 11 = .ok (.ireturn, 1) := dg_cX11_keep_215.2.2.2.2.2.2.2.1
theorem dX11_keep_12 : decode cX11_keep 12 = .ok (.aload_n 0, 1) := dg_cX11_keep_215.2.2.2.2.2.2.2.2.1
theorem dX11_keep_13 : decode cX11_keep 13 = .ok (.getfield 13, 3) := dg_cX11_keep_215.2.2.2.2.2.2.2.2.2.1
theorem dX11_keep_16 : decode cX11_keep 16 = .ok (.iload_n 1, 1) := dg_cX11_keep_215.2.2.2.2.2.2.2.2.2.2.1
theorem dX11_keep_17 : decode cX11_keep 17 = .ok (.baload, 1) := dg_cX11_keep_215.2.2.2.2.2.2.2.2.2.2.2.1
theorem dX11_keep_18 : decode cX11_keep 18 = .ok (.invokestatic 191, 3) := dg_cX11_keep_215.2.2.2.2.2.2.2.2.2.2.2.2.1
theorem dX11_keep_21 : decode cX11_keep 21 = .ok (.istore_n 2, 1) := dg_cX11_keep_215.2.2.2.2.2.2.2.2.2.2.2.2.2.1
theorem dX11_keep_22 : decode cX11_keep 22 = .ok (.aload_n 0, 1) := dg_cX11_keep_215.2.2.2.2.2.2.2.2.2.2.2.2.2.2.1
theorem dX11_keep_23 : decode cX11_keep 23 = .ok (.getfield 13, 3) := dg_cX11_keep_215.2.2.2.2.2.2.2.2.2.2.2.2.2.2.2
set_option maxRecDepth 100000 in
theorem dg_cX11_keep_216 : (decode cX11_keep 26 = .ok (.iload_n 1, 1)) ∧ (decode cX11_keep 27 = .ok (.iconst 1, 1)) ∧ (decode cX11_keep 28 = .ok (.bastore, 1)) ∧ (decode cX11_keep 29 = .ok (.aload_n 0, 1)) ∧ (decode cX11_keep 30 = .ok (.bipush 80, 2)) ∧ (decode cX11_keep 32 = .ok (.iload_n 1, 1)) ∧ (decode cX11_keep 33 = .ok (.iconst 1, 1)) ∧ (decode cX11_keep 34 = .ok (.iadd, 1)) ∧ (decode cX11_keep 35 = .ok (.imul, 1)) ∧ (decode cX11_keep 36 = .ok (.iconst 0, 1)) ∧ (decode cX11_keep 37 = .ok (.invokevirtual 305, 3)) ∧ (decode cX11_keep 40 = .ok (.iload_n 2, 1)) ∧ (decode cX11_keep 41 = .ok (.ireturn, 1)) := by decide +kernel
theorem dX11_keep_26 : decode cX11_keep 26 = .ok (.iload_n 1, 1) := dg_cX11_keep_216.1
theorem dX11_keep_27 : decode cX11_keep 27 = .ok (.iconst 1, 1) := dg_cX11_keep_216.2.1
theorem dX11_keep_28 : decode cX11_keep 28 = .ok (.bastore, 1) := dg_cX11_keep_216.2.2.1
theorem dX11_keep_29 : decode cX11_keep 29 = .ok (.aload_n 0, 1) := dg_cX11_keep_216.2.2.2.1
theorem dX11_keep_30 : decode cX11_keep 30 = .ok (.bipush 80, 2) := dg_cX11_keep_216.2.2.2.2.1
theorem dX11_keep_32 : decode cX11_keep 32 = .ok (.iload_n 1, 1) := dg_cX11_keep_216.2.2.2.2.2.1
theorem dX11_keep_33 : decode cX11_keep 33 = .ok (.iconst 1, 1) := dg_cX11_keep_216.2.2.2.2.2.2.1
theorem dX11_keep_34 : decode cX11_keep 34 = .ok (.iadd, 1) := dg_cX11_keep_216.2.2.2.2.2.2.2.1
theorem dX11_keep_35 : decode cX11_keep 35 = .ok (.imul, 1) := dg_cX11_keep_216.2.2.2.2.2.2.2.2.1
theorem dX11_keep_36 : decode cX11_keep 36 = .ok (.iconst 0, 1) := dg_cX11_keep_216.2.2.2.2.2.2.2.2.2.1
theorem dX11_keep_37 : decode cX11_keep 37 = .ok (.invokevirtual 305, 3) := dg_cX11_keep_216.2.2.2.2.2.2.2.2.2.2.1
theorem dX11_keep_40 : decode cX11_keep 40 = .ok (.iload_n 2, 1) := dg_cX11_keep_216.2.2.2.2.2.2.2.2.2.2.2.1
theorem dX11_keep_41 : decode cX11_keep 41 = .ok (.ireturn, 1) := dg_cX11_keep_216.2.2.2.2.2.2.2.2.2.2.2.2
set_option maxRecDepth 100000 in
theorem dg_cX11_back_217 : (decode cX11_back 0 = .ok (.iload_n 1, 1)) ∧ (decode cX11_back 1 = .ok (.i2l, 1)) ∧ (decode cX11_back 2 = .ok (.lconst 0, 1)) ∧ (decode cX11_back 3 = .ok (.lconst 1, 1)) ∧ (decode cX11_back 4 = .ok (.invokestatic 92, 3)) ∧ (decode cX11_back 7 = .ok (.ifCond .ne 5, 3)) ∧ (decode cX11_back 10 = .ok (.iconst (-1), 1)) ∧ (decode cX11_back 11 = .ok (.ireturn, 1)) ∧ (decode cX11_back 12 = .ok (.aload_n 0, 1)) ∧ (decode cX11_back 13 = .ok (.getfield 13, 3)) ∧ (decode cX11_back 16 = .ok (.iload_n 1, 1)) ∧ (decode cX11_back 17 = .ok (.baload, 1)) ∧ (decode cX11_back 18 = .ok (.ifCond .ne 6, 3)) ∧ (decode cX11_back 21 = .ok (.bipush (-2), 2)) ∧ (decode cX11_back 23 = .ok (.ireturn, 1)) ∧ (decode cX11_back 24 = .ok (.aload_n 0, 1)) := by decide +kernel
theorem dX11_back_0 : decode cX11_back 0 = .ok (.iload_n 1, 1) := dg_cX11_back_217.1
theorem dX11_back_1 : decode cX11_back 1 = .ok (.i2l, 1) := dg_cX11_back_217.2.1
theorem dX11_back_2 : decode cX11_back 2 = .ok (.lconst 0, 1) := dg_cX11_back_217.2.2.1
theorem dX11_back_3 : decode cX11_back 3 = .ok (.lconst 1, 1) := dg_cX11_back_217.2.2.2.1
theorem dX11_back_4 : decode cX11_back 4 = .ok (.invokestatic 92, 3) := dg_cX11_back_217.2.2.2.2.1
theorem dX11_back_7 : decode cX11_back 7 = .ok (.ifCond .ne 5, 3) := dg_cX11_back_217.2.2.2.2.2.1
theorem dX11_back_10 : decode cX11_back 10 = .ok (.iconst (-1), 1) := dg_cX11_back_217.2.2.2.2.2.2.1
theorem dX11_back_11 : decode cX11_back 11 = .ok (.ireturn, 1) := dg_cX11_back_217.2.2.2.2.2.2.2.1
theorem dX11_back_12 : decode cX11_back 12 = .ok (.aload_n 0, 1) := dg_cX11_back_217.2.2.2.2.2.2.2.2.1
theorem dX11_back_13 : decode cX11_back 13 = .ok (.getfield 13, 3) := dg_cX11_back_217.2.2.2.2.2.2.2.2.2.1
theorem dX11_back_16 : decode cX11_back 16 = .ok (.iload_n 1, 1) := dg_cX11_back_217.2.2.2.2.2.2.2.2.2.2.1
theorem dX11_back_17 : decode cX11_back 17 = .ok (.baload, 1) := dg_cX11_back_217.2.2.2.2.2.2.2.2.2.2.2.1
theorem dX11_back_18 : decode cX11_back 18 = .ok (.ifCond .ne 6, 3) := dg_cX11_back_217.2.2.2.2.2.2.2.2.2.2.2.2.1
theorem dX11_back_21 : decode cX11_back 21 = .ok (.bipush (-2), 2) := dg_cX11_back_217.2.2.2.2.2.2.2.2.2.2.2.2.2.1
theorem dX11_back_23 : decode cX11_back 23 = .ok (.ireturn, 1) := dg_cX11_back_217.2.2.2.2.2.2.2.2.2.2.2.2.2.2.1
theorem dX11_back_24 : decode cX11_back 24 = .ok (.aload_n 0, 1) := dg_cX11_back_217.2.2.2.2.2.2.2.2.2.2.2.2.2.2.2
set_option maxRecDepth 100000 in
theorem dg_cX11_back_218 : (decode cX11_back 25 = .ok (.iconst 0, 1)) ∧ (decode cX11_back 26 = .ok (.bipush 80, 2)) ∧ (decode cX11_back 28 = .ok (.iload_n 1, 1)) ∧ (decode cX11_back 29 = .ok (.iconst 1, 1)) ∧ (decode cX11_back 30 = .ok (.iadd, 1)) ∧ (decode cX11_back 31 = .ok (.imul, 1)) ∧ (decode cX11_back 32 = .ok (.invokevirtual 305, 3)) ∧ (decode cX11_back 35 = .ok (.aload_n 0, 1)) ∧ (decode cX11_back 36 = .ok (.invokevirtual 223, 3)) ∧ (decode cX11_back 39 = .ok (.ireturn, 1)) := by decide +kernel
theorem dX11_back_25 : decode cX11_back 25 = .ok (.iconst 0, 1) := dg_cX11_back_218.1
theorem dX11_back_26 : decode cX11_back 26 = .ok (.bipush 80, 2) := dg_cX11_back_218.2.1
theorem dX11_back_28 : decode cX11_back 28 = .ok (.iload_n 1, 1) := dg_cX11_back_218.2.2.1
theorem dX11_back_29 : decode cX11_back 29 = .ok (.iconst 1, 1) := dg_cX11_back_218.2.2.2.1
theorem dX11_back_30 : decode cX11_back 30 = .ok (.iadd, 1) := dg_cX11_back_218.2.2.2.2.1
theorem dX11_back_31 : decode cX11_back 31 = .ok (.imul, 1) := dg_cX11_back_218.2.2.2.2.2.1
theorem dX11_back_32 : decode cX11_back 32 = .ok (.invokevirtual 305, 3) := dg_cX11_back_218.2.2.2.2.2.2.1
theorem dX11_back_35 : decode cX11_back 35 = .ok (.aload_n 0, 1) := dg_cX11_back_218.2.2.2.2.2.2.2.1
theorem dX11_back_36 : decode cX11_back 36 = .ok (.invokevirtual 223, 3) := dg_cX11_back_218.2.2.2.2.2.2.2.2.1
theorem dX11_back_39 : decode cX11_back 39 = .ok (.ireturn, 1) := dg_cX11_back_218.2.2.2.2.2.2.2.2.2
set_option maxRecDepth 100000 in
theorem dg_cX11_isSheet_219 : (decode cX11_isSheet 0 = .ok (.iload_n 0, 1)) ∧ (decode cX11_isSheet 1 = .ok (.i2l, 1)) ∧ (decode cX11_isSheet 2 = .ok (.lconst 0, 1)) ∧ (decode cX11_isSheet 3 = .ok (.ldc2_w 303, 3)) ∧ (decode cX11_isSheet 6 = .ok (.invokestatic 92, 3)) ∧ (decode cX11_isSheet 9 = .ok (.ifCond .eq 19, 3)) ∧ (decode cX11_isSheet 12 = .ok (.iload_n 1, 1)) ∧ (decode cX11_isSheet 13 = .ok (.i2l, 1)) ∧ (decode cX11_isSheet 14 = .ok (.lconst 0, 1)) ∧ (decode cX11_isSheet 15 = .ok (.ldc2_w 308, 3)) ∧ (decode cX11_isSheet 18 = .ok (.invokestatic 92, 3)) ∧ (decode cX11_isSheet 21 = .ok (.ifCond .eq 7, 3)) ∧ (decode cX11_isSheet 24 = .ok (.iconst 1, 1)) ∧ (decode cX11_isSheet 25 = .ok (.goto 4, 3)) ∧ (decode cX11_isSheet 28 = .ok (.iconst 0, 1)) ∧ (decode cX11_isSheet 29 = .ok (.ireturn, 1)) := by decide +kernel
theorem dX11_isSheet_0 : decode cX11_isSheet 0 = .ok (.iload_n 0, 1) := dg_cX11_isSheet_219.1
theorem dX11_isSheet_1 : decode cX11_isSheet 1 = .ok (.i2l, 1) := dg_cX11_isSheet_219.2.1
theorem dX11_isSheet_2 : decode cX11_isSheet 2 = .ok (.lconst 0, 1) := dg_cX11_isSheet_219.2.2.1
theorem dX11_isSheet_3 : decode cX11_isSheet 3 = .ok (.ldc2_w 303, 3) := dg_cX11_isSheet_219.2.2.2.1
theorem dX11_isSheet_6 : decode cX11_isSheet 6 = .ok (.invokestatic 92, 3) := dg_cX11_isSheet_219.2.2.2.2.1
theorem dX11_isSheet_9 : decode cX11_isSheet 9 = .ok (.ifCond .eq 19, 3) := dg_cX11_isSheet_219.2.2.2.2.2.1
theorem dX11_isSheet_12 : decode cX11_isSheet 12 = .ok (.iload_n 1, 1) := dg_cX11_isSheet_219.2.2.2.2.2.2.1
theorem dX11_isSheet_13 : decode cX11_isSheet 13 = .ok (.i2l, 1) := dg_cX11_isSheet_219.2.2.2.2.2.2.2.1
theorem dX11_isSheet_14 : decode cX11_isSheet 14 = .ok (.lconst 0, 1) := dg_cX11_isSheet_219.2.2.2.2.2.2.2.2.1
theorem dX11_isSheet_15 : decode cX11_isSheet 15 = .ok (.ldc2_w 308, 3) := dg_cX11_isSheet_219.2.2.2.2.2.2.2.2.2.1
theorem dX11_isSheet_18 : decode cX11_isSheet 18 = .ok (.invokestatic 92, 3) := dg_cX11_isSheet_219.2.2.2.2.2.2.2.2.2.2.1
theorem dX11_isSheet_21 : decode cX11_isSheet 21 = .ok (.ifCond .eq 7, 3) := dg_cX11_isSheet_219.2.2.2.2.2.2.2.2.2.2.2.1
theorem dX11_isSheet_24 : decode cX11_isSheet 24 = .ok (.iconst 1, 1) := dg_cX11_isSheet_219.2.2.2.2.2.2.2.2.2.2.2.2.1
theorem dX11_isSheet_25 : decode cX11_isSheet 25 = .ok (.goto 4, 3) := dg_cX11_isSheet_219.2.2.2.2.2.2.2.2.2.2.2.2.2.1
theorem dX11_isSheet_28 : decode cX11_isSheet 28 = .ok (.iconst 0, 1) := dg_cX11_isSheet_219.2.2.2.2.2.2.2.2.2.2.2.2.2.2.1
theorem dX11_isSheet_29 : decode cX11_isSheet 29 = .ok (.ireturn, 1) := dg_cX11_isSheet_219.2.2.2.2.2.2.2.2.2.2.2.2.2.2.2
set_option maxRecDepth 100000 in
theorem dg_cX11_sheet_220 : (decode cX11_sheet 0 = .ok (.iload_n 1, 1)) ∧ (decode cX11_sheet 1 = .ok (.iload_n 2, 1)) ∧ (decode cX11_sheet 2 = .ok (.invokestatic 310, 3)) ∧ (decode cX11_sheet 5 = .ok (.ifCond .eq 9, 3)) ∧ (decode cX11_sheet 8 = .ok (.iload_n 3, 1)) ∧ (decode cX11_sheet 9 = .ok (.bipush 40, 2)) ∧ (decode cX11_sheet 11 = .ok (.if_icmp .le 5, 3)) ∧ (decode cX11_sheet 14 = .ok (.iconst (-1), 1)) ∧ (decode cX11_sheet 15 = .ok (.ireturn, 1)) ∧ (decode cX11_sheet 16 = .ok (.iload_n 3, 1)) ∧ (decode cX11_sheet 17 = .ok (.ifCond .ge 6, 3)) ∧ (decode cX11_sheet 20 = .ok (.bipush (-14), 2)) ∧ (decode cX11_sheet 22 = .ok (.ireturn, 1)) ∧ (decode cX11_sheet 23 = .ok (.aload_n 0, 1)) ∧ (decode cX11_sheet 24 = .ok (.getfield 38, 3)) ∧ (decode cX11_sheet 27 = .ok (.iload_n 1, 1)) := by decide +kernel
theorem dX11_sheet_0 : decode cX11_sheet 0 = .ok (.iload_n 1, 1) := dg_cX11_sheet_220.1
theorem dX11_sheet_1 : decode cX11_sheet 1 = .ok (.iload_n 2, 1) := dg_cX11_sheet_220.2.1
theorem dX11_sheet_2 : decode cX11_sheet 2 = .ok (.invokestatic 310, 3) := dg_cX11_sheet_220.2.2.1
theorem dX11_sheet_5 : decode cX11_sheet 5 = .ok (.ifCond .eq 9, 3) := dg_cX11_sheet_220.2.2.2.1
theorem dX11_sheet_8 : decode cX11_sheet 8 = .ok (.iload_n 3, 1) := dg_cX11_sheet_220.2.2.2.2.1
theorem dX11_sheet_9 : decode cX11_sheet 9 = .ok (.bipush 40, 2) := dg_cX11_sheet_220.2.2.2.2.2.1
theorem dX11_sheet_11 : decode cX11_sheet 11 = .ok (.if_icmp .le 5, 3) := dg_cX11_sheet_220.2.2.2.2.2.2.1
theorem dX11_sheet_14 : decode cX11_sheet 14 = .ok (.iconst (-1), 1) := dg_cX11_sheet_220.2.2.2.2.2.2.2.1
theorem dX11_sheet_15 : decode cX11_sheet 15 = .ok (.ireturn, 1) := dg_cX11_sheet_220.2.2.2.2.2.2.2.2.1
theorem dX11_sheet_16 : decode cX11_sheet 16 = .ok (.iload_n 3, 1) := dg_cX11_sheet_220.2.2.2.2.2.2.2.2.2.1
theorem dX11_sheet_17 : decode cX11_sheet 17 = .ok (.ifCond .ge 6, 3) := dg_cX11_sheet_220.2.2.2.2.2.2.2.2.2.2.1
theorem dX11_sheet_20 : decode cX11_sheet 20 = .ok (.bipush (-14), 2) := dg_cX11_sheet_220.2.2.2.2.2.2.2.2.2.2.2.1
theorem dX11_sheet_22 : decode cX11_sheet 22 = .ok (.ireturn, 1) := dg_cX11_sheet_220.2.2.2.2.2.2.2.2.2.2.2.2.1
theorem dX11_sheet_23 : decode cX11_sheet 23 = .ok (.aload_n 0, 1) := dg_cX11_sheet_220.2.2.2.2.2.2.2.2.2.2.2.2.2.1
theorem dX11_sheet_24 : decode cX11_sheet 24 = .ok (.getfield 38, 3) := dg_cX11_sheet_220.2.2.2.2.2.2.2.2.2.2.2.2.2.2.1
theorem dX11_sheet_27 : decode cX11_sheet 27 = .ok (.iload_n 1, 1) := dg_cX11_sheet_220.2.2.2.2.2.2.2.2.2.2.2.2.2.2.2
set_option maxRecDepth 100000 in
theorem dg_cX11_sheet_221 : (decode cX11_sheet 28 = .ok (.iload_n 2, 1)) ∧ (decode cX11_sheet 29 = .ok (.iastore, 1)) ∧ (decode cX11_sheet 30 = .ok (.aload_n 0, 1)) ∧ (decode cX11_sheet 31 = .ok (.getfield 41, 3)) ∧ (decode cX11_sheet 34 = .ok (.iload_n 1, 1)) ∧ (decode cX11_sheet 35 = .ok (.iload_n 3, 1)) ∧ (decode cX11_sheet 36 = .ok (.iastore, 1)) ∧ (decode cX11_sheet 37 = .ok (.iconst 0, 1)) ∧ (decode cX11_sheet 38 = .ok (.istore 4, 2)) ∧ (decode cX11_sheet 40 = .ok (.iload 4, 2)) ∧ (decode cX11_sheet 42 = .ok (.bipush 40, 2)) ∧ (decode cX11_sheet 44 = .ok (.if_icmp .ge 22, 3)) ∧ (decode cX11_sheet 47 = .ok (.aload_n 0, 1)) ∧ (decode cX11_sheet 48 = .ok (.getfield 44, 3)) ∧ (decode cX11_sheet 51 = .ok (.bipush 40, 2)) ∧ (decode cX11_sheet 53 = .ok (.iload_n 1, 1)) := by decide +kernel
theorem dX11_sheet_28 : decode cX11_sheet 28 = .ok (.iload_n 2, 1) := dg_cX11_sheet_221.1
theorem dX11_sheet_29 : decode cX11_sheet 29 = .ok (.iastore, 1) := dg_cX11_sheet_221.2.1
theorem dX11_sheet_30 : decode cX11_sheet 30 = .ok (.aload_n 0, 1) := dg_cX11_sheet_221.2.2.1
theorem dX11_sheet_31 : decode cX11_sheet 31 = .ok (.getfield 41, 3) := dg_cX11_sheet_221.2.2.2.1
theorem dX11_sheet_34 : decode cX11_sheet 34 = .ok (.iload_n 1, 1) := dg_cX11_sheet_221.2.2.2.2.1
theorem dX11_sheet_35 : decode cX11_sheet 35 = .ok (.iload_n 3, 1) := dg_cX11_sheet_221.2.2.2.2.2.1
theorem dX11_sheet_36 : decode cX11_sheet 36 = .ok (.iastore, 1) := dg_cX11_sheet_221.2.2.2.2.2.2.1
theorem dX11_sheet_37 : decode cX11_sheet 37 = .ok (.iconst 0, 1) := dg_cX11_sheet_221.2.2.2.2.2.2.2.1
theorem dX11_sheet_38 : decode cX11_sheet 38 = .ok (.istore 4, 2) := dg_cX11_sheet_221.2.2.2.2.2.2.2.2.1
theorem dX11_sheet_40 : decode cX11_sheet 40 = .ok (.iload 4, 2) := dg_cX11_sheet_221.2.2.2.2.2.2.2.2.2.1
theorem dX11_sheet_42 : decode cX11_sheet 42 = .ok (.bipush 40, 2) := dg_cX11_sheet_221.2.2.2.2.2.2.2.2.2.2.1
theorem dX11_sheet_44 : decode cX11_sheet 44 = .ok (.if_icmp .ge 22, 3) := dg_cX11_sheet_221.2.2.2.2.2.2.2.2.2.2.2.1
theorem dX11_sheet_47 : decode cX11_sheet 47 = .ok (.aload_n 0, 1) := dg_cX11_sheet_221.2.2.2.2.2.2.2.2.2.2.2.2.1
theorem dX11_sheet_48 : decode cX11_sheet 48 = .ok (.getfield 44, 3) := dg_cX11_sheet_221.2.2.2.2.2.2.2.2.2.2.2.2.2.1
theorem dX11_sheet_51 : decode cX11_sheet 51 = .ok (.bipush 40, 2) := dg_cX11_sheet_221.2.2.2.2.2.2.2.2.2.2.2.2.2.2.1
theorem dX11_sheet_53 : decode cX11_sheet 53 = .ok (.iload_n 1, 1) := dg_cX11_sheet_221.2.2.2.2.2.2.2.2.2.2.2.2.2.2.2
set_option maxRecDepth 100000 in
theorem dg_cX11_sheet_222 : (decode cX11_sheet 54 = .ok (.imul, 1)) ∧ (decode cX11_sheet 55 = .ok (.iload 4, 2)) ∧ (decode cX11_sheet 57 = .ok (.iadd, 1)) ∧ (decode cX11_sheet 58 = .ok (.iconst 0, 1)) ∧ (decode cX11_sheet 59 = .ok (.iastore, 1)) ∧ (decode cX11_sheet 60 = .ok (.iinc 4 1, 3)) ∧ (decode cX11_sheet 63 = .ok (.goto (-23), 3)) ∧ (decode cX11_sheet 66 = .ok (.iconst 1, 1)) ∧ (decode cX11_sheet 67 = .ok (.ireturn, 1)) := by decide +kernel
theorem dX11_sheet_54 : decode cX11_sheet 54 = .ok (.imul, 1) := dg_cX11_sheet_222.1
theorem dX11_sheet_55 : decode cX11_sheet 55 = .ok (.iload 4, 2) := dg_cX11_sheet_222.2.1
theorem dX11_sheet_57 : decode cX11_sheet 57 = .ok (.iadd, 1) := dg_cX11_sheet_222.2.2.1
theorem dX11_sheet_58 : decode cX11_sheet 58 = .ok (.iconst 0, 1) := dg_cX11_sheet_222.2.2.2.1
theorem dX11_sheet_59 : decode cX11_sheet 59 = .ok (.iastore, 1) := dg_cX11_sheet_222.2.2.2.2.1
theorem dX11_sheet_60 : decode cX11_sheet 60 = .ok (.iinc 4 1, 3) := dg_cX11_sheet_222.2.2.2.2.2.1
theorem dX11_sheet_63 : decode cX11_sheet 63 = .ok (.goto (-23), 3) := dg_cX11_sheet_222.2.2.2.2.2.2.1
theorem dX11_sheet_66 : decode cX11_sheet 66 = .ok (.iconst 1, 1) := dg_cX11_sheet_222.2.2.2.2.2.2.2.1
theorem dX11_sheet_67 : decode cX11_sheet 67 = .ok (.ireturn, 1) := dg_cX11_sheet_222.2.2.2.2.2.2.2.2
set_option maxRecDepth 100000 in
theorem dg_cX11_lay_223 : (decode cX11_lay 0 = .ok (.iload_n 1, 1)) ∧ (decode cX11_lay 1 = .ok (.iconst 0, 1)) ∧ (decode cX11_lay 2 = .ok (.invokestatic 310, 3)) ∧ (decode cX11_lay 5 = .ok (.ifCond .ne 5, 3)) ∧ (decode cX11_lay 8 = .ok (.iconst (-1), 1)) ∧ (decode cX11_lay 9 = .ok (.ireturn, 1)) ∧ (decode cX11_lay 10 = .ok (.aload_n 0, 1)) ∧ (decode cX11_lay 11 = .ok (.getfield 38, 3)) ∧ (decode cX11_lay 14 = .ok (.iload_n 1, 1)) ∧ (decode cX11_lay 15 = .ok (.iaload, 1)) ∧ (decode cX11_lay 16 = .ok (.bipush (-4), 2)) ∧ (decode cX11_lay 18 = .ok (.if_icmp .ne 6, 3)) ∧ (decode cX11_lay 21 = .ok (.bipush (-11), 2)) ∧ (decode cX11_lay 23 = .ok (.ireturn, 1)) ∧ (decode cX11_lay 24 = .ok (.iload_n 2, 1)) ∧ (decode cX11_lay 25 = .ok (.i2l, 1)) := by decide +kernel
theorem dX11_lay_0 : decode cX11_lay 0 = .ok (.iload_n 1, 1) := dg_cX11_lay_223.1
theorem dX11_lay_1 : decode cX11_lay 1 = .ok (.iconst 0, 1) := dg_cX11_lay_223.2.1
theorem dX11_lay_2 : decode cX11_lay 2 = .ok (.invokestatic 310, 3) := dg_cX11_lay_223.2.2.1
theorem dX11_lay_5 : decode cX11_lay 5 = .ok (.ifCond .ne 5, 3) := dg_cX11_lay_223.2.2.2.1
theorem dX11_lay_8 : decode cX11_lay 8 = .ok (.iconst (-1), 1) := dg_cX11_lay_223.2.2.2.2.1
theorem dX11_lay_9 : decode cX11_lay 9 = .ok (.ireturn, 1) := dg_cX11_lay_223.2.2.2.2.2.1
theorem dX11_lay_10 : decode cX11_lay 10 = .ok (.aload_n 0, 1) := dg_cX11_lay_223.2.2.2.2.2.2.1
theorem dX11_lay_11 : decode cX11_lay 11 = .ok (.getfield 38, 3) := dg_cX11_lay_223.2.2.2.2.2.2.2.1
theorem dX11_lay_14 : decode cX11_lay 14 = .ok (.iload_n 1, 1) := dg_cX11_lay_223.2.2.2.2.2.2.2.2.1
theorem dX11_lay_15 : decode cX11_lay 15 = .ok (.iaload, 1) := dg_cX11_lay_223.2.2.2.2.2.2.2.2.2.1
theorem dX11_lay_16 : decode cX11_lay 16 = .ok (.bipush (-4), 2) := dg_cX11_lay_223.2.2.2.2.2.2.2.2.2.2.1
theorem dX11_lay_18 : decode cX11_lay 18 = .ok (.if_icmp .ne 6, 3) := dg_cX11_lay_223.2.2.2.2.2.2.2.2.2.2.2.1
theorem dX11_lay_21 : decode cX11_lay 21 = .ok (.bipush (-11), 2) := dg_cX11_lay_223.2.2.2.2.2.2.2.2.2.2.2.2.1
theorem dX11_lay_23 : decode cX11_lay 23 = .ok (.ireturn, 1) := dg_cX11_lay_223.2.2.2.2.2.2.2.2.2.2.2.2.2.1
theorem dX11_lay_24 : decode cX11_lay 24 = .ok (.iload_n 2, 1) := dg_cX11_lay_223.2.2.2.2.2.2.2.2.2.2.2.2.2.2.1
theorem dX11_lay_25 : decode cX11_lay 25 = .ok (.i2l, 1) := dg_cX11_lay_223.2.2.2.2.2.2.2.2.2.2.2.2.2.2.2
set_option maxRecDepth 100000 in
theorem dg_cX11_lay_224 : (decode cX11_lay 26 = .ok (.lconst 0, 1)) ∧ (decode cX11_lay 27 = .ok (.aload_n 0, 1)) ∧ (decode cX11_lay 28 = .ok (.getfield 41, 3)) ∧ (decode cX11_lay 31 = .ok (.iload_n 1, 1)) ∧ (decode cX11_lay 32 = .ok (.iaload, 1)) ∧ (decode cX11_lay 33 = .ok (.iconst 1, 1)) ∧ (decode cX11_lay 34 = .ok (.isub, 1)) ∧ (decode cX11_lay 35 = .ok (.i2l, 1)) ∧ (decode cX11_lay 36 = .ok (.invokestatic 92, 3)) ∧ (decode cX11_lay 39 = .ok (.ifCond .ne 6, 3)) ∧ (decode cX11_lay 42 = .ok (.bipush (-12), 2)) ∧ (decode cX11_lay 44 = .ok (.ireturn, 1)) ∧ (decode cX11_lay 45 = .ok (.aload_n 0, 1)) ∧ (decode cX11_lay 46 = .ok (.getfield 44, 3)) ∧ (decode cX11_lay 49 = .ok (.bipush 40, 2)) ∧ (decode cX11_lay 51 = .ok (.iload_n 1, 1)) := by decide +kernel
theorem dX11_lay_26 : decode cX11_lay 26 = .ok (.lconst 0, 1) := dg_cX11_lay_224.1
theorem dX11_lay_27 : decode cX11_lay 27 = .ok (.aload_n 0, 1) := dg_cX11_lay_224.2.1
theorem dX11_lay_28 : decode cX11_lay 28 = .ok (.getfield 41, 3) := dg_cX11_lay_224.2.2.1
theorem dX11_lay_31 : decode cX11_lay 31 = .ok (.iload_n 1, 1) := dg_cX11_lay_224.2.2.2.1
theorem dX11_lay_32 : decode cX11_lay 32 = .ok (.iaload, 1) := dg_cX11_lay_224.2.2.2.2.1
theorem dX11_lay_33 : decode cX11_lay 33 = .ok (.iconst 1, 1) := dg_cX11_lay_224.2.2.2.2.2.1
theorem dX11_lay_34 : decode cX11_lay 34 = .ok (.isub, 1) := dg_cX11_lay_224.2.2.2.2.2.2.1
theorem dX11_lay_35 : decode cX11_lay 35 = .ok (.i2l, 1) := dg_cX11_lay_224.2.2.2.2.2.2.2.1
theorem dX11_lay_36 : decode cX11_lay 36 = .ok (.invokestatic 92, 3) := dg_cX11_lay_224.2.2.2.2.2.2.2.2.1
theorem dX11_lay_39 : decode cX11_lay 39 = .ok (.ifCond .ne 6, 3) := dg_cX11_lay_224.2.2.2.2.2.2.2.2.2.1
theorem dX11_lay_42 : decode cX11_lay 42 = .ok (.bipush (-12), 2) := dg_cX11_lay_224.2.2.2.2.2.2.2.2.2.2.1
theorem dX11_lay_44 : decode cX11_lay 44 = .ok (.ireturn, 1) := dg_cX11_lay_224.2.2.2.2.2.2.2.2.2.2.2.1
theorem dX11_lay_45 : decode cX11_lay 45 = .ok (.aload_n 0, 1) := dg_cX11_lay_224.2.2.2.2.2.2.2.2.2.2.2.2.1
theorem dX11_lay_46 : decode cX11_lay 46 = .ok (.getfield 44, 3) := dg_cX11_lay_224.2.2.2.2.2.2.2.2.2.2.2.2.2.1
theorem dX11_lay_49 : decode cX11_lay 49 = .ok (.bipush 40, 2) := dg_cX11_lay_224.2.2.2.2.2.2.2.2.2.2.2.2.2.2.1
theorem dX11_lay_51 : decode cX11_lay 51 = .ok (.iload_n 1, 1) := dg_cX11_lay_224.2.2.2.2.2.2.2.2.2.2.2.2.2.2.2
set_option maxRecDepth 100000 in
theorem dg_cX11_lay_225 : (decode cX11_lay 52 = .ok (.imul, 1)) ∧ (decode cX11_lay 53 = .ok (.iload_n 2, 1)) ∧ (decode cX11_lay 54 = .ok (.iadd, 1)) ∧ (decode cX11_lay 55 = .ok (.aload_n 0, 1)) ∧ (decode cX11_lay 56 = .ok (.getfield 38, 3)) ∧ (decode cX11_lay 59 = .ok (.iload_n 1, 1)) ∧ (decode cX11_lay 60 = .ok (.iaload, 1)) ∧ (decode cX11_lay 61 = .ok (.ifCond .ne 8, 3)) ∧ (decode cX11_lay 64 = .ok (.iload_n 3, 1)) ∧ (decode cX11_lay 65 = .ok (.i2b, 1)) ∧ (decode cX11_lay 66 = .ok (.goto 19, 3)) ∧ (decode cX11_lay 69 = .ok (.aload_n 0, 1)) ∧ (decode cX11_lay 70 = .ok (.getfield 38, 3)) ∧ (decode cX11_lay 73 = .ok (.iload_n 1, 1)) ∧ (decode cX11_lay 74 = .ok (.iaload, 1)) ∧ (decode cX11_lay 75 = .ok (.iconst 1, 1)) := by decide +kernel
theorem dX11_lay_52 : decode cX11_lay 52 = .ok (.imul, 1) := dg_cX11_lay_225.1
theorem dX11_lay_53 : decode cX11_lay 53 = .ok (.iload_n 2, 1) := dg_cX11_lay_225.2.1
theorem dX11_lay_54 : decode cX11_lay 54 = .ok (.iadd, 1) := dg_cX11_lay_225.2.2.1
theorem dX11_lay_55 : decode cX11_lay 55 = .ok (.aload_n 0, 1) := dg_cX11_lay_225.2.2.2.1
theorem dX11_lay_56 : decode cX11_lay 56 = .ok (.getfield 38, 3) := dg_cX11_lay_225.2.2.2.2.1
theorem dX11_lay_59 : decode cX11_lay 59 = .ok (.iload_n 1, 1) := dg_cX11_lay_225.2.2.2.2.2.1
theorem dX11_lay_60 : decode cX11_lay 60 = .ok (.iaload, 1) := dg_cX11_lay_225.2.2.2.2.2.2.1
theorem dX11_lay_61 : decode cX11_lay 61 = .ok (.ifCond .ne 8, 3) := dg_cX11_lay_225.2.2.2.2.2.2.2.1
theorem dX11_lay_64 : decode cX11_lay 64 = .ok (.iload_n 3, 1) := dg_cX11_lay_225.2.2.2.2.2.2.2.2.1
theorem dX11_lay_65 : decode cX11_lay 65 = .ok (.i2b, 1) := dg_cX11_lay_225.2.2.2.2.2.2.2.2.2.1
theorem dX11_lay_66 : decode cX11_lay 66 = .ok (.goto 19, 3) := dg_cX11_lay_225.2.2.2.2.2.2.2.2.2.2.1
theorem dX11_lay_69 : decode cX11_lay 69 = .ok (.aload_n 0, 1) := dg_cX11_lay_225.2.2.2.2.2.2.2.2.2.2.2.1
theorem dX11_lay_70 : decode cX11_lay 70 = .ok (.getfield 38, 3) := dg_cX11_lay_225.2.2.2.2.2.2.2.2.2.2.2.2.1
theorem dX11_lay_73 : decode cX11_lay 73 = .ok (.iload_n 1, 1) := dg_cX11_lay_225.2.2.2.2.2.2.2.2.2.2.2.2.2.1
theorem dX11_lay_74 : decode cX11_lay 74 = .ok (.iaload, 1) := dg_cX11_lay_225.2.2.2.2.2.2.2.2.2.2.2.2.2.2.1
theorem dX11_lay_75 : decode cX11_lay 75 = .ok (.iconst 1, 1) := dg_cX11_lay_225.2.2.2.2.2.2.2.2.2.2.2.2.2.2.2
set_option maxRecDepth 100000 in
theorem dg_cX11_lay_226 : (decode cX11_lay 76 = .ok (.if_icmp .ne 8, 3)) ∧ (decode cX11_lay 79 = .ok (.iload_n 3, 1)) ∧ (decode cX11_lay 80 = .ok (.i2s, 1)) ∧ (decode cX11_lay 81 = .ok (.goto 4, 3)) ∧ (decode cX11_lay 84 = .ok (.iload_n 3, 1)) ∧ (decode cX11_lay 85 = .ok (.iastore, 1)) ∧ (decode cX11_lay 86 = .ok (.iconst 1, 1)) ∧ (decode cX11_lay 87 = .ok (.ireturn, 1)) := by decide +kernel
theorem dX11_lay_76 : decode cX11_lay 76 = .ok (.if_icmp .ne 8, 3) := dg_cX11_lay_226.1
theorem dX11_lay_79 : decode cX11_lay 79 = .ok (.iload_n 3, 1) := dg_cX11_lay_226.2.1
theorem dX11_lay_80 : decode cX11_lay 80 = .ok (.i2s, 1) := dg_cX11_lay_226.2.2.1
theorem dX11_lay_81 : decode cX11_lay 81 = .ok (.goto 4, 3) := dg_cX11_lay_226.2.2.2.1
theorem dX11_lay_84 : decode cX11_lay 84 = .ok (.iload_n 3, 1) := dg_cX11_lay_226.2.2.2.2.1
theorem dX11_lay_85 : decode cX11_lay 85 = .ok (.iastore, 1) := dg_cX11_lay_226.2.2.2.2.2.1
theorem dX11_lay_86 : decode cX11_lay 86 = .ok (.iconst 1, 1) := dg_cX11_lay_226.2.2.2.2.2.2.1
theorem dX11_lay_87 : decode cX11_lay 87 = .ok (.ireturn, 1) := dg_cX11_lay_226.2.2.2.2.2.2.2
set_option maxRecDepth 100000 in
theorem dg_cX11_read_227 : (decode cX11_read 0 = .ok (.iload_n 1, 1)) ∧ (decode cX11_read 1 = .ok (.iload_n 2, 1)) ∧ (decode cX11_read 2 = .ok (.invokestatic 310, 3)) ∧ (decode cX11_read 5 = .ok (.ifCond .eq 16, 3)) ∧ (decode cX11_read 8 = .ok (.iload 4, 2)) ∧ (decode cX11_read 10 = .ok (.i2l, 1)) ∧ (decode cX11_read 11 = .ok (.lconst 0, 1)) ∧ (decode cX11_read 12 = .ok (.ldc2_w 313, 3)) ∧ (decode cX11_read 15 = .ok (.invokestatic 92, 3)) ∧ (decode cX11_read 18 = .ok (.ifCond .ne 5, 3)) ∧ (decode cX11_read 21 = .ok (.iconst (-1), 1)) ∧ (decode cX11_read 22 = .ok (.ireturn, 1)) ∧ (decode cX11_read 23 = .ok (.aload_n 0, 1)) ∧ (decode cX11_read 24 = .ok (.getfield 7, 3)) ∧ (decode cX11_read 27 = .ok (.bipush 66, 2)) ∧ (decode cX11_read 29 = .ok (.iaload, 1)) := by decide +kernel
theorem dX11_read_0 : decode cX11_read 0 = .ok (.iload_n 1, 1) := dg_cX11_read_227.1
theorem dX11_read_1 : decode cX11_read 1 = .ok (.iload_n 2, 1) := dg_cX11_read_227.2.1
theorem dX11_read_2 : decode cX11_read 2 = .ok (.invokestatic 310, 3) := dg_cX11_read_227.2.2.1
theorem dX11_read_5 : decode cX11_read 5 = .ok (.ifCond .eq 16, 3) := dg_cX11_read_227.2.2.2.1
theorem dX11_read_8 : decode cX11_read 8 = .ok (.iload 4, 2) := dg_cX11_read_227.2.2.2.2.1
theorem dX11_read_10 : decode cX11_read 10 = .ok (.i2l, 1) := dg_cX11_read_227.2.2.2.2.2.1
theorem dX11_read_11 : decode cX11_read 11 = .ok (.lconst 0, 1) := dg_cX11_read_227.2.2.2.2.2.2.1
theorem dX11_read_12 : decode cX11_read 12 = .ok (.ldc2_w 313, 3) := dg_cX11_read_227.2.2.2.2.2.2.2.1
theorem dX11_read_15 : decode cX11_read 15 = .ok (.invokestatic 92, 3) := dg_cX11_read_227.2.2.2.2.2.2.2.2.1
theorem dX11_read_18 : decode cX11_read 18 = .ok (.ifCond .ne 5, 3) := dg_cX11_read_227.2.2.2.2.2.2.2.2.2.1
theorem dX11_read_21 : decode cX11_read 21 = .ok (.iconst (-1), 1) := dg_cX11_read_227.2.2.2.2.2.2.2.2.2.2.1
theorem dX11_read_22 : decode cX11_read 22 = .ok (.ireturn, 1) := dg_cX11_read_227.2.2.2.2.2.2.2.2.2.2.2.1
theorem dX11_read_23 : decode cX11_read 23 = .ok (.aload_n 0, 1) := dg_cX11_read_227.2.2.2.2.2.2.2.2.2.2.2.2.1
theorem dX11_read_24 : decode cX11_read 24 = .ok (.getfield 7, 3) := dg_cX11_read_227.2.2.2.2.2.2.2.2.2.2.2.2.2.1
theorem dX11_read_27 : decode cX11_read 27 = .ok (.bipush 66, 2) := dg_cX11_read_227.2.2.2.2.2.2.2.2.2.2.2.2.2.2.1
theorem dX11_read_29 : decode cX11_read 29 = .ok (.iaload, 1) := dg_cX11_read_227.2.2.2.2.2.2.2.2.2.2.2.2.2.2.2
set_option maxRecDepth 100000 in
theorem dg_cX11_read_228 : (decode cX11_read 30 = .ok (.istore 5, 2)) ∧ (decode cX11_read 32 = .ok (.iconst 0, 1)) ∧ (decode cX11_read 33 = .ok (.istore 6, 2)) ∧ (decode cX11_read 35 = .ok (.iconst 0, 1)) ∧ (decode cX11_read 36 = .ok (.istore 7, 2)) ∧ (decode cX11_read 38 = .ok (.iconst 0, 1)) ∧ (decode cX11_read 39 = .ok (.istore 8, 2)) ∧ (decode cX11_read 41 = .ok (.iload 8, 2)) ∧ (decode cX11_read 43 = .ok (.iload 4, 2)) ∧ (decode cX11_read 45 = .ok (.if_icmp .ge 137, 3)) ∧ (decode cX11_read 48 = .ok (.iload 6, 2)) ∧ (decode cX11_read 50 = .ok (.ifCond .ne 132, 3)) ∧ (decode cX11_read 53 = .ok (.iload_n 3, 1)) ∧ (decode cX11_read 54 = .ok (.i2l, 1)) ∧ (decode cX11_read 55 = .ok (.iload 8, 2)) ∧ (decode cX11_read 57 = .ok (.i2l, 1)) := by decide +kernel
theorem dX11_read_30 : decode cX11_read 30 = .ok (.istore 5, 2) := dg_cX11_read_228.1
theorem dX11_read_32 : decode cX11_read 32 = .ok (.iconst 0, 1) := dg_cX11_read_228.2.1
theorem dX11_read_33 : decode cX11_read 33 = .ok (.istore 6, 2) := dg_cX11_read_228.2.2.1
theorem dX11_read_35 : decode cX11_read 35 = .ok (.iconst 0, 1) := dg_cX11_read_228.2.2.2.1
theorem dX11_read_36 : decode cX11_read 36 = .ok (.istore 7, 2) := dg_cX11_read_228.2.2.2.2.1
theorem dX11_read_38 : decode cX11_read 38 = .ok (.iconst 0, 1) := dg_cX11_read_228.2.2.2.2.2.1
theorem dX11_read_39 : decode cX11_read 39 = .ok (.istore 8, 2) := dg_cX11_read_228.2.2.2.2.2.2.1
theorem dX11_read_41 : decode cX11_read 41 = .ok (.iload 8, 2) := dg_cX11_read_228.2.2.2.2.2.2.2.1
theorem dX11_read_43 : decode cX11_read 43 = .ok (.iload 4, 2) := dg_cX11_read_228.2.2.2.2.2.2.2.2.1
theorem dX11_read_45 : decode cX11_read 45 = .ok (.if_icmp .ge 137, 3) := dg_cX11_read_228.2.2.2.2.2.2.2.2.2.1
theorem dX11_read_48 : decode cX11_read 48 = .ok (.iload 6, 2) := dg_cX11_read_228.2.2.2.2.2.2.2.2.2.2.1
theorem dX11_read_50 : decode cX11_read 50 = .ok (.ifCond .ne 132, 3) := dg_cX11_read_228.2.2.2.2.2.2.2.2.2.2.2.1
theorem dX11_read_53 : decode cX11_read 53 = .ok (.iload_n 3, 1) := dg_cX11_read_228.2.2.2.2.2.2.2.2.2.2.2.2.1
theorem dX11_read_54 : decode cX11_read 54 = .ok (.i2l, 1) := dg_cX11_read_228.2.2.2.2.2.2.2.2.2.2.2.2.2.1
theorem dX11_read_55 : decode cX11_read 55 = .ok (.iload 8, 2) := dg_cX11_read_228.2.2.2.2.2.2.2.2.2.2.2.2.2.2.1
theorem dX11_read_57 : decode cX11_read 57 = .ok (.i2l, 1) := dg_cX11_read_228.2.2.2.2.2.2.2.2.2.2.2.2.2.2.2
set_option maxRecDepth 100000 in
theorem dg_cX11_read_229 : (decode cX11_read 58 = .ok (.ladd, 1)) ∧ (decode cX11_read 59 = .ok (.lstore 9, 2)) ∧ (decode cX11_read 61 = .ok (.aload_n 0, 1)) ∧ (decode cX11_read 62 = .ok (.getfield 38, 3)) ∧ (decode cX11_read 65 = .ok (.iload_n 1, 1)) ∧ (decode cX11_read 66 = .ok (.iaload, 1)) ∧ (decode cX11_read 67 = .ok (.bipush (-4), 2)) ∧ (decode cX11_read 69 = .ok (.if_icmp .ne 7, 3)) ∧ (decode cX11_read 72 = .ok (.iconst 1, 1)) ∧ (decode cX11_read 73 = .ok (.goto 42, 3)) ∧ (decode cX11_read 76 = .ok (.aload_n 0, 1)) ∧ (decode cX11_read 77 = .ok (.getfield 38, 3)) ∧ (decode cX11_read 80 = .ok (.iload_n 1, 1)) ∧ (decode cX11_read 81 = .ok (.iaload, 1)) ∧ (decode cX11_read 82 = .ok (.iload_n 2, 1)) ∧ (decode cX11_read 83 = .ok (.if_icmp .eq 7, 3)) := by decide +kernel
theorem dX11_read_58 : decode cX11_read 58 = .ok (.ladd, 1) := dg_cX11_read_229.1
theorem dX11_read_59 : decode cX11_read 59 = .ok (.lstore 9, 2) := dg_cX11_read_229.2.1
theorem dX11_read_61 : decode cX11_read 61 = .ok (.aload_n 0, 1) := dg_cX11_read_229.2.2.1
theorem dX11_read_62 : decode cX11_read 62 = .ok (.getfield 38, 3) := dg_cX11_read_229.2.2.2.1
theorem dX11_read_65 : decode cX11_read 65 = .ok (.iload_n 1, 1) := dg_cX11_read_229.2.2.2.2.1
theorem dX11_read_66 : decode cX11_read 66 = .ok (.iaload, 1) := dg_cX11_read_229.2.2.2.2.2.1
theorem dX11_read_67 : decode cX11_read 67 = .ok (.bipush (-4), 2) := dg_cX11_read_229.2.2.2.2.2.2.1
theorem dX11_read_69 : decode cX11_read 69 = .ok (.if_icmp .ne 7, 3) := dg_cX11_read_229.2.2.2.2.2.2.2.1
theorem dX11_read_72 : decode cX11_read 72 = .ok (.iconst 1, 1) := dg_cX11_read_229.2.2.2.2.2.2.2.2.1
theorem dX11_read_73 : decode cX11_read 73 = .ok (.goto 42, 3) := dg_cX11_read_229.2.2.2.2.2.2.2.2.2.1
theorem dX11_read_76 : decode cX11_read 76 = .ok (.aload_n 0, 1) := dg_cX11_read_229.2.2.2.2.2.2.2.2.2.2.1
theorem dX11_read_77 : decode cX11_read 77 = .ok (.getfield 38, 3) := dg_cX11_read_229.2.2.2.2.2.2.2.2.2.2.2.1
theorem dX11_read_80 : decode cX11_read 80 = .ok (.iload_n 1, 1) := dg_cX11_read_229.2.2.2.2.2.2.2.2.2.2.2.2.1
theorem dX11_read_81 : decode cX11_read 81 = .ok (.iaload, 1) := dg_cX11_read_229.2.2.2.2.2.2.2.2.2.2.2.2.2.1
theorem dX11_read_82 : decode cX11_read 82 = .ok (.iload_n 2, 1) := dg_cX11_read_229.2.2.2.2.2.2.2.2.2.2.2.2.2.2.1
theorem dX11_read_83 : decode cX11_read 83 = .ok (.if_icmp .eq 7, 3) := dg_cX11_read_229.2.2.2.2.2.2.2.2.2.2.2.2.2.2.2
set_option maxRecDepth 100000 in
theorem dg_cX11_read_230 : (decode cX11_read 86 = .ok (.iconst 3, 1)) ∧ (decode cX11_read 87 = .ok (.goto 28, 3)) ∧ (decode cX11_read 90 = .ok (.lload 9, 2)) ∧ (decode cX11_read 92 = .ok (.lconst 0, 1)) ∧ (decode cX11_read 93 = .ok (.lcmp, 1)) ∧ (decode cX11_read 94 = .ok (.ifCond .lt 16, 3)) ∧ (decode cX11_read 97 = .ok (.lload 9, 2)) ∧ (decode cX11_read 99 = .ok (.aload_n 0, 1)) ∧ (decode cX11_read 100 = .ok (.getfield 41, 3)) ∧ (decode cX11_read 103 = .ok (.iload_n 1, 1)) ∧ (decode cX11_read 104 = .ok (.iaload, 1)) ∧ (decode cX11_read 105 = .ok (.i2l, 1)) ∧ (decode cX11_read 106 = .ok (.lcmp, 1)) ∧ (decode cX11_read 107 = .ok (.ifCond .lt 7, 3)) ∧ (decode cX11_read 110 = .ok (.iconst 2, 1)) ∧ (decode cX11_read 111 = .ok (.goto 4, 3)) := by decide +kernel
theorem dX11_read_86 : decode cX11_read 86 = .ok (.iconst 3, 1) := dg_cX11_read_230.1
theorem dX11_read_87 : decode cX11_read 87 = .ok (.goto 28, 3) := dg_cX11_read_230.2.1
theorem dX11_read_90 : decode cX11_read 90 = .ok (.lload 9, 2) := dg_cX11_read_230.2.2.1
theorem dX11_read_92 : decode cX11_read 92 = .ok (.lconst 0, 1) := dg_cX11_read_230.2.2.2.1
theorem dX11_read_93 : decode cX11_read 93 = .ok (.lcmp, 1) := dg_cX11_read_230.2.2.2.2.1
theorem dX11_read_94 : decode cX11_read 94 = .ok (.ifCond .lt 16, 3) := dg_cX11_read_230.2.2.2.2.2.1
theorem dX11_read_97 : decode cX11_read 97 = .ok (.lload 9, 2) := dg_cX11_read_230.2.2.2.2.2.2.1
theorem dX11_read_99 : decode cX11_read 99 = .ok (.aload_n 0, 1) := dg_cX11_read_230.2.2.2.2.2.2.2.1
theorem dX11_read_100 : decode cX11_read 100 = .ok (.getfield 41, 3) := dg_cX11_read_230.2.2.2.2.2.2.2.2.1
theorem dX11_read_103 : decode cX11_read 103 = .ok (.iload_n 1, 1) := dg_cX11_read_230.2.2.2.2.2.2.2.2.2.1
theorem dX11_read_104 : decode cX11_read 104 = .ok (.iaload, 1) := dg_cX11_read_230.2.2.2.2.2.2.2.2.2.2.1
theorem dX11_read_105 : decode cX11_read 105 = .ok (.i2l, 1) := dg_cX11_read_230.2.2.2.2.2.2.2.2.2.2.2.1
theorem dX11_read_106 : decode cX11_read 106 = .ok (.lcmp, 1) := dg_cX11_read_230.2.2.2.2.2.2.2.2.2.2.2.2.1
theorem dX11_read_107 : decode cX11_read 107 = .ok (.ifCond .lt 7, 3) := dg_cX11_read_230.2.2.2.2.2.2.2.2.2.2.2.2.2.1
theorem dX11_read_110 : decode cX11_read 110 = .ok (.iconst 2, 1) := dg_cX11_read_230.2.2.2.2.2.2.2.2.2.2.2.2.2.2.1
theorem dX11_read_111 : decode cX11_read 111 = .ok (.goto 4, 3) := dg_cX11_read_230.2.2.2.2.2.2.2.2.2.2.2.2.2.2.2
set_option maxRecDepth 100000 in
theorem dg_cX11_read_231 : (decode cX11_read 114 = .ok (.iconst 0, 1)) ∧ (decode cX11_read 115 = .ok (.istore 6, 2)) ∧ (decode cX11_read 117 = .ok (.iload 6, 2)) ∧ (decode cX11_read 119 = .ok (.ifCond .ne 57, 3)) ∧ (decode cX11_read 122 = .ok (.aload_n 0, 1)) ∧ (decode cX11_read 123 = .ok (.aload_n 0, 1)) ∧ (decode cX11_read 124 = .ok (.getfield 44, 3)) ∧ (decode cX11_read 127 = .ok (.bipush 40, 2)) ∧ (decode cX11_read 129 = .ok (.iload_n 1, 1)) ∧ (decode cX11_read 130 = .ok (.imul, 1)) ∧ (decode cX11_read 131 = .ok (.iload_n 3, 1)) ∧ (decode cX11_read 132 = .ok (.iadd, 1)) ∧ (decode cX11_read 133 = .ok (.iload 8, 2)) ∧ (decode cX11_read 135 = .ok (.iadd, 1)) ∧ (decode cX11_read 136 = .ok (.iaload, 1)) ∧ (decode cX11_read 137 = .ok (.invokevirtual 315, 3)) := by decide +kernel
theorem dX11_read_114 : decode cX11_read 114 = .ok (.iconst 0, 1) := dg_cX11_read_231.1
theorem dX11_read_115 : decode cX11_read 115 = .ok (.istore 6, 2) := dg_cX11_read_231.2.1
theorem dX11_read_117 : decode cX11_read 117 = .ok (.iload 6, 2) := dg_cX11_read_231.2.2.1
theorem dX11_read_119 : decode cX11_read 119 = .ok (.ifCond .ne 57, 3) := dg_cX11_read_231.2.2.2.1
theorem dX11_read_122 : decode cX11_read 122 = .ok (.aload_n 0, 1) := dg_cX11_read_231.2.2.2.2.1
theorem dX11_read_123 : decode cX11_read 123 = .ok (.aload_n 0, 1) := dg_cX11_read_231.2.2.2.2.2.1
theorem dX11_read_124 : decode cX11_read 124 = .ok (.getfield 44, 3) := dg_cX11_read_231.2.2.2.2.2.2.1
theorem dX11_read_127 : decode cX11_read 127 = .ok (.bipush 40, 2) := dg_cX11_read_231.2.2.2.2.2.2.2.1
theorem dX11_read_129 : decode cX11_read 129 = .ok (.iload_n 1, 1) := dg_cX11_read_231.2.2.2.2.2.2.2.2.1
theorem dX11_read_130 : decode cX11_read 130 = .ok (.imul, 1) := dg_cX11_read_231.2.2.2.2.2.2.2.2.2.1
theorem dX11_read_131 : decode cX11_read 131 = .ok (.iload_n 3, 1) := dg_cX11_read_231.2.2.2.2.2.2.2.2.2.2.1
theorem dX11_read_132 : decode cX11_read 132 = .ok (.iadd, 1) := dg_cX11_read_231.2.2.2.2.2.2.2.2.2.2.2.1
theorem dX11_read_133 : decode cX11_read 133 = .ok (.iload 8, 2) := dg_cX11_read_231.2.2.2.2.2.2.2.2.2.2.2.2.1
theorem dX11_read_135 : decode cX11_read 135 = .ok (.iadd, 1) := dg_cX11_read_231.2.2.2.2.2.2.2.2.2.2.2.2.2.1
theorem dX11_read_136 : decode cX11_read 136 = .ok (.iaload, 1) := dg_cX11_read_231.2.2.2.2.2.2.2.2.2.2.2.2.2.2.1
theorem dX11_read_137 : decode cX11_read 137 = .ok (.invokevirtual 315, 3) := dg_cX11_read_231.2.2.2.2.2.2.2.2.2.2.2.2.2.2.2
set_option maxRecDepth 100000 in
theorem dg_cX11_read_232 : (decode cX11_read 140 = .ok (.istore 11, 2)) ∧ (decode cX11_read 142 = .ok (.iload 11, 2)) ∧ (decode cX11_read 144 = .ok (.ifCond .ge 29, 3)) ∧ (decode cX11_read 147 = .ok (.aload_n 0, 1)) ∧ (decode cX11_read 148 = .ok (.getfield 7, 3)) ∧ (decode cX11_read 151 = .ok (.bipush 66, 2)) ∧ (decode cX11_read 153 = .ok (.iload 5, 2)) ∧ (decode cX11_read 155 = .ok (.iastore, 1)) ∧ (decode cX11_read 156 = .ok (.iload 11, 2)) ∧ (decode cX11_read 158 = .ok (.iconst (-1), 1)) ∧ (decode cX11_read 159 = .ok (.if_icmp .ne 11, 3)) ∧ (decode cX11_read 162 = .ok (.bipush (-20), 2)) ∧ (decode cX11_read 164 = .ok (.iload 8, 2)) ∧ (decode cX11_read 166 = .ok (.isub, 1)) ∧ (decode cX11_read 167 = .ok (.goto 5, 3)) ∧ (decode cX11_read 170 = .ok (.bipush (-3), 2)) := by decide +kernel
theorem dX11_read_140 : decode cX11_read 140 = .ok (.istore 11, 2) := dg_cX11_read_232.1
theorem dX11_read_142 : decode cX11_read 142 = .ok (.iload 11, 2) := dg_cX11_read_232.2.1
theorem dX11_read_144 : decode cX11_read 144 = .ok (.ifCond .ge 29, 3) := dg_cX11_read_232.2.2.1
theorem dX11_read_147 : decode cX11_read 147 = .ok (.aload_n 0, 1) := dg_cX11_read_232.2.2.2.1
theorem dX11_read_148 : decode cX11_read 148 = .ok (.getfield 7, 3) := dg_cX11_read_232.2.2.2.2.1
theorem dX11_read_151 : decode cX11_read 151 = .ok (.bipush 66, 2) := dg_cX11_read_232.2.2.2.2.2.1
theorem dX11_read_153 : decode cX11_read 153 = .ok (.iload 5, 2) := dg_cX11_read_232.2.2.2.2.2.2.1
theorem dX11_read_155 : decode cX11_read 155 = .ok (.iastore, 1) := dg_cX11_read_232.2.2.2.2.2.2.2.1
theorem dX11_read_156 : decode cX11_read 156 = .ok (.iload 11, 2) := dg_cX11_read_232.2.2.2.2.2.2.2.2.1
theorem dX11_read_158 : decode cX11_read 158 = .ok (.iconst (-1), 1) := dg_cX11_read_232.2.2.2.2.2.2.2.2.2.1
theorem dX11_read_159 : decode cX11_read 159 = .ok (.if_icmp .ne 11, 3) := dg_cX11_read_232.2.2.2.2.2.2.2.2.2.2.1
theorem dX11_read_162 : decode cX11_read 162 = .ok (.bipush (-20), 2) := dg_cX11_read_232.2.2.2.2.2.2.2.2.2.2.2.1
theorem dX11_read_164 : decode cX11_read 164 = .ok (.iload 8, 2) := dg_cX11_read_232.2.2.2.2.2.2.2.2.2.2.2.2.1
theorem dX11_read_166 : decode cX11_read 166 = .ok (.isub, 1) := dg_cX11_read_232.2.2.2.2.2.2.2.2.2.2.2.2.2.1
theorem dX11_read_167 : decode cX11_read 167 = .ok (.goto 5, 3) := dg_cX11_read_232.2.2.2.2.2.2.2.2.2.2.2.2.2.2.1
theorem dX11_read_170 : decode cX11_read 170 = .ok (.bipush (-3), 2) := dg_cX11_read_232.2.2.2.2.2.2.2.2.2.2.2.2.2.2.2
set_option maxRecDepth 100000 in
theorem dg_cX11_read_233 : (decode cX11_read 172 = .ok (.ireturn, 1)) ∧ (decode cX11_read 173 = .ok (.iinc 7 1, 3)) ∧ (decode cX11_read 176 = .ok (.iinc 8 1, 3)) ∧ (decode cX11_read 179 = .ok (.goto (-138), 3)) ∧ (decode cX11_read 182 = .ok (.aload_n 0, 1)) ∧ (decode cX11_read 183 = .ok (.iload 6, 2)) ∧ (decode cX11_read 185 = .ok (.putfield 318, 3)) ∧ (decode cX11_read 188 = .ok (.iload 7, 2)) ∧ (decode cX11_read 190 = .ok (.ireturn, 1)) := by decide +kernel
theorem dX11_read_172 : decode cX11_read 172 = .ok (.ireturn, 1) := dg_cX11_read_233.1
theorem dX11_read_173 : decode cX11_read 173 = .ok (.iinc 7 1, 3) := dg_cX11_read_233.2.1
theorem dX11_read_176 : decode cX11_read 176 = .ok (.iinc 8 1, 3) := dg_cX11_read_233.2.2.1
theorem dX11_read_179 : decode cX11_read 179 = .ok (.goto (-138), 3) := dg_cX11_read_233.2.2.2.1
theorem dX11_read_182 : decode cX11_read 182 = .ok (.aload_n 0, 1) := dg_cX11_read_233.2.2.2.2.1
theorem dX11_read_183 : decode cX11_read 183 = .ok (.iload 6, 2) := dg_cX11_read_233.2.2.2.2.2.1
theorem dX11_read_185 : decode cX11_read 185 = .ok (.putfield 318, 3) := dg_cX11_read_233.2.2.2.2.2.2.1
theorem dX11_read_188 : decode cX11_read 188 = .ok (.iload 7, 2) := dg_cX11_read_233.2.2.2.2.2.2.2.1
theorem dX11_read_190 : decode cX11_read 190 = .ok (.ireturn, 1) := dg_cX11_read_233.2.2.2.2.2.2.2.2
set_option maxRecDepth 100000 in
theorem dg_cX11_torn_234 : (decode cX11_torn 0 = .ok (.aload_n 0, 1)) ∧ (decode cX11_torn 1 = .ok (.getfield 318, 3)) ∧ (decode cX11_torn 4 = .ok (.ireturn, 1)) := by decide +kernel
theorem dX11_torn_0 : decode cX11_torn 0 = .ok (.aload_n 0, 1) := dg_cX11_torn_234.1
theorem dX11_torn_1 : decode cX11_torn 1 = .ok (.getfield 318, 3) := dg_cX11_torn_234.2.1
theorem dX11_torn_4 : decode cX11_torn 4 = .ok (.ireturn, 1) := dg_cX11_torn_234.2.2
set_option maxRecDepth 100000 in
theorem dg_cX11_count_235 : (decode cX11_count 0 = .ok (.iconst 0, 1)) ∧ (decode cX11_count 1 = .ok (.istore_n 2, 1)) ∧ (decode cX11_count 2 = .ok (.iconst 0, 1)) ∧ (decode cX11_count 3 = .ok (.istore_n 3, 1)) ∧ (decode cX11_count 4 = .ok (.iload_n 3, 1)) ∧ (decode cX11_count 5 = .ok (.aload_n 0, 1)) ∧ (decode cX11_count 6 = .ok (.getfield 75, 3)) ∧ (decode cX11_count 9 = .ok (.if_icmp .ge 24, 3)) ∧ (decode cX11_count 12 = .ok (.iload_n 2, 1)) ∧ (decode cX11_count 13 = .ok (.aload_n 0, 1)) ∧ (decode cX11_count 14 = .ok (.getfield 7, 3)) ∧ (decode cX11_count 17 = .ok (.bipush 60, 2)) ∧ (decode cX11_count 19 = .ok (.iload_n 3, 1)) ∧ (decode cX11_count 20 = .ok (.iadd, 1)) ∧ (decode cX11_count 21 = .ok (.iaload, 1)) ∧ (decode cX11_count 22 = .ok (.invokestatic 266, 3)) := by decide +kernel
theorem dX11_count_0 : decode cX11_count 0 = .ok (.iconst 0, 1) := dg_cX11_count_235.1
theorem dX11_count_1 : decode cX11_count 1 = .ok (.istore_n 2, 1) := dg_cX11_count_235.2.1
theorem dX11_count_2 : decode cX11_count 2 = .ok (.iconst 0, 1) := dg_cX11_count_235.2.2.1
theorem dX11_count_3 : decode cX11_count 3 = .ok (.istore_n 3, 1) := dg_cX11_count_235.2.2.2.1
theorem dX11_count_4 : decode cX11_count 4 = .ok (.iload_n 3, 1) := dg_cX11_count_235.2.2.2.2.1
theorem dX11_count_5 : decode cX11_count 5 = .ok (.aload_n 0, 1) := dg_cX11_count_235.2.2.2.2.2.1
theorem dX11_count_6 : decode cX11_count 6 = .ok (.getfield 75, 3) := dg_cX11_count_235.2.2.2.2.2.2.1
theorem dX11_count_9 : decode cX11_count 9 = .ok (.if_icmp .ge 24, 3) := dg_cX11_count_235.2.2.2.2.2.2.2.1
theorem dX11_count_12 : decode cX11_count 12 = .ok (.iload_n 2, 1) := dg_cX11_count_235.2.2.2.2.2.2.2.2.1
theorem dX11_count_13 : decode cX11_count 13 = .ok (.aload_n 0, 1) := dg_cX11_count_235.2.2.2.2.2.2.2.2.2.1
theorem dX11_count_14 : decode cX11_count 14 = .ok (.getfield 7, 3) := dg_cX11_count_235.2.2.2.2.2.2.2.2.2.2.1
theorem dX11_count_17 : decode cX11_count 17 = .ok (.bipush 60, 2) := dg_cX11_count_235.2.2.2.2.2.2.2.2.2.2.2.1
theorem dX11_count_19 : decode cX11_count 19 = .ok (.iload_n 3, 1) := dg_cX11_count_235.2.2.2.2.2.2.2.2.2.2.2.2.1
theorem dX11_count_20 : decode cX11_count 20 = .ok (.iadd, 1) := dg_cX11_count_235.2.2.2.2.2.2.2.2.2.2.2.2.2.1
theorem dX11_count_21 : decode cX11_count 21 = .ok (.iaload, 1) := dg_cX11_count_235.2.2.2.2.2.2.2.2.2.2.2.2.2.2.1
theorem dX11_count_22 : decode cX11_count 22 = .ok (.invokestatic 266, 3) := dg_cX11_count_235.2.2.2.2.2.2.2.2.2.2.2.2.2.2.2
set_option maxRecDepth 100000 in
theorem dg_cX11_count_236 : (decode cX11_count 25 = .ok (.iadd, 1)) ∧ (decode cX11_count 26 = .ok (.istore_n 2, 1)) ∧ (decode cX11_count 27 = .ok (.iinc 3 1, 3)) ∧ (decode cX11_count 30 = .ok (.goto (-26), 3)) ∧ (decode cX11_count 33 = .ok (.iload_n 1, 1)) ∧ (decode cX11_count 34 = .ok (.tableswitch 112 0 6 #[42, 47, 52, 56, 64, 84, 89], 42)) ∧ (decode cX11_count 76 = .ok (.aload_n 0, 1)) ∧ (decode cX11_count 77 = .ok (.getfield 81, 3)) ∧ (decode cX11_count 80 = .ok (.ireturn, 1)) ∧ (decode cX11_count 81 = .ok (.aload_n 0, 1)) ∧ (decode cX11_count 82 = .ok (.getfield 84, 3)) ∧ (decode cX11_count 85 = .ok (.ireturn, 1)) ∧ (decode cX11_count 86 = .ok (.iload_n 2, 1)) ∧ (decode cX11_count 87 = .ok (.iconst 2, 1)) ∧ (decode cX11_count 88 = .ok (.idiv, 1)) ∧ (decode cX11_count 89 = .ok (.ireturn, 1)) := by decide +kernel
theorem dX11_count_25 : decode cX11_count 25 = .ok (.iadd, 1) := dg_cX11_count_236.1
theorem dX11_count_26 : decode cX11_count 26 = .ok (.istore_n 2, 1) := dg_cX11_count_236.2.1
theorem dX11_count_27 : decode cX11_count 27 = .ok (.iinc 3 1, 3) := dg_cX11_count_236.2.2.1
theorem dX11_count_30 : decode cX11_count 30 = .ok (.goto (-26), 3) := dg_cX11_count_236.2.2.2.1
theorem dX11_count_33 : decode cX11_count 33 = .ok (.iload_n 1, 1) := dg_cX11_count_236.2.2.2.2.1
theorem dX11_count_34 : decode cX11_count 34 = .ok (.tableswitch 112 0 6 #[42, 47, 52, 56, 64, 84, 89], 42) := dg_cX11_count_236.2.2.2.2.2.1
theorem dX11_count_76 : decode cX11_count 76 = .ok (.aload_n 0, 1) := dg_cX11_count_236.2.2.2.2.2.2.1
theorem dX11_count_77 : decode cX11_count 77 = .ok (.getfield 81, 3) := dg_cX11_count_236.2.2.2.2.2.2.2.1
theorem dX11_count_80 : decode cX11_count 80 = .ok (.ireturn, 1) := dg_cX11_count_236.2.2.2.2.2.2.2.2.1
theorem dX11_count_81 : decode cX11_count 81 = .ok (.aload_n 0, 1) := dg_cX11_count_236.2.2.2.2.2.2.2.2.2.1
theorem dX11_count_82 : decode cX11_count 82 = .ok (.getfield 84, 3) := dg_cX11_count_236.2.2.2.2.2.2.2.2.2.2.1
theorem dX11_count_85 : decode cX11_count 85 = .ok (.ireturn, 1) := dg_cX11_count_236.2.2.2.2.2.2.2.2.2.2.2.1
theorem dX11_count_86 : decode cX11_count 86 = .ok (.iload_n 2, 1) := dg_cX11_count_236.2.2.2.2.2.2.2.2.2.2.2.2.1
theorem dX11_count_87 : decode cX11_count 87 = .ok (.iconst 2, 1) := dg_cX11_count_236.2.2.2.2.2.2.2.2.2.2.2.2.2.1
theorem dX11_count_88 : decode cX11_count 88 = .ok (.idiv, 1) := dg_cX11_count_236.2.2.2.2.2.2.2.2.2.2.2.2.2.2.1
theorem dX11_count_89 : decode cX11_count 89 = .ok (.ireturn, 1) := dg_cX11_count_236.2.2.2.2.2.2.2.2.2.2.2.2.2.2.2
set_option maxRecDepth 100000 in
theorem dg_cX11_count_237 : (decode cX11_count 90 = .ok (.aload_n 0, 1)) ∧ (decode cX11_count 91 = .ok (.getfield 7, 3)) ∧ (decode cX11_count 94 = .ok (.bipush 66, 2)) ∧ (decode cX11_count 96 = .ok (.iaload, 1)) ∧ (decode cX11_count 97 = .ok (.ireturn, 1)) ∧ (decode cX11_count 98 = .ok (.aload_n 0, 1)) ∧ (decode cX11_count 99 = .ok (.getfield 13, 3)) ∧ (decode cX11_count 102 = .ok (.iconst 0, 1)) ∧ (decode cX11_count 103 = .ok (.baload, 1)) ∧ (decode cX11_count 104 = .ok (.invokestatic 191, 3)) ∧ (decode cX11_count 107 = .ok (.aload_n 0, 1)) ∧ (decode cX11_count 108 = .ok (.getfield 13, 3)) ∧ (decode cX11_count 111 = .ok (.iconst 1, 1)) ∧ (decode cX11_count 112 = .ok (.baload, 1)) ∧ (decode cX11_count 113 = .ok (.invokestatic 191, 3)) ∧ (decode cX11_count 116 = .ok (.iadd, 1)) := by decide +kernel
theorem dX11_count_90 : decode cX11_count 90 = .ok (.aload_n 0, 1) := dg_cX11_count_237.1
theorem dX11_count_91 : decode cX11_count 91 = .ok (.getfield 7, 3) := dg_cX11_count_237.2.1
theorem dX11_count_94 : decode cX11_count 94 = .ok (.bipush 66, 2) := dg_cX11_count_237.2.2.1
theorem dX11_count_96 : decode cX11_count 96 = .ok (.iaload, 1) := dg_cX11_count_237.2.2.2.1
theorem dX11_count_97 : decode cX11_count 97 = .ok (.ireturn, 1) := dg_cX11_count_237.2.2.2.2.1
theorem dX11_count_98 : decode cX11_count 98 = .ok (.aload_n 0, 1) := dg_cX11_count_237.2.2.2.2.2.1
theorem dX11_count_99 : decode cX11_count 99 = .ok (.getfield 13, 3) := dg_cX11_count_237.2.2.2.2.2.2.1
theorem dX11_count_102 : decode cX11_count 102 = .ok (.iconst 0, 1) := dg_cX11_count_237.2.2.2.2.2.2.2.1
theorem dX11_count_103 : decode cX11_count 103 = .ok (.baload, 1) := dg_cX11_count_237.2.2.2.2.2.2.2.2.1
theorem dX11_count_104 : decode cX11_count 104 = .ok (.invokestatic 191, 3) := dg_cX11_count_237.2.2.2.2.2.2.2.2.2.1
theorem dX11_count_107 : decode cX11_count 107 = .ok (.aload_n 0, 1) := dg_cX11_count_237.2.2.2.2.2.2.2.2.2.2.1
theorem dX11_count_108 : decode cX11_count 108 = .ok (.getfield 13, 3) := dg_cX11_count_237.2.2.2.2.2.2.2.2.2.2.2.1
theorem dX11_count_111 : decode cX11_count 111 = .ok (.iconst 1, 1) := dg_cX11_count_237.2.2.2.2.2.2.2.2.2.2.2.2.1
theorem dX11_count_112 : decode cX11_count 112 = .ok (.baload, 1) := dg_cX11_count_237.2.2.2.2.2.2.2.2.2.2.2.2.2.1
theorem dX11_count_113 : decode cX11_count 113 = .ok (.invokestatic 191, 3) := dg_cX11_count_237.2.2.2.2.2.2.2.2.2.2.2.2.2.2.1
theorem dX11_count_116 : decode cX11_count 116 = .ok (.iadd, 1) := dg_cX11_count_237.2.2.2.2.2.2.2.2.2.2.2.2.2.2.2
set_option maxRecDepth 100000 in
theorem dg_cX11_count_238 : (decode cX11_count 117 = .ok (.ireturn, 1)) ∧ (decode cX11_count 118 = .ok (.aload_n 0, 1)) ∧ (decode cX11_count 119 = .ok (.getfield 87, 3)) ∧ (decode cX11_count 122 = .ok (.ireturn, 1)) ∧ (decode cX11_count 123 = .ok (.aload_n 0, 1)) ∧ (decode cX11_count 124 = .ok (.getfield 38, 3)) ∧ (decode cX11_count 127 = .ok (.iconst 0, 1)) ∧ (decode cX11_count 128 = .ok (.iaload, 1)) ∧ (decode cX11_count 129 = .ok (.bipush (-4), 2)) ∧ (decode cX11_count 131 = .ok (.if_icmp .ne 8, 3)) ∧ (decode cX11_count 134 = .ok (.bipush (-4), 2)) ∧ (decode cX11_count 136 = .ok (.goto 9, 3)) ∧ (decode cX11_count 139 = .ok (.aload_n 0, 1)) ∧ (decode cX11_count 140 = .ok (.getfield 41, 3)) ∧ (decode cX11_count 143 = .ok (.iconst 0, 1)) ∧ (decode cX11_count 144 = .ok (.iaload, 1)) := by decide +kernel
theorem dX11_count_117 : decode cX11_count 117 = .ok (.ireturn, 1) := dg_cX11_count_238.1
theorem dX11_count_118 : decode cX11_count 118 = .ok (.aload_n 0, 1) := dg_cX11_count_238.2.1
theorem dX11_count_119 : decode cX11_count 119 = .ok (.getfield 87, 3) := dg_cX11_count_238.2.2.1
theorem dX11_count_122 : decode cX11_count 122 = .ok (.ireturn, 1) := dg_cX11_count_238.2.2.2.1
theorem dX11_count_123 : decode cX11_count 123 = .ok (.aload_n 0, 1) := dg_cX11_count_238.2.2.2.2.1
theorem dX11_count_124 : decode cX11_count 124 = .ok (.getfield 38, 3) := dg_cX11_count_238.2.2.2.2.2.1
theorem dX11_count_127 : decode cX11_count 127 = .ok (.iconst 0, 1) := dg_cX11_count_238.2.2.2.2.2.2.1
theorem dX11_count_128 : decode cX11_count 128 = .ok (.iaload, 1) := dg_cX11_count_238.2.2.2.2.2.2.2.1
theorem dX11_count_129 : decode cX11_count 129 = .ok (.bipush (-4), 2) := dg_cX11_count_238.2.2.2.2.2.2.2.2.1
theorem dX11_count_131 : decode cX11_count 131 = .ok (.if_icmp .ne 8, 3) := dg_cX11_count_238.2.2.2.2.2.2.2.2.2.1
theorem dX11_count_134 : decode cX11_count 134 = .ok (.bipush (-4), 2) := dg_cX11_count_238.2.2.2.2.2.2.2.2.2.2.1
theorem dX11_count_136 : decode cX11_count 136 = .ok (.goto 9, 3) := dg_cX11_count_238.2.2.2.2.2.2.2.2.2.2.2.1
theorem dX11_count_139 : decode cX11_count 139 = .ok (.aload_n 0, 1) := dg_cX11_count_238.2.2.2.2.2.2.2.2.2.2.2.2.1
theorem dX11_count_140 : decode cX11_count 140 = .ok (.getfield 41, 3) := dg_cX11_count_238.2.2.2.2.2.2.2.2.2.2.2.2.2.1
theorem dX11_count_143 : decode cX11_count 143 = .ok (.iconst 0, 1) := dg_cX11_count_238.2.2.2.2.2.2.2.2.2.2.2.2.2.2.1
theorem dX11_count_144 : decode cX11_count 144 = .ok (.iaload, 1) := dg_cX11_count_238.2.2.2.2.2.2.2.2.2.2.2.2.2.2.2
set_option maxRecDepth 100000 in
theorem dg_cX11_count_239 : (decode cX11_count 145 = .ok (.ireturn, 1)) ∧ (decode cX11_count 146 = .ok (.iconst (-1), 1)) ∧ (decode cX11_count 147 = .ok (.ireturn, 1)) := by decide +kernel
theorem dX11_count_145 : decode cX11_count 145 = .ok (.ireturn, 1) := dg_cX11_count_239.1
theorem dX11_count_146 : decode cX11_count 146 = .ok (.iconst (-1), 1) := dg_cX11_count_239.2.1
theorem dX11_count_147 : decode cX11_count 147 = .ok (.ireturn, 1) := dg_cX11_count_239.2.2
