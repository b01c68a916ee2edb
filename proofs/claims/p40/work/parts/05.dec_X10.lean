set_option maxRecDepth 100000 in
theorem dg_cX10_init_0 : (decode cX10_init 0 = .ok (.aload_n 0, 1)) ∧ (decode cX10_init 1 = .ok (.invokespecial 3, 3)) ∧ (decode cX10_init 4 = .ok (.aload_n 0, 1)) ∧ (decode cX10_init 5 = .ok (.new 9, 3)) ∧ (decode cX10_init 8 = .ok (.dup, 1)) ∧ (decode cX10_init 9 = .ok (.invokespecial 11, 3)) ∧ (decode cX10_init 12 = .ok (.putfield 12, 3)) ∧ (decode cX10_init 15 = .ok (.aload_n 0, 1)) ∧ (decode cX10_init 16 = .ok (.new 16, 3)) ∧ (decode cX10_init 19 = .ok (.dup, 1)) ∧ (decode cX10_init 20 = .ok (.aload_n 0, 1)) ∧ (decode cX10_init 21 = .ok (.getfield 12, 3)) ∧ (decode cX10_init 24 = .ok (.invokespecial 18, 3)) ∧ (decode cX10_init 27 = .ok (.putfield 21, 3)) ∧ (decode cX10_init 30 = .ok (.aload_n 0, 1)) ∧ (decode cX10_init 31 = .ok (.new 25, 3)) := by decide +kernel
theorem dX10_init_0 : decode cX10_init 0 = .ok (.aload_n 0, 1) := dg_cX10_init_0.1
theorem dX10_init_1 : decode cX10_init 1 = .ok (.invokespecial 3, 3) := dg_cX10_init_0.2.1
theorem dX10_init_4 : decode cX10_init 4 = .ok (.aload_n 0, 1) := dg_cX10_init_0.2.2.1
theorem dX10_init_5 : decode cX10_init 5 = .ok (.new 9, 3) := dg_cX10_init_0.2.2.2.1
theorem dX10_init_8 : decode cX10_init 8 = .ok (.dup, 1) := dg_cX10_init_0.2.2.2.2.1
theorem dX10_init_9 : decode cX10_init 9 = .ok (.invokespecial 11, 3) := dg_cX10_init_0.2.2.2.2.2.1
theorem dX10_init_12 : decode cX10_init 12 = .ok (.putfield 12, 3) := dg_cX10_init_0.2.2.2.2.2.2.1
theorem dX10_init_15 : decode cX10_init 15 = .ok (.aload_n 0, 1) := dg_cX10_init_0.2.2.2.2.2.2.2.1
theorem dX10_init_16 : decode cX10_init 16 = .ok (.new 16, 3) := dg_cX10_init_0.2.2.2.2.2.2.2.2.1
theorem dX10_init_19 : decode cX10_init 19 = .ok (.dup, 1) := dg_cX10_init_0.2.2.2.2.2.2.2.2.2.1
theorem dX10_init_20 : decode cX10_init 20 = .ok (.aload_n 0, 1) := dg_cX10_init_0.2.2.2.2.2.2.2.2.2.2.1
theorem dX10_init_21 : decode cX10_init 21 = .ok (.getfield 12, 3) := dg_cX10_init_0.2.2.2.2.2.2.2.2.2.2.2.1
theorem dX10_init_24 : decode cX10_init 24 = .ok (.invokespecial 18, 3) := dg_cX10_init_0.2.2.2.2.2.2.2.2.2.2.2.2.1
theorem dX10_init_27 : decode cX10_init 27 = .ok (.putfield 21, 3) := dg_cX10_init_0.2.2.2.2.2.2.2.2.2.2.2.2.2.1
theorem dX10_init_30 : decode cX10_init 30 = .ok (.aload_n 0, 1) := dg_cX10_init_0.2.2.2.2.2.2.2.2.2.2.2.2.2.2.1
theorem dX10_init_31 : decode cX10_init 31 = .ok (.new 25, 3) := dg_cX10_init_0.2.2.2.2.2.2.2.2.2.2.2.2.2.2.2
set_option maxRecDepth 100000 in
theorem dg_cX10_init_1 : (decode cX10_init 34 = .ok (.dup, 1)) ∧ (decode cX10_init 35 = .ok (.invokespecial 27, 3)) ∧ (decode cX10_init 38 = .ok (.putfield 28, 3)) ∧ (decode cX10_init 41 = .ok (.aload_n 0, 1)) ∧ (decode cX10_init 42 = .ok (.aload_n 0, 1)) ∧ (decode cX10_init 43 = .ok (.getfield 28, 3)) ∧ (decode cX10_init 46 = .ok (.getfield 32, 3)) ∧ (decode cX10_init 49 = .ok (.putfield 36, 3)) ∧ (decode cX10_init 52 = .ok (.aload_n 0, 1)) ∧ (decode cX10_init 53 = .ok (.new 37, 3)) ∧ (decode cX10_init 56 = .ok (.dup, 1)) ∧ (decode cX10_init 57 = .ok (.aload_n 0, 1)) ∧ (decode cX10_init 58 = .ok (.getfield 28, 3)) ∧ (decode cX10_init 61 = .ok (.invokespecial 39, 3)) ∧ (decode cX10_init 64 = .ok (.putfield 42, 3)) ∧ (decode cX10_init 67 = .ok (.aload_n 0, 1)) := by decide +kernel
theorem dX10_init_34 : decode cX10_init 34 = .ok (.dup, 1) := dg_cX10_init_1.1
theorem dX10_init_35 : decode cX10_init 35 = .ok (.invokespecial 27, 3) := dg_cX10_init_1.2.1
theorem dX10_init_38 : decode cX10_init 38 = .ok (.putfield 28, 3) := dg_cX10_init_1.2.2.1
theorem dX10_init_41 : decode cX10_init 41 = .ok (.aload_n 0, 1) := dg_cX10_init_1.2.2.2.1
theorem dX10_init_42 : decode cX10_init 42 = .ok (.aload_n 0, 1) := dg_cX10_init_1.2.2.2.2.1
theorem dX10_init_43 : decode cX10_init 43 = .ok (.getfield 28, 3) := dg_cX10_init_1.2.2.2.2.2.1
theorem dX10_init_46 : decode cX10_init 46 = .ok (.getfield 32, 3) := dg_cX10_init_1.2.2.2.2.2.2.1
theorem dX10_init_49 : decode cX10_init 49 = .ok (.putfield 36, 3) := dg_cX10_init_1.2.2.2.2.2.2.2.1
theorem dX10_init_52 : decode cX10_init 52 = .ok (.aload_n 0, 1) := dg_cX10_init_1.2.2.2.2.2.2.2.2.1
theorem dX10_init_53 : decode cX10_init 53 = .ok (.new 37, 3) := dg_cX10_init_1.2.2.2.2.2.2.2.2.2.1
theorem dX10_init_56 : decode cX10_init 56 = .ok (.dup, 1) := dg_cX10_init_1.2.2.2.2.2.2.2.2.2.2.1
theorem dX10_init_57 : decode cX10_init 57 = .ok (.aload_n 0, 1) := dg_cX10_init_1.2.2.2.2.2.2.2.2.2.2.2.1
theorem dX10_init_58 : decode cX10_init 58 = .ok (.getfield 28, 3) := dg_cX10_init_1.2.2.2.2.2.2.2.2.2.2.2.2.1
theorem dX10_init_61 : decode cX10_init 61 = .ok (.invokespecial 39, 3) := dg_cX10_init_1.2.2.2.2.2.2.2.2.2.2.2.2.2.1
theorem dX10_init_64 : decode cX10_init 64 = .ok (.putfield 42, 3) := dg_cX10_init_1.2.2.2.2.2.2.2.2.2.2.2.2.2.2.1
theorem dX10_init_67 : decode cX10_init 67 = .ok (.aload_n 0, 1) := dg_cX10_init_1.2.2.2.2.2.2.2.2.2.2.2.2.2.2.2
set_option maxRecDepth 100000 in
theorem dg_cX10_init_2 : (decode cX10_init 68 = .ok (.new 46, 3)) ∧ (decode cX10_init 71 = .ok (.dup, 1)) ∧ (decode cX10_init 72 = .ok (.aload_n 0, 1)) ∧ (decode cX10_init 73 = .ok (.getfield 28, 3)) ∧ (decode cX10_init 76 = .ok (.aload_n 0, 1)) ∧ (decode cX10_init 77 = .ok (.getfield 42, 3)) ∧ (decode cX10_init 80 = .ok (.invokespecial 48, 3)) ∧ (decode cX10_init 83 = .ok (.putfield 51, 3)) ∧ (decode cX10_init 86 = .ok (.aload_n 0, 1)) ∧ (decode cX10_init 87 = .ok (.new 55, 3)) ∧ (decode cX10_init 90 = .ok (.dup, 1)) ∧ (decode cX10_init 91 = .ok (.aload_n 0, 1)) ∧ (decode cX10_init 92 = .ok (.getfield 28, 3)) ∧ (decode cX10_init 95 = .ok (.aload_n 0, 1)) ∧ (decode cX10_init 96 = .ok (.getfield 42, 3)) ∧ (decode cX10_init 99 = .ok (.invokespecial 57, 3)) := by decide +kernel
theorem dX10_init_68 : decode cX10_init 68 = .ok (.new 46, 3) := dg_cX10_init_2.1
theorem dX10_init_71 : decode cX10_init 71 = .ok (.dup, 1) := dg_cX10_init_2.2.1
theorem dX10_init_72 : decode cX10_init 72 = .ok (.aload_n 0, 1) := dg_cX10_init_2.2.2.1
theorem dX10_init_73 : decode cX10_init 73 = .ok (.getfield 28, 3) := dg_cX10_init_2.2.2.2.1
theorem dX10_init_76 : decode cX10_init 76 = .ok (.aload_n 0, 1) := dg_cX10_init_2.2.2.2.2.1
theorem dX10_init_77 : decode cX10_init 77 = .ok (.getfield 42, 3) := dg_cX10_init_2.2.2.2.2.2.1
theorem dX10_init_80 : decode cX10_init 80 = .ok (.invokespecial 48, 3) := dg_cX10_init_2.2.2.2.2.2.2.1
theorem dX10_init_83 : decode cX10_init 83 = .ok (.putfield 51, 3) := dg_cX10_init_2.2.2.2.2.2.2.2.1
theorem dX10_init_86 : decode cX10_init 86 = .ok (.aload_n 0, 1) := dg_cX10_init_2.2.2.2.2.2.2.2.2.1
theorem dX10_init_87 : decode cX10_init 87 = .ok (.new 55, 3) := dg_cX10_init_2.2.2.2.2.2.2.2.2.2.1
theorem dX10_init_90 : decode cX10_init 90 = .ok (.dup, 1) := dg_cX10_init_2.2.2.2.2.2.2.2.2.2.2.1
theorem dX10_init_91 : decode cX10_init 91 = .ok (.aload_n 0, 1) := dg_cX10_init_2.2.2.2.2.2.2.2.2.2.2.2.1
theorem dX10_init_92 : decode cX10_init 92 = .ok (.getfield 28, 3) := dg_cX10_init_2.2.2.2.2.2.2.2.2.2.2.2.2.1
theorem dX10_init_95 : decode cX10_init 95 = .ok (.aload_n 0, 1) := dg_cX10_init_2.2.2.2.2.2.2.2.2.2.2.2.2.2.1
theorem dX10_init_96 : decode cX10_init 96 = .ok (.getfield 42, 3) := dg_cX10_init_2.2.2.2.2.2.2.2.2.2.2.2.2.2.2.1
theorem dX10_init_99 : decode cX10_init 99 = .ok (.invokespecial 57, 3) := dg_cX10_init_2.2.2.2.2.2.2.2.2.2.2.2.2.2.2.2
set_option maxRecDepth 100000 in
theorem dg_cX10_init_3 : (decode cX10_init 102 = .ok (.putfield 58, 3)) ∧ (decode cX10_init 105 = .ok (.aload_n 0, 1)) ∧ (decode cX10_init 106 = .ok (.new 62, 3)) ∧ (decode cX10_init 109 = .ok (.dup, 1)) ∧ (decode cX10_init 110 = .ok (.aload_n 0, 1)) ∧ (decode cX10_init 111 = .ok (.getfield 28, 3)) ∧ (decode cX10_init 114 = .ok (.invokespecial 64, 3)) ∧ (decode cX10_init 117 = .ok (.putfield 65, 3)) ∧ (decode cX10_init 120 = .ok (.aload_n 0, 1)) ∧ (decode cX10_init 121 = .ok (.new 69, 3)) ∧ (decode cX10_init 124 = .ok (.dup, 1)) ∧ (decode cX10_init 125 = .ok (.aload_n 0, 1)) ∧ (decode cX10_init 126 = .ok (.getfield 28, 3)) ∧ (decode cX10_init 129 = .ok (.invokespecial 71, 3)) ∧ (decode cX10_init 132 = .ok (.putfield 72, 3)) ∧ (decode cX10_init 135 = .ok (.aload_n 0, 1)) := by decide +kernel
theorem dX10_init_102 : decode cX10_init 102 = .ok (.putfield 58, 3) := dg_cX10_init_3.1
theorem dX10_init_105 : decode cX10_init 105 = .ok (.aload_n 0, 1) := dg_cX10_init_3.2.1
theorem dX10_init_106 : decode cX10_init 106 = .ok (.new 62, 3) := dg_cX10_init_3.2.2.1
theorem dX10_init_109 : decode cX10_init 109 = .ok (.dup, 1) := dg_cX10_init_3.2.2.2.1
theorem dX10_init_110 : decode cX10_init 110 = .ok (.aload_n 0, 1) := dg_cX10_init_3.2.2.2.2.1
theorem dX10_init_111 : decode cX10_init 111 = .ok (.getfield 28, 3) := dg_cX10_init_3.2.2.2.2.2.1
theorem dX10_init_114 : decode cX10_init 114 = .ok (.invokespecial 64, 3) := dg_cX10_init_3.2.2.2.2.2.2.1
theorem dX10_init_117 : decode cX10_init 117 = .ok (.putfield 65, 3) := dg_cX10_init_3.2.2.2.2.2.2.2.1
theorem dX10_init_120 : decode cX10_init 120 = .ok (.aload_n 0, 1) := dg_cX10_init_3.2.2.2.2.2.2.2.2.1
theorem dX10_init_121 : decode cX10_init 121 = .ok (.new 69, 3) := dg_cX10_init_3.2.2.2.2.2.2.2.2.2.1
theorem dX10_init_124 : decode cX10_init 124 = .ok (.dup, 1) := dg_cX10_init_3.2.2.2.2.2.2.2.2.2.2.1
theorem dX10_init_125 : decode cX10_init 125 = .ok (.aload_n 0, 1) := dg_cX10_init_3.2.2.2.2.2.2.2.2.2.2.2.1
theorem dX10_init_126 : decode cX10_init 126 = .ok (.getfield 28, 3) := dg_cX10_init_3.2.2.2.2.2.2.2.2.2.2.2.2.1
theorem dX10_init_129 : decode cX10_init 129 = .ok (.invokespecial 71, 3) := dg_cX10_init_3.2.2.2.2.2.2.2.2.2.2.2.2.2.1
theorem dX10_init_132 : decode cX10_init 132 = .ok (.putfield 72, 3) := dg_cX10_init_3.2.2.2.2.2.2.2.2.2.2.2.2.2.2.1
theorem dX10_init_135 : decode cX10_init 135 = .ok (.aload_n 0, 1) := dg_cX10_init_3.2.2.2.2.2.2.2.2.2.2.2.2.2.2.2
set_option maxRecDepth 100000 in
theorem dg_cX10_init_4 : (decode cX10_init 136 = .ok (.iconst 2, 1)) ∧ (decode cX10_init 137 = .ok (.anewarray 76, 3)) ∧ (decode cX10_init 140 = .ok (.putfield 78, 3)) ∧ (decode cX10_init 143 = .ok (.aload_n 0, 1)) ∧ (decode cX10_init 144 = .ok (.iconst 2, 1)) ∧ (decode cX10_init 145 = .ok (.newarray .boolean, 2)) ∧ (decode cX10_init 147 = .ok (.putfield 82, 3)) ∧ (decode cX10_init 150 = .ok (.aload_n 0, 1)) ∧ (decode cX10_init 151 = .ok (.iconst 4, 1)) ∧ (decode cX10_init 152 = .ok (.anewarray 86, 3)) ∧ (decode cX10_init 155 = .ok (.putfield 88, 3)) ∧ (decode cX10_init 158 = .ok (.iconst 0, 1)) ∧ (decode cX10_init 159 = .ok (.istore_n 1, 1)) ∧ (decode cX10_init 160 = .ok (.iload_n 1, 1)) ∧ (decode cX10_init 161 = .ok (.iconst 2, 1)) ∧ (decode cX10_init 162 = .ok (.if_icmp .ge 22, 3)) := by decide +kernel
theorem dX10_init_136 : decode cX10_init 136 = .ok (.iconst 2, 1) := dg_cX10_init_4.1
theorem dX10_init_137 : decode cX10_init 137 = .ok (.anewarray 76, 3) := dg_cX10_init_4.2.1
theorem dX10_init_140 : decode cX10_init 140 = .ok (.putfield 78, 3) := dg_cX10_init_4.2.2.1
theorem dX10_init_143 : decode cX10_init 143 = .ok (.aload_n 0, 1) := dg_cX10_init_4.2.2.2.1
theorem dX10_init_144 : decode cX10_init 144 = .ok (.iconst 2, 1) := dg_cX10_init_4.2.2.2.2.1
theorem dX10_init_145 : decode cX10_init 145 = .ok (.newarray .boolean, 2) := dg_cX10_init_4.2.2.2.2.2.1
theorem dX10_init_147 : decode cX10_init 147 = .ok (.putfield 82, 3) := dg_cX10_init_4.2.2.2.2.2.2.1
theorem dX10_init_150 : decode cX10_init 150 = .ok (.aload_n 0, 1) := dg_cX10_init_4.2.2.2.2.2.2.2.1
theorem dX10_init_151 : decode cX10_init 151 = .ok (.iconst 4, 1) := dg_cX10_init_4.2.2.2.2.2.2.2.2.1
theorem dX10_init_152 : decode cX10_init 152 = .ok (.anewarray 86, 3) := dg_cX10_init_4.2.2.2.2.2.2.2.2.2.1
theorem dX10_init_155 : decode cX10_init 155 = .ok (.putfield 88, 3) := dg_cX10_init_4.2.2.2.2.2.2.2.2.2.2.1
theorem dX10_init_158 : decode cX10_init 158 = .ok (.iconst 0, 1) := dg_cX10_init_4.2.2.2.2.2.2.2.2.2.2.2.1
theorem dX10_init_159 : decode cX10_init 159 = .ok (.istore_n 1, 1) := dg_cX10_init_4.2.2.2.2.2.2.2.2.2.2.2.2.1
theorem dX10_init_160 : decode cX10_init 160 = .ok (.iload_n 1, 1) := dg_cX10_init_4.2.2.2.2.2.2.2.2.2.2.2.2.2.1
theorem dX10_init_161 : decode cX10_init 161 = .ok (.iconst 2, 1) := dg_cX10_init_4.2.2.2.2.2.2.2.2.2.2.2.2.2.2.1
theorem dX10_init_162 : decode cX10_init 162 = .ok (.if_icmp .ge 22, 3) := dg_cX10_init_4.2.2.2.2.2.2.2.2.2.2.2.2.2.2.2
set_option maxRecDepth 100000 in
theorem dg_cX10_init_5 : (decode cX10_init 165 = .ok (.aload_n 0, 1)) ∧ (decode cX10_init 166 = .ok (.getfield 78, 3)) ∧ (decode cX10_init 169 = .ok (.iload_n 1, 1)) ∧ (decode cX10_init 170 = .ok (.new 76, 3)) ∧ (decode cX10_init 173 = .ok (.dup, 1)) ∧ (decode cX10_init 174 = .ok (.invokespecial 92, 3)) ∧ (decode cX10_init 177 = .ok (.aastore, 1)) ∧ (decode cX10_init 178 = .ok (.iinc 1 1, 3)) ∧ (decode cX10_init 181 = .ok (.goto (-21), 3)) ∧ (decode cX10_init 184 = .ok (.iconst 0, 1)) ∧ (decode cX10_init 185 = .ok (.istore_n 1, 1)) ∧ (decode cX10_init 186 = .ok (.iload_n 1, 1)) ∧ (decode cX10_init 187 = .ok (.iconst 4, 1)) ∧ (decode cX10_init 188 = .ok (.if_icmp .ge 22, 3)) ∧ (decode cX10_init 191 = .ok (.aload_n 0, 1)) ∧ (decode cX10_init 192 = .ok (.getfield 88, 3)) := by decide +kernel
theorem dX10_init_165 : decode cX10_init 165 = .ok (.aload_n 0, 1) := dg_cX10_init_5.1
theorem dX10_init_166 : decode cX10_init 166 = .ok (.getfield 78, 3) := dg_cX10_init_5.2.1
theorem dX10_init_169 : decode cX10_init 169 = .ok (.iload_n 1, 1) := dg_cX10_init_5.2.2.1
theorem dX10_init_170 : decode cX10_init 170 = .ok (.new 76, 3) := dg_cX10_init_5.2.2.2.1
theorem dX10_init_173 : decode cX10_init 173 = .ok (.dup, 1) := dg_cX10_init_5.2.2.2.2.1
theorem dX10_init_174 : decode cX10_init 174 = .ok (.invokespecial 92, 3) := dg_cX10_init_5.2.2.2.2.2.1
theorem dX10_init_177 : decode cX10_init 177 = .ok (.aastore, 1) := dg_cX10_init_5.2.2.2.2.2.2.1
theorem dX10_init_178 : decode cX10_init 178 = .ok (.iinc 1 1, 3) := dg_cX10_init_5.2.2.2.2.2.2.2.1
theorem dX10_init_181 : decode cX10_init 181 = .ok (.goto (-21), 3) := dg_cX10_init_5.2.2.2.2.2.2.2.2.1
theorem dX10_init_184 : decode cX10_init 184 = .ok (.iconst 0, 1) := dg_cX10_init_5.2.2.2.2.2.2.2.2.2.1
theorem dX10_init_185 : decode cX10_init 185 = .ok (.istore_n 1, 1) := dg_cX10_init_5.2.2.2.2.2.2.2.2.2.2.1
theorem dX10_init_186 : decode cX10_init 186 = .ok (.iload_n 1, 1) := dg_cX10_init_5.2.2.2.2.2.2.2.2.2.2.2.1
theorem dX10_init_187 : decode cX10_init 187 = .ok (.iconst 4, 1) := dg_cX10_init_5.2.2.2.2.2.2.2.2.2.2.2.2.1
theorem dX10_init_188 : decode cX10_init 188 = .ok (.if_icmp .ge 22, 3) := dg_cX10_init_5.2.2.2.2.2.2.2.2.2.2.2.2.2.1
theorem dX10_init_191 : decode cX10_init 191 = .ok (.aload_n 0, 1) := dg_cX10_init_5.2.2.2.2.2.2.2.2.2.2.2.2.2.2.1
theorem dX10_init_192 : decode cX10_init 192 = .ok (.getfield 88, 3) := dg_cX10_init_5.2.2.2.2.2.2.2.2.2.2.2.2.2.2.2
set_option maxRecDepth 100000 in
theorem dg_cX10_init_6 : (decode cX10_init 195 = .ok (.iload_n 1, 1)) ∧ (decode cX10_init 196 = .ok (.new 86, 3)) ∧ (decode cX10_init 199 = .ok (.dup, 1)) ∧ (decode cX10_init 200 = .ok (.invokespecial 93, 3)) ∧ (decode cX10_init 203 = .ok (.aastore, 1)) ∧ (decode cX10_init 204 = .ok (.iinc 1 1, 3)) ∧ (decode cX10_init 207 = .ok (.goto (-21), 3)) ∧ (decode cX10_init 210 = .ok (.return_, 1)) := by decide +kernel
theorem dX10_init_195 : decode cX10_init 195 = .ok (.iload_n 1, 1) := dg_cX10_init_6.1
theorem dX10_init_196 : decode cX10_init 196 = .ok (.new 86, 3) := dg_cX10_init_6.2.1
theorem dX10_init_199 : decode cX10_init 199 = .ok (.dup, 1) := dg_cX10_init_6.2.2.1
theorem dX10_init_200 : decode cX10_init 200 = .ok (.invokespecial 93, 3) := dg_cX10_init_6.2.2.2.1
theorem dX10_init_203 : decode cX10_init 203 = .ok (.aastore, 1) := dg_cX10_init_6.2.2.2.2.1
theorem dX10_init_204 : decode cX10_init 204 = .ok (.iinc 1 1, 3) := dg_cX10_init_6.2.2.2.2.2.1
theorem dX10_init_207 : decode cX10_init 207 = .ok (.goto (-21), 3) := dg_cX10_init_6.2.2.2.2.2.2.1
theorem dX10_init_210 : decode cX10_init 210 = .ok (.return_, 1) := dg_cX10_init_6.2.2.2.2.2.2.2
set_option maxRecDepth 100000 in
theorem dg_cX10_feed_7 : (decode cX10_feed 0 = .ok (.aload_n 0, 1)) ∧ (decode cX10_feed 1 = .ok (.getfield 12, 3)) ∧ (decode cX10_feed 4 = .ok (.getfield 94, 3)) ∧ (decode cX10_feed 7 = .ok (.bipush 8, 2)) ∧ (decode cX10_feed 9 = .ok (.iadd, 1)) ∧ (decode cX10_feed 10 = .ok (.sipush 320, 3)) ∧ (decode cX10_feed 13 = .ok (.if_icmp .le 6, 3)) ∧ (decode cX10_feed 16 = .ok (.bipush (-3), 2)) ∧ (decode cX10_feed 18 = .ok (.ireturn, 1)) ∧ (decode cX10_feed 19 = .ok (.aload_n 0, 1)) ∧ (decode cX10_feed 20 = .ok (.getfield 12, 3)) ∧ (decode cX10_feed 23 = .ok (.lload_n 1, 1)) ∧ (decode cX10_feed 24 = .ok (.invokevirtual 98, 3)) ∧ (decode cX10_feed 27 = .ok (.aload_n 0, 1)) ∧ (decode cX10_feed 28 = .ok (.getfield 12, 3)) ∧ (decode cX10_feed 31 = .ok (.getfield 94, 3)) := by decide +kernel
theorem dX10_feed_0 : decode cX10_feed 0 = .ok (.aload_n 0, 1) := dg_cX10_feed_7.1
theorem dX10_feed_1 : decode cX10_feed 1 = .ok (.getfield 12, 3) := dg_cX10_feed_7.2.1
theorem dX10_feed_4 : decode cX10_feed 4 = .ok (.getfield 94, 3) := dg_cX10_feed_7.2.2.1
theorem dX10_feed_7 : decode cX10_feed 7 = .ok (.bipush 8, 2) := dg_cX10_feed_7.2.2.2.1
theorem dX10_feed_9 : decode cX10_feed 9 = .ok (.iadd, 1) := dg_cX10_feed_7.2.2.2.2.1
theorem dX10_feed_10 : decode cX10_feed 10 = .ok (.sipush 320, 3) := dg_cX10_feed_7.2.2.2.2.2.1
theorem dX10_feed_13 : decode cX10_feed 13 = .ok (.if_icmp .le 6, 3) := dg_cX10_feed_7.2.2.2.2.2.2.1
theorem dX10_feed_16 : decode cX10_feed 16 = .ok (.bipush (-3), 2) := dg_cX10_feed_7.2.2.2.2.2.2.2.1
theorem dX10_feed_18 : decode cX10_feed 18 = .ok (.ireturn, 1) := dg_cX10_feed_7.2.2.2.2.2.2.2.2.1
theorem dX10_feed_19 : decode cX10_feed 19 = .ok (.aload_n 0, 1) := dg_cX10_feed_7.2.2.2.2.2.2.2.2.2.1
theorem dX10_feed_20 : decode cX10_feed 20 = .ok (.getfield 12, 3) := dg_cX10_feed_7.2.2.2.2.2.2.2.2.2.2.1
theorem dX10_feed_23 : decode cX10_feed 23 = .ok (.lload_n 1, 1) := dg_cX10_feed_7.2.2.2.2.2.2.2.2.2.2.2.1
theorem dX10_feed_24 : decode cX10_feed 24 = .ok (.invokevirtual 98, 3) := dg_cX10_feed_7.2.2.2.2.2.2.2.2.2.2.2.2.1
theorem dX10_feed_27 : decode cX10_feed 27 = .ok (.aload_n 0, 1) := dg_cX10_feed_7.2.2.2.2.2.2.2.2.2.2.2.2.2.1
theorem dX10_feed_28 : decode cX10_feed 28 = .ok (.getfield 12, 3) := dg_cX10_feed_7.2.2.2.2.2.2.2.2.2.2.2.2.2.2.1
theorem dX10_feed_31 : decode cX10_feed 31 = .ok (.getfield 94, 3) := dg_cX10_feed_7.2.2.2.2.2.2.2.2.2.2.2.2.2.2.2
theorem dX10_feed_34 : decode cX10_feed 34 = .ok (.ireturn, 1) := by decide +kernel
set_option maxRecDepth 100000 in
theorem dg_cX10_end_8 : (decode cX10_end 0 = .ok (.iload_n 1, 1)) ∧ (decode cX10_end 1 = .ok (.ifCond .lt 14, 3)) ∧ (decode cX10_end 4 = .ok (.iload_n 1, 1)) ∧ (decode cX10_end 5 = .ok (.aload_n 0, 1)) ∧ (decode cX10_end 6 = .ok (.getfield 12, 3)) ∧ (decode cX10_end 9 = .ok (.getfield 94, 3)) ∧ (decode cX10_end 12 = .ok (.if_icmp .le 5, 3)) ∧ (decode cX10_end 15 = .ok (.iconst (-1), 1)) ∧ (decode cX10_end 16 = .ok (.ireturn, 1)) ∧ (decode cX10_end 17 = .ok (.aload_n 0, 1)) ∧ (decode cX10_end 18 = .ok (.getfield 12, 3)) ∧ (decode cX10_end 21 = .ok (.getfield 94, 3)) ∧ (decode cX10_end 24 = .ok (.istore_n 2, 1)) ∧ (decode cX10_end 25 = .ok (.aload_n 0, 1)) ∧ (decode cX10_end 26 = .ok (.getfield 12, 3)) ∧ (decode cX10_end 29 = .ok (.iload_n 1, 1)) := by decide +kernel
theorem dX10_end_0 : decode cX10_end 0 = .ok (.iload_n 1, 1) := dg_cX10_end_8.1
theorem dX10_end_1 : decode cX10_end 1 = .ok (.ifCond .lt 14, 3) := dg_cX10_end_8.2.1
theorem dX10_end_4 : decode cX10_end 4 = .ok (.iload_n 1, 1) := dg_cX10_end_8.2.2.1
theorem dX10_end_5 : decode cX10_end 5 = .ok (.aload_n 0, 1) := dg_cX10_end_8.2.2.2.1
theorem dX10_end_6 : decode cX10_end 6 = .ok (.getfield 12, 3) := dg_cX10_end_8.2.2.2.2.1
theorem dX10_end_9 : decode cX10_end 9 = .ok (.getfield 94, 3) := dg_cX10_end_8.2.2.2.2.2.1
theorem dX10_end_12 : decode cX10_end 12 = .ok (.if_icmp .le 5, 3) := dg_cX10_end_8.2.2.2.2.2.2.1
theorem dX10_end_15 : decode cX10_end 15 = .ok (.iconst (-1), 1) := dg_cX10_end_8.2.2.2.2.2.2.2.1
theorem dX10_end_16 : decode cX10_end 16 = .ok (.ireturn, 1) := dg_cX10_end_8.2.2.2.2.2.2.2.2.1
theorem dX10_end_17 : decode cX10_end 17 = .ok (.aload_n 0, 1) := dg_cX10_end_8.2.2.2.2.2.2.2.2.2.1
theorem dX10_end_18 : decode cX10_end 18 = .ok (.getfield 12, 3) := dg_cX10_end_8.2.2.2.2.2.2.2.2.2.2.1
theorem dX10_end_21 : decode cX10_end 21 = .ok (.getfield 94, 3) := dg_cX10_end_8.2.2.2.2.2.2.2.2.2.2.2.1
theorem dX10_end_24 : decode cX10_end 24 = .ok (.istore_n 2, 1) := dg_cX10_end_8.2.2.2.2.2.2.2.2.2.2.2.2.1
theorem dX10_end_25 : decode cX10_end 25 = .ok (.aload_n 0, 1) := dg_cX10_end_8.2.2.2.2.2.2.2.2.2.2.2.2.2.1
theorem dX10_end_26 : decode cX10_end 26 = .ok (.getfield 12, 3) := dg_cX10_end_8.2.2.2.2.2.2.2.2.2.2.2.2.2.2.1
theorem dX10_end_29 : decode cX10_end 29 = .ok (.iload_n 1, 1) := dg_cX10_end_8.2.2.2.2.2.2.2.2.2.2.2.2.2.2.2
set_option maxRecDepth 100000 in
theorem dg_cX10_end_9 : (decode cX10_end 30 = .ok (.putfield 94, 3)) ∧ (decode cX10_end 33 = .ok (.iload_n 2, 1)) ∧ (decode cX10_end 34 = .ok (.ireturn, 1)) := by decide +kernel
theorem dX10_end_30 : decode cX10_end 30 = .ok (.putfield 94, 3) := dg_cX10_end_9.1
theorem dX10_end_33 : decode cX10_end 33 = .ok (.iload_n 2, 1) := dg_cX10_end_9.2.1
theorem dX10_end_34 : decode cX10_end 34 = .ok (.ireturn, 1) := dg_cX10_end_9.2.2
set_option maxRecDepth 100000 in
theorem dg_cX10_text_10 : (decode cX10_text 0 = .ok (.aload_n 0, 1)) ∧ (decode cX10_text 1 = .ok (.getfield 21, 3)) ∧ (decode cX10_text 4 = .ok (.invokevirtual 102, 3)) ∧ (decode cX10_text 7 = .ok (.istore_n 1, 1)) ∧ (decode cX10_text 8 = .ok (.aload_n 0, 1)) ∧ (decode cX10_text 9 = .ok (.getfield 12, 3)) ∧ (decode cX10_text 12 = .ok (.iconst 0, 1)) ∧ (decode cX10_text 13 = .ok (.putfield 94, 3)) ∧ (decode cX10_text 16 = .ok (.iload_n 1, 1)) ∧ (decode cX10_text 17 = .ok (.ifCond .ne 14, 3)) ∧ (decode cX10_text 20 = .ok (.bipush (-10), 2)) ∧ (decode cX10_text 22 = .ok (.aload_n 0, 1)) ∧ (decode cX10_text 23 = .ok (.getfield 21, 3)) ∧ (decode cX10_text 26 = .ok (.getfield 106, 3)) ∧ (decode cX10_text 29 = .ok (.isub, 1)) ∧ (decode cX10_text 30 = .ok (.ireturn, 1)) := by decide +kernel
theorem dX10_text_0 : decode cX10_text 0 = .ok (.aload_n 0, 1) := dg_cX10_text_10.1
theorem dX10_text_1 : decode cX10_text 1 = .ok (.getfield 21, 3) := dg_cX10_text_10.2.1
theorem dX10_text_4 : decode cX10_text 4 = .ok (.invokevirtual 102, 3) := dg_cX10_text_10.2.2.1
theorem dX10_text_7 : decode cX10_text 7 = .ok (.istore_n 1, 1) := dg_cX10_text_10.2.2.2.1
theorem dX10_text_8 : decode cX10_text 8 = .ok (.aload_n 0, 1) := dg_cX10_text_10.2.2.2.2.1
theorem dX10_text_9 : decode cX10_text 9 = .ok (.getfield 12, 3) := dg_cX10_text_10.2.2.2.2.2.1
theorem dX10_text_12 : decode cX10_text 12 = .ok (.iconst 0, 1) := dg_cX10_text_10.2.2.2.2.2.2.1
theorem dX10_text_13 : decode cX10_text 13 = .ok (.putfield 94, 3) := dg_cX10_text_10.2.2.2.2.2.2.2.1
theorem dX10_text_16 : decode cX10_text 16 = .ok (.iload_n 1, 1) := dg_cX10_text_10.2.2.2.2.2.2.2.2.1
theorem dX10_text_17 : decode cX10_text 17 = .ok (.ifCond .ne 14, 3) := dg_cX10_text_10.2.2.2.2.2.2.2.2.2.1
theorem dX10_text_20 : decode cX10_text 20 = .ok (.bipush (-10), 2) := dg_cX10_text_10.2.2.2.2.2.2.2.2.2.2.1
theorem dX10_text_22 : decode cX10_text 22 = .ok (.aload_n 0, 1) := dg_cX10_text_10.2.2.2.2.2.2.2.2.2.2.2.1
theorem dX10_text_23 : decode cX10_text 23 = .ok (.getfield 21, 3) := dg_cX10_text_10.2.2.2.2.2.2.2.2.2.2.2.2.1
theorem dX10_text_26 : decode cX10_text 26 = .ok (.getfield 106, 3) := dg_cX10_text_10.2.2.2.2.2.2.2.2.2.2.2.2.2.1
theorem dX10_text_29 : decode cX10_text 29 = .ok (.isub, 1) := dg_cX10_text_10.2.2.2.2.2.2.2.2.2.2.2.2.2.2.1
theorem dX10_text_30 : decode cX10_text 30 = .ok (.ireturn, 1) := dg_cX10_text_10.2.2.2.2.2.2.2.2.2.2.2.2.2.2.2
set_option maxRecDepth 100000 in
theorem dg_cX10_text_11 : (decode cX10_text 31 = .ok (.aload_n 0, 1)) ∧ (decode cX10_text 32 = .ok (.getfield 28, 3)) ∧ (decode cX10_text 35 = .ok (.aload_n 0, 1)) ∧ (decode cX10_text 36 = .ok (.getfield 21, 3)) ∧ (decode cX10_text 39 = .ok (.getfield 109, 3)) ∧ (decode cX10_text 42 = .ok (.invokevirtual 112, 3)) ∧ (decode cX10_text 45 = .ok (.iconst 0, 1)) ∧ (decode cX10_text 46 = .ok (.istore_n 2, 1)) ∧ (decode cX10_text 47 = .ok (.iload_n 2, 1)) ∧ (decode cX10_text 48 = .ok (.iconst 2, 1)) ∧ (decode cX10_text 49 = .ok (.if_icmp .ge 16, 3)) ∧ (decode cX10_text 52 = .ok (.aload_n 0, 1)) ∧ (decode cX10_text 53 = .ok (.getfield 82, 3)) ∧ (decode cX10_text 56 = .ok (.iload_n 2, 1)) ∧ (decode cX10_text 57 = .ok (.iconst 0, 1)) ∧ (decode cX10_text 58 = .ok (.bastore, 1)) := by decide +kernel
theorem dX10_text_31 : decode cX10_text 31 = .ok (.aload_n 0, 1) := dg_cX10_text_11.1
theorem dX10_text_32 : decode cX10_text 32 = .ok (.getfield 28, 3) := dg_cX10_text_11.2.1
theorem dX10_text_35 : decode cX10_text 35 = .ok (.aload_n 0, 1) := dg_cX10_text_11.2.2.1
theorem dX10_text_36 : decode cX10_text 36 = .ok (.getfield 21, 3) := dg_cX10_text_11.2.2.2.1
theorem dX10_text_39 : decode cX10_text 39 = .ok (.getfield 109, 3) := dg_cX10_text_11.2.2.2.2.1
theorem dX10_text_42 : decode cX10_text 42 = .ok (.invokevirtual 112, 3) := dg_cX10_text_11.2.2.2.2.2.1
theorem dX10_text_45 : decode cX10_text 45 = .ok (.iconst 0, 1) := dg_cX10_text_11.2.2.2.2.2.2.1
theorem dX10_text_46 : decode cX10_text 46 = .ok (.istore_n 2, 1) := dg_cX10_text_11.2.2.2.2.2.2.2.1
theorem dX10_text_47 : decode cX10_text 47 = .ok (.iload_n 2, 1) := dg_cX10_text_11.2.2.2.2.2.2.2.2.1
theorem dX10_text_48 : decode cX10_text 48 = .ok (.iconst 2, 1) := dg_cX10_text_11.2.2.2.2.2.2.2.2.2.1
theorem dX10_text_49 : decode cX10_text 49 = .ok (.if_icmp .ge 16, 3) := dg_cX10_text_11.2.2.2.2.2.2.2.2.2.2.1
theorem dX10_text_52 : decode cX10_text 52 = .ok (.aload_n 0, 1) := dg_cX10_text_11.2.2.2.2.2.2.2.2.2.2.2.1
theorem dX10_text_53 : decode cX10_text 53 = .ok (.getfield 82, 3) := dg_cX10_text_11.2.2.2.2.2.2.2.2.2.2.2.2.1
theorem dX10_text_56 : decode cX10_text 56 = .ok (.iload_n 2, 1) := dg_cX10_text_11.2.2.2.2.2.2.2.2.2.2.2.2.2.1
theorem dX10_text_57 : decode cX10_text 57 = .ok (.iconst 0, 1) := dg_cX10_text_11.2.2.2.2.2.2.2.2.2.2.2.2.2.2.1
theorem dX10_text_58 : decode cX10_text 58 = .ok (.bastore, 1) := dg_cX10_text_11.2.2.2.2.2.2.2.2.2.2.2.2.2.2.2
set_option maxRecDepth 100000 in
theorem dg_cX10_text_12 : (decode cX10_text 59 = .ok (.iinc 2 1, 3)) ∧ (decode cX10_text 62 = .ok (.goto (-15), 3)) ∧ (decode cX10_text 65 = .ok (.aload_n 0, 1)) ∧ (decode cX10_text 66 = .ok (.getfield 21, 3)) ∧ (decode cX10_text 69 = .ok (.getfield 115, 3)) ∧ (decode cX10_text 72 = .ok (.ireturn, 1)) := by decide +kernel
theorem dX10_text_59 : decode cX10_text 59 = .ok (.iinc 2 1, 3) := dg_cX10_text_12.1
theorem dX10_text_62 : decode cX10_text 62 = .ok (.goto (-15), 3) := dg_cX10_text_12.2.1
theorem dX10_text_65 : decode cX10_text 65 = .ok (.aload_n 0, 1) := dg_cX10_text_12.2.2.1
theorem dX10_text_66 : decode cX10_text 66 = .ok (.getfield 21, 3) := dg_cX10_text_12.2.2.2.1
theorem dX10_text_69 : decode cX10_text 69 = .ok (.getfield 115, 3) := dg_cX10_text_12.2.2.2.2.1
theorem dX10_text_72 : decode cX10_text 72 = .ok (.ireturn, 1) := dg_cX10_text_12.2.2.2.2.2
set_option maxRecDepth 100000 in
theorem dg_cX10_fault_13 : (decode cX10_fault 0 = .ok (.aload_n 0, 1)) ∧ (decode cX10_fault 1 = .ok (.getfield 21, 3)) ∧ (decode cX10_fault 4 = .ok (.getfield 118, 3)) ∧ (decode cX10_fault 7 = .ok (.ireturn, 1)) := by decide +kernel
theorem dX10_fault_0 : decode cX10_fault 0 = .ok (.aload_n 0, 1) := dg_cX10_fault_13.1
theorem dX10_fault_1 : decode cX10_fault 1 = .ok (.getfield 21, 3) := dg_cX10_fault_13.2.1
theorem dX10_fault_4 : decode cX10_fault 4 = .ok (.getfield 118, 3) := dg_cX10_fault_13.2.2.1
theorem dX10_fault_7 : decode cX10_fault 7 = .ok (.ireturn, 1) := dg_cX10_fault_13.2.2.2
set_option maxRecDepth 100000 in
theorem dg_cX10_rule_14 : (decode cX10_rule 0 = .ok (.iload_n 1, 1)) ∧ (decode cX10_rule 1 = .ok (.lookupswitch 43 #[(0, 27), (1, 35)], 27)) ∧ (decode cX10_rule 28 = .ok (.aload_n 0, 1)) ∧ (decode cX10_rule 29 = .ok (.getfield 28, 3)) ∧ (decode cX10_rule 32 = .ok (.getfield 121, 3)) ∧ (decode cX10_rule 35 = .ok (.ireturn, 1)) ∧ (decode cX10_rule 36 = .ok (.aload_n 0, 1)) ∧ (decode cX10_rule 37 = .ok (.getfield 28, 3)) ∧ (decode cX10_rule 40 = .ok (.getfield 124, 3)) ∧ (decode cX10_rule 43 = .ok (.ireturn, 1)) ∧ (decode cX10_rule 44 = .ok (.iconst (-1), 1)) ∧ (decode cX10_rule 45 = .ok (.ireturn, 1)) := by decide +kernel
theorem dX10_rule_0 : decode cX10_rule 0 = .ok (.iload_n 1, 1) := dg_cX10_rule_14.1
theorem dX10_rule_1 : decode cX10_rule 1 = .ok (.lookupswitch 43 #[(0, 27), (1, 35)], 27) := dg_cX10_rule_14.2.1
theorem dX10_rule_28 : decode cX10_rule 28 = .ok (.aload_n 0, 1) := dg_cX10_rule_14.2.2.1
theorem dX10_rule_29 : decode cX10_rule 29 = .ok (.getfield 28, 3) := dg_cX10_rule_14.2.2.2.1
theorem dX10_rule_32 : decode cX10_rule 32 = .ok (.getfield 121, 3) := dg_cX10_rule_14.2.2.2.2.1
theorem dX10_rule_35 : decode cX10_rule 35 = .ok (.ireturn, 1) := dg_cX10_rule_14.2.2.2.2.2.1
theorem dX10_rule_36 : decode cX10_rule 36 = .ok (.aload_n 0, 1) := dg_cX10_rule_14.2.2.2.2.2.2.1
theorem dX10_rule_37 : decode cX10_rule 37 = .ok (.getfield 28, 3) := dg_cX10_rule_14.2.2.2.2.2.2.2.1
theorem dX10_rule_40 : decode cX10_rule 40 = .ok (.getfield 124, 3) := dg_cX10_rule_14.2.2.2.2.2.2.2.2.1
theorem dX10_rule_43 : decode cX10_rule 43 = .ok (.ireturn, 1) := dg_cX10_rule_14.2.2.2.2.2.2.2.2.2.1
theorem dX10_rule_44 : decode cX10_rule 44 = .ok (.iconst (-1), 1) := dg_cX10_rule_14.2.2.2.2.2.2.2.2.2.2.1
theorem dX10_rule_45 : decode cX10_rule 45 = .ok (.ireturn, 1) := dg_cX10_rule_14.2.2.2.2.2.2.2.2.2.2.2
set_option maxRecDepth 100000 in
theorem dg_cX10_bell_15 : (decode cX10_bell 0 = .ok (.aload_n 0, 1)) ∧ (decode cX10_bell 1 = .ok (.getfield 36, 3)) ∧ (decode cX10_bell 4 = .ok (.iload_n 1, 1)) ∧ (decode cX10_bell 5 = .ok (.invokevirtual 127, 3)) ∧ (decode cX10_bell 8 = .ok (.ifCond .ne 5, 3)) ∧ (decode cX10_bell 11 = .ok (.iconst (-1), 1)) ∧ (decode cX10_bell 12 = .ok (.ireturn, 1)) ∧ (decode cX10_bell 13 = .ok (.iload_n 2, 1)) ∧ (decode cX10_bell 14 = .ok (.tableswitch 84 0 4 #[34, 44, 54, 64, 74], 34)) ∧ (decode cX10_bell 48 = .ok (.aload_n 0, 1)) ∧ (decode cX10_bell 49 = .ok (.getfield 36, 3)) ∧ (decode cX10_bell 52 = .ok (.getfield 131, 3)) ∧ (decode cX10_bell 55 = .ok (.iload_n 1, 1)) ∧ (decode cX10_bell 56 = .ok (.iaload, 1)) ∧ (decode cX10_bell 57 = .ok (.ireturn, 1)) ∧ (decode cX10_bell 58 = .ok (.aload_n 0, 1)) := by decide +kernel
theorem dX10_bell_0 : decode cX10_bell 0 = .ok (.aload_n 0, 1) := dg_cX10_bell_15.1
theorem dX10_bell_1 : decode cX10_bell 1 = .ok (.getfield 36, 3) := dg_cX10_bell_15.2.1
theorem dX10_bell_4 : decode cX10_bell 4 = .ok (.iload_n 1, 1) := dg_cX10_bell_15.2.2.1
theorem dX10_bell_5 : decode cX10_bell 5 = .ok (.invokevirtual 127, 3) := dg_cX10_bell_15.2.2.2.1
theorem dX10_bell_8 : decode cX10_bell 8 = .ok (.ifCond .ne 5, 3) := dg_cX10_bell_15.2.2.2.2.1
theorem dX10_bell_11 : decode cX10_bell 11 = .ok (.iconst (-1), 1) := dg_cX10_bell_15.2.2.2.2.2.1
theorem dX10_bell_12 : decode cX10_bell 12 = .ok (.ireturn, 1) := dg_cX10_bell_15.2.2.2.2.2.2.1
theorem dX10_bell_13 : decode cX10_bell 13 = .ok (.iload_n 2, 1) := dg_cX10_bell_15.2.2.2.2.2.2.2.1
theorem dX10_bell_14 : decode cX10_bell 14 = .ok (.tableswitch 84 0 4 #[34, 44, 54, 64, 74], 34) := dg_cX10_bell_15.2.2.2.2.2.2.2.2.1
theorem dX10_bell_48 : decode cX10_bell 48 = .ok (.aload_n 0, 1) := dg_cX10_bell_15.2.2.2.2.2.2.2.2.2.1
theorem dX10_bell_49 : decode cX10_bell 49 = .ok (.getfield 36, 3) := dg_cX10_bell_15.2.2.2.2.2.2.2.2.2.2.1
theorem dX10_bell_52 : decode cX10_bell 52 = .ok (.getfield 131, 3) := dg_cX10_bell_15.2.2.2.2.2.2.2.2.2.2.2.1
theorem dX10_bell_55 : decode cX10_bell 55 = .ok (.iload_n 1, 1) := dg_cX10_bell_15.2.2.2.2.2.2.2.2.2.2.2.2.1
theorem dX10_bell_56 : decode cX10_bell 56 = .ok (.iaload, 1) := dg_cX10_bell_15.2.2.2.2.2.2.2.2.2.2.2.2.2.1
theorem dX10_bell_57 : decode cX10_bell 57 = .ok (.ireturn, 1) := dg_cX10_bell_15.2.2.2.2.2.2.2.2.2.2.2.2.2.2.1
theorem dX10_bell_58 : decode cX10_bell 58 = .ok (.aload_n 0, 1) := dg_cX10_bell_15.2.2.2.2.2.2.2.2.2.2.2.2.2.2.2
set_option maxRecDepth 100000 in
theorem dg_cX10_bell_16 : (decode cX10_bell 59 = .ok (.getfield 36, 3)) ∧ (decode cX10_bell 62 = .ok (.getfield 135, 3)) ∧ (decode cX10_bell 65 = .ok (.iload_n 1, 1)) ∧ (decode cX10_bell 66 = .ok (.iaload, 1)) ∧ (decode cX10_bell 67 = .ok (.ireturn, 1)) ∧ (decode cX10_bell 68 = .ok (.aload_n 0, 1)) ∧ (decode cX10_bell 69 = .ok (.getfield 36, 3)) ∧ (decode cX10_bell 72 = .ok (.getfield 138, 3)) ∧ (decode cX10_bell 75 = .ok (.iload_n 1, 1)) ∧ (decode cX10_bell 76 = .ok (.iaload, 1)) ∧ (decode cX10_bell 77 = .ok (.ireturn, 1)) ∧ (decode cX10_bell 78 = .ok (.aload_n 0, 1)) ∧ (decode cX10_bell 79 = .ok (.getfield 36, 3)) ∧ (decode cX10_bell 82 = .ok (.getfield 141, 3)) ∧ (decode cX10_bell 85 = .ok (.iload_n 1, 1)) ∧ (decode cX10_bell 86 = .ok (.iaload, 1)) := by decide +kernel
theorem dX10_bell_59 : decode cX10_bell 59 = .ok (.getfield 36, 3) := dg_cX10_bell_16.1
theorem dX10_bell_62 : decode cX10_bell 62 = .ok (.getfield 135, 3) := dg_cX10_bell_16.2.1
theorem dX10_bell_65 : decode cX10_bell 65 = .ok (.iload_n 1, 1) := dg_cX10_bell_16.2.2.1
theorem dX10_bell_66 : decode cX10_bell 66 = .ok (.iaload, 1) := dg_cX10_bell_16.2.2.2.1
theorem dX10_bell_67 : decode cX10_bell 67 = .ok (.ireturn, 1) := dg_cX10_bell_16.2.2.2.2.1
theorem dX10_bell_68 : decode cX10_bell 68 = .ok (.aload_n 0, 1) := dg_cX10_bell_16.2.2.2.2.2.1
theorem dX10_bell_69 : decode cX10_bell 69 = .ok (.getfield 36, 3) := dg_cX10_bell_16.2.2.2.2.2.2.1
theorem dX10_bell_72 : decode cX10_bell 72 = .ok (.getfield 138, 3) := dg_cX10_bell_16.2.2.2.2.2.2.2.1
theorem dX10_bell_75 : decode cX10_bell 75 = .ok (.iload_n 1, 1) := dg_cX10_bell_16.2.2.2.2.2.2.2.2.1
theorem dX10_bell_76 : decode cX10_bell 76 = .ok (.iaload, 1) := dg_cX10_bell_16.2.2.2.2.2.2.2.2.2.1
theorem dX10_bell_77 : decode cX10_bell 77 = .ok (.ireturn, 1) := dg_cX10_bell_16.2.2.2.2.2.2.2.2.2.2.1
theorem dX10_bell_78 : decode cX10_bell 78 = .ok (.aload_n 0, 1) := dg_cX10_bell_16.2.2.2.2.2.2.2.2.2.2.2.1
theorem dX10_bell_79 : decode cX10_bell 79 = .ok (.getfield 36, 3) := dg_cX10_bell_16.2.2.2.2.2.2.2.2.2.2.2.2.1
theorem dX10_bell_82 : decode cX10_bell 82 = .ok (.getfield 141, 3) := dg_cX10_bell_16.2.2.2.2.2.2.2.2.2.2.2.2.2.1
theorem dX10_bell_85 : decode cX10_bell 85 = .ok (.iload_n 1, 1) := dg_cX10_bell_16.2.2.2.2.2.2.2.2.2.2.2.2.2.2.1
theorem dX10_bell_86 : decode cX10_bell 86 = .ok (.iaload, 1) := dg_cX10_bell_16.2.2.2.2.2.2.2.2.2.2.2.2.2.2.2
set_option maxRecDepth 100000 in
theorem dg_cX10_bell_17 : (decode cX10_bell 87 = .ok (.ireturn, 1)) ∧ (decode cX10_bell 88 = .ok (.aload_n 0, 1)) ∧ (decode cX10_bell 89 = .ok (.getfield 36, 3)) ∧ (decode cX10_bell 92 = .ok (.getfield 144, 3)) ∧ (decode cX10_bell 95 = .ok (.iload_n 1, 1)) ∧ (decode cX10_bell 96 = .ok (.iaload, 1)) ∧ (decode cX10_bell 97 = .ok (.ireturn, 1)) ∧ (decode cX10_bell 98 = .ok (.iconst (-1), 1)) ∧ (decode cX10_bell 99 = .ok (.ireturn, 1)) := by decide +kernel
theorem dX10_bell_87 : decode cX10_bell 87 = .ok (.ireturn, 1) := dg_cX10_bell_17.1
theorem dX10_bell_88 : decode cX10_bell 88 = .ok (.aload_n 0, 1) := dg_cX10_bell_17.2.1
theorem dX10_bell_89 : decode cX10_bell 89 = .ok (.getfield 36, 3) := dg_cX10_bell_17.2.2.1
theorem dX10_bell_92 : decode cX10_bell 92 = .ok (.getfield 144, 3) := dg_cX10_bell_17.2.2.2.1
theorem dX10_bell_95 : decode cX10_bell 95 = .ok (.iload_n 1, 1) := dg_cX10_bell_17.2.2.2.2.1
theorem dX10_bell_96 : decode cX10_bell 96 = .ok (.iaload, 1) := dg_cX10_bell_17.2.2.2.2.2.1
theorem dX10_bell_97 : decode cX10_bell 97 = .ok (.ireturn, 1) := dg_cX10_bell_17.2.2.2.2.2.2.1
theorem dX10_bell_98 : decode cX10_bell 98 = .ok (.iconst (-1), 1) := dg_cX10_bell_17.2.2.2.2.2.2.2.1
theorem dX10_bell_99 : decode cX10_bell 99 = .ok (.ireturn, 1) := dg_cX10_bell_17.2.2.2.2.2.2.2.2
set_option maxRecDepth 100000 in
theorem dg_cX10_tune_18 : (decode cX10_tune 0 = .ok (.aload_n 0, 1)) ∧ (decode cX10_tune 1 = .ok (.getfield 28, 3)) ∧ (decode cX10_tune 4 = .ok (.iload_n 1, 1)) ∧ (decode cX10_tune 5 = .ok (.invokevirtual 147, 3)) ∧ (decode cX10_tune 8 = .ok (.ifCond .ne 5, 3)) ∧ (decode cX10_tune 11 = .ok (.iconst (-1), 1)) ∧ (decode cX10_tune 12 = .ok (.ireturn, 1)) ∧ (decode cX10_tune 13 = .ok (.iload_n 2, 1)) ∧ (decode cX10_tune 14 = .ok (.ifCond .ne 13, 3)) ∧ (decode cX10_tune 17 = .ok (.aload_n 0, 1)) ∧ (decode cX10_tune 18 = .ok (.getfield 28, 3)) ∧ (decode cX10_tune 21 = .ok (.getfield 150, 3)) ∧ (decode cX10_tune 24 = .ok (.iload_n 1, 1)) ∧ (decode cX10_tune 25 = .ok (.iaload, 1)) ∧ (decode cX10_tune 26 = .ok (.ireturn, 1)) ∧ (decode cX10_tune 27 = .ok (.iload_n 2, 1)) := by decide +kernel
theorem dX10_tune_0 : decode cX10_tune 0 = .ok (.aload_n 0, 1) := dg_cX10_tune_18.1
theorem dX10_tune_1 : decode cX10_tune 1 = .ok (.getfield 28, 3) := dg_cX10_tune_18.2.1
theorem dX10_tune_4 : decode cX10_tune 4 = .ok (.iload_n 1, 1) := dg_cX10_tune_18.2.2.1
theorem dX10_tune_5 : decode cX10_tune 5 = .ok (.invokevirtual 147, 3) := dg_cX10_tune_18.2.2.2.1
theorem dX10_tune_8 : decode cX10_tune 8 = .ok (.ifCond .ne 5, 3) := dg_cX10_tune_18.2.2.2.2.1
theorem dX10_tune_11 : decode cX10_tune 11 = .ok (.iconst (-1), 1) := dg_cX10_tune_18.2.2.2.2.2.1
theorem dX10_tune_12 : decode cX10_tune 12 = .ok (.ireturn, 1) := dg_cX10_tune_18.2.2.2.2.2.2.1
theorem dX10_tune_13 : decode cX10_tune 13 = .ok (.iload_n 2, 1) := dg_cX10_tune_18.2.2.2.2.2.2.2.1
theorem dX10_tune_14 : decode cX10_tune 14 = .ok (.ifCond .ne 13, 3) := dg_cX10_tune_18.2.2.2.2.2.2.2.2.1
theorem dX10_tune_17 : decode cX10_tune 17 = .ok (.aload_n 0, 1) := dg_cX10_tune_18.2.2.2.2.2.2.2.2.2.1
theorem dX10_tune_18 : decode cX10_tune 18 = .ok (.getfield 28, 3) := dg_cX10_tune_18.2.2.2.2.2.2.2.2.2.2.1
theorem dX10_tune_21 : decode cX10_tune 21 = .ok (.getfield 150, 3) := dg_cX10_tune_18.2.2.2.2.2.2.2.2.2.2.2.1
theorem dX10_tune_24 : decode cX10_tune 24 = .ok (.iload_n 1, 1) := dg_cX10_tune_18.2.2.2.2.2.2.2.2.2.2.2.2.1
theorem dX10_tune_25 : decode cX10_tune 25 = .ok (.iaload, 1) := dg_cX10_tune_18.2.2.2.2.2.2.2.2.2.2.2.2.2.1
theorem dX10_tune_26 : decode cX10_tune 26 = .ok (.ireturn, 1) := dg_cX10_tune_18.2.2.2.2.2.2.2.2.2.2.2.2.2.2.1
theorem dX10_tune_27 : decode cX10_tune 27 = .ok (.iload_n 2, 1) := dg_cX10_tune_18.2.2.2.2.2.2.2.2.2.2.2.2.2.2.2
set_option maxRecDepth 100000 in
theorem dg_cX10_tune_19 : (decode cX10_tune 28 = .ok (.iconst 1, 1)) ∧ (decode cX10_tune 29 = .ok (.if_icmp .ne 13, 3)) ∧ (decode cX10_tune 32 = .ok (.aload_n 0, 1)) ∧ (decode cX10_tune 33 = .ok (.getfield 28, 3)) ∧ (decode cX10_tune 36 = .ok (.getfield 153, 3)) ∧ (decode cX10_tune 39 = .ok (.iload_n 1, 1)) ∧ (decode cX10_tune 40 = .ok (.iaload, 1)) ∧ (decode cX10_tune 41 = .ok (.ireturn, 1)) ∧ (decode cX10_tune 42 = .ok (.aload_n 0, 1)) ∧ (decode cX10_tune 43 = .ok (.getfield 28, 3)) ∧ (decode cX10_tune 46 = .ok (.iload_n 1, 1)) ∧ (decode cX10_tune 47 = .ok (.iload_n 2, 1)) ∧ (decode cX10_tune 48 = .ok (.invokevirtual 155, 3)) ∧ (decode cX10_tune 51 = .ok (.ifCond .eq 20, 3)) ∧ (decode cX10_tune 54 = .ok (.aload_n 0, 1)) ∧ (decode cX10_tune 55 = .ok (.getfield 28, 3)) := by decide +kernel
theorem dX10_tune_28 : decode cX10_tune 28 = .ok (.iconst 1, 1) := dg_cX10_tune_19.1
theorem dX10_tune_29 : decode cX10_tune 29 = .ok (.if_icmp .ne 13, 3) := dg_cX10_tune_19.2.1
theorem dX10_tune_32 : decode cX10_tune 32 = .ok (.aload_n 0, 1) := dg_cX10_tune_19.2.2.1
theorem dX10_tune_33 : decode cX10_tune 33 = .ok (.getfield 28, 3) := dg_cX10_tune_19.2.2.2.1
theorem dX10_tune_36 : decode cX10_tune 36 = .ok (.getfield 153, 3) := dg_cX10_tune_19.2.2.2.2.1
theorem dX10_tune_39 : decode cX10_tune 39 = .ok (.iload_n 1, 1) := dg_cX10_tune_19.2.2.2.2.2.1
theorem dX10_tune_40 : decode cX10_tune 40 = .ok (.iaload, 1) := dg_cX10_tune_19.2.2.2.2.2.2.1
theorem dX10_tune_41 : decode cX10_tune 41 = .ok (.ireturn, 1) := dg_cX10_tune_19.2.2.2.2.2.2.2.1
theorem dX10_tune_42 : decode cX10_tune 42 = .ok (.aload_n 0, 1) := dg_cX10_tune_19.2.2.2.2.2.2.2.2.1
theorem dX10_tune_43 : decode cX10_tune 43 = .ok (.getfield 28, 3) := dg_cX10_tune_19.2.2.2.2.2.2.2.2.2.1
theorem dX10_tune_46 : decode cX10_tune 46 = .ok (.iload_n 1, 1) := dg_cX10_tune_19.2.2.2.2.2.2.2.2.2.2.1
theorem dX10_tune_47 : decode cX10_tune 47 = .ok (.iload_n 2, 1) := dg_cX10_tune_19.2.2.2.2.2.2.2.2.2.2.2.1
theorem dX10_tune_48 : decode cX10_tune 48 = .ok (.invokevirtual 155, 3) := dg_cX10_tune_19.2.2.2.2.2.2.2.2.2.2.2.2.1
theorem dX10_tune_51 : decode cX10_tune 51 = .ok (.ifCond .eq 20, 3) := dg_cX10_tune_19.2.2.2.2.2.2.2.2.2.2.2.2.2.1
theorem dX10_tune_54 : decode cX10_tune 54 = .ok (.aload_n 0, 1) := dg_cX10_tune_19.2.2.2.2.2.2.2.2.2.2.2.2.2.2.1
theorem dX10_tune_55 : decode cX10_tune 55 = .ok (.getfield 28, 3) := dg_cX10_tune_19.2.2.2.2.2.2.2.2.2.2.2.2.2.2.2
set_option maxRecDepth 100000 in
theorem dg_cX10_tune_20 : (decode cX10_tune 58 = .ok (.getfield 159, 3)) ∧ (decode cX10_tune 61 = .ok (.iload_n 1, 1)) ∧ (decode cX10_tune 62 = .ok (.aaload, 1)) ∧ (decode cX10_tune 63 = .ok (.iload_n 2, 1)) ∧ (decode cX10_tune 64 = .ok (.bipush 10, 2)) ∧ (decode cX10_tune 66 = .ok (.isub, 1)) ∧ (decode cX10_tune 67 = .ok (.iaload, 1)) ∧ (decode cX10_tune 68 = .ok (.goto 4, 3)) ∧ (decode cX10_tune 71 = .ok (.iconst (-1), 1)) ∧ (decode cX10_tune 72 = .ok (.ireturn, 1)) := by decide +kernel
theorem dX10_tune_58 : decode cX10_tune 58 = .ok (.getfield 159, 3) := dg_cX10_tune_20.1
theorem dX10_tune_61 : decode cX10_tune 61 = .ok (.iload_n 1, 1) := dg_cX10_tune_20.2.1
theorem dX10_tune_62 : decode cX10_tune 62 = .ok (.aaload, 1) := dg_cX10_tune_20.2.2.1
theorem dX10_tune_63 : decode cX10_tune 63 = .ok (.iload_n 2, 1) := dg_cX10_tune_20.2.2.2.1
theorem dX10_tune_64 : decode cX10_tune 64 = .ok (.bipush 10, 2) := dg_cX10_tune_20.2.2.2.2.1
theorem dX10_tune_66 : decode cX10_tune 66 = .ok (.isub, 1) := dg_cX10_tune_20.2.2.2.2.2.1
theorem dX10_tune_67 : decode cX10_tune 67 = .ok (.iaload, 1) := dg_cX10_tune_20.2.2.2.2.2.2.1
theorem dX10_tune_68 : decode cX10_tune 68 = .ok (.goto 4, 3) := dg_cX10_tune_20.2.2.2.2.2.2.2.1
theorem dX10_tune_71 : decode cX10_tune 71 = .ok (.iconst (-1), 1) := dg_cX10_tune_20.2.2.2.2.2.2.2.2.1
theorem dX10_tune_72 : decode cX10_tune 72 = .ok (.ireturn, 1) := dg_cX10_tune_20.2.2.2.2.2.2.2.2.2
set_option maxRecDepth 100000 in
theorem dg_cX10_feuds_21 : (decode cX10_feuds 0 = .ok (.aload_n 0, 1)) ∧ (decode cX10_feuds 1 = .ok (.getfield 28, 3)) ∧ (decode cX10_feuds 4 = .ok (.iload_n 1, 1)) ∧ (decode cX10_feuds 5 = .ok (.invokevirtual 163, 3)) ∧ (decode cX10_feuds 8 = .ok (.ifCond .eq 15, 3)) ∧ (decode cX10_feuds 11 = .ok (.aload_n 0, 1)) ∧ (decode cX10_feuds 12 = .ok (.getfield 36, 3)) ∧ (decode cX10_feuds 15 = .ok (.getfield 166, 3)) ∧ (decode cX10_feuds 18 = .ok (.iload_n 1, 1)) ∧ (decode cX10_feuds 19 = .ok (.iaload, 1)) ∧ (decode cX10_feuds 20 = .ok (.goto 4, 3)) ∧ (decode cX10_feuds 23 = .ok (.iconst (-1), 1)) ∧ (decode cX10_feuds 24 = .ok (.ireturn, 1)) := by decide +kernel
theorem dX10_feuds_0 : decode cX10_feuds 0 = .ok (.aload_n 0, 1) := dg_cX10_feuds_21.1
theorem dX10_feuds_1 : decode cX10_feuds 1 = .ok (.getfield 28, 3) := dg_cX10_feuds_21.2.1
theorem dX10_feuds_4 : decode cX10_feuds 4 = .ok (.iload_n 1, 1) := dg_cX10_feuds_21.2.2.1
theorem dX10_feuds_5 : decode cX10_feuds 5 = .ok (.invokevirtual 163, 3) := dg_cX10_feuds_21.2.2.2.1
theorem dX10_feuds_8 : decode cX10_feuds 8 = .ok (.ifCond .eq 15, 3) := dg_cX10_feuds_21.2.2.2.2.1
theorem dX10_feuds_11 : decode cX10_feuds 11 = .ok (.aload_n 0, 1) := dg_cX10_feuds_21.2.2.2.2.2.1
theorem dX10_feuds_12 : decode cX10_feuds 12 = .ok (.getfield 36, 3) := dg_cX10_feuds_21.2.2.2.2.2.2.1
theorem dX10_feuds_15 : decode cX10_feuds 15 = .ok (.getfield 166, 3) := dg_cX10_feuds_21.2.2.2.2.2.2.2.1
theorem dX10_feuds_18 : decode cX10_feuds 18 = .ok (.iload_n 1, 1) := dg_cX10_feuds_21.2.2.2.2.2.2.2.2.1
theorem dX10_feuds_19 : decode cX10_feuds 19 = .ok (.iaload, 1) := dg_cX10_feuds_21.2.2.2.2.2.2.2.2.2.1
theorem dX10_feuds_20 : decode cX10_feuds 20 = .ok (.goto 4, 3) := dg_cX10_feuds_21.2.2.2.2.2.2.2.2.2.2.1
theorem dX10_feuds_23 : decode cX10_feuds 23 = .ok (.iconst (-1), 1) := dg_cX10_feuds_21.2.2.2.2.2.2.2.2.2.2.2.1
theorem dX10_feuds_24 : decode cX10_feuds 24 = .ok (.ireturn, 1) := dg_cX10_feuds_21.2.2.2.2.2.2.2.2.2.2.2.2
set_option maxRecDepth 100000 in
theorem dg_cX10_fee_22 : (decode cX10_fee 0 = .ok (.aload_n 0, 1)) ∧ (decode cX10_fee 1 = .ok (.getfield 36, 3)) ∧ (decode cX10_fee 4 = .ok (.iload_n 1, 1)) ∧ (decode cX10_fee 5 = .ok (.invokevirtual 127, 3)) ∧ (decode cX10_fee 8 = .ok (.ifCond .eq 10, 3)) ∧ (decode cX10_fee 11 = .ok (.iload_n 2, 1)) ∧ (decode cX10_fee 12 = .ok (.invokestatic 169, 3)) ∧ (decode cX10_fee 15 = .ok (.ifCond .ne 5, 3)) ∧ (decode cX10_fee 18 = .ok (.iconst (-1), 1)) ∧ (decode cX10_fee 19 = .ok (.ireturn, 1)) ∧ (decode cX10_fee 20 = .ok (.aload_n 0, 1)) ∧ (decode cX10_fee 21 = .ok (.getfield 36, 3)) ∧ (decode cX10_fee 24 = .ok (.getfield 135, 3)) ∧ (decode cX10_fee 27 = .ok (.iload_n 1, 1)) ∧ (decode cX10_fee 28 = .ok (.iaload, 1)) ∧ (decode cX10_fee 29 = .ok (.istore_n 3, 1)) := by decide +kernel
theorem dX10_fee_0 : decode cX10_fee 0 = .ok (.aload_n 0, 1) := dg_cX10_fee_22.1
theorem dX10_fee_1 : decode cX10_fee 1 = .ok (.getfield 36, 3) := dg_cX10_fee_22.2.1
theorem dX10_fee_4 : decode cX10_fee 4 = .ok (.iload_n 1, 1) := dg_cX10_fee_22.2.2.1
theorem dX10_fee_5 : decode cX10_fee 5 = .ok (.invokevirtual 127, 3) := dg_cX10_fee_22.2.2.2.1
theorem dX10_fee_8 : decode cX10_fee 8 = .ok (.ifCond .eq 10, 3) := dg_cX10_fee_22.2.2.2.2.1
theorem dX10_fee_11 : decode cX10_fee 11 = .ok (.iload_n 2, 1) := dg_cX10_fee_22.2.2.2.2.2.1
theorem dX10_fee_12 : decode cX10_fee 12 = .ok (.invokestatic 169, 3) := dg_cX10_fee_22.2.2.2.2.2.2.1
theorem dX10_fee_15 : decode cX10_fee 15 = .ok (.ifCond .ne 5, 3) := dg_cX10_fee_22.2.2.2.2.2.2.2.1
theorem dX10_fee_18 : decode cX10_fee 18 = .ok (.iconst (-1), 1) := dg_cX10_fee_22.2.2.2.2.2.2.2.2.1
theorem dX10_fee_19 : decode cX10_fee 19 = .ok (.ireturn, 1) := dg_cX10_fee_22.2.2.2.2.2.2.2.2.2.1
theorem dX10_fee_20 : decode cX10_fee 20 = .ok (.aload_n 0, 1) := dg_cX10_fee_22.2.2.2.2.2.2.2.2.2.2.1
theorem dX10_fee_21 : decode cX10_fee 21 = .ok (.getfield 36, 3) := dg_cX10_fee_22.2.2.2.2.2.2.2.2.2.2.2.1
theorem dX10_fee_24 : decode cX10_fee 24 = .ok (.getfield 135, 3) := dg_cX10_fee_22.2.2.2.2.2.2.2.2.2.2.2.2.1
theorem dX10_fee_27 : decode cX10_fee 27 = .ok (.iload_n 1, 1) := dg_cX10_fee_22.2.2.2.2.2.2.2.2.2.2.2.2.2.1
theorem dX10_fee_28 : decode cX10_fee 28 = .ok (.iaload, 1) := dg_cX10_fee_22.2.2.2.2.2.2.2.2.2.2.2.2.2.2.1
theorem dX10_fee_29 : decode cX10_fee 29 = .ok (.istore_n 3, 1) := dg_cX10_fee_22.2.2.2.2.2.2.2.2.2.2.2.2.2.2.2
set_option maxRecDepth 100000 in
theorem dg_cX10_fee_23 : (decode cX10_fee 30 = .ok (.aload_n 0, 1)) ∧ (decode cX10_fee 31 = .ok (.getfield 36, 3)) ∧ (decode cX10_fee 34 = .ok (.getfield 135, 3)) ∧ (decode cX10_fee 37 = .ok (.iload_n 1, 1)) ∧ (decode cX10_fee 38 = .ok (.iload_n 2, 1)) ∧ (decode cX10_fee 39 = .ok (.iastore, 1)) ∧ (decode cX10_fee 40 = .ok (.iload_n 3, 1)) ∧ (decode cX10_fee 41 = .ok (.ireturn, 1)) := by decide +kernel
theorem dX10_fee_30 : decode cX10_fee 30 = .ok (.aload_n 0, 1) := dg_cX10_fee_23.1
theorem dX10_fee_31 : decode cX10_fee 31 = .ok (.getfield 36, 3) := dg_cX10_fee_23.2.1
theorem dX10_fee_34 : decode cX10_fee 34 = .ok (.getfield 135, 3) := dg_cX10_fee_23.2.2.1
theorem dX10_fee_37 : decode cX10_fee 37 = .ok (.iload_n 1, 1) := dg_cX10_fee_23.2.2.2.1
theorem dX10_fee_38 : decode cX10_fee 38 = .ok (.iload_n 2, 1) := dg_cX10_fee_23.2.2.2.2.1
theorem dX10_fee_39 : decode cX10_fee 39 = .ok (.iastore, 1) := dg_cX10_fee_23.2.2.2.2.2.1
theorem dX10_fee_40 : decode cX10_fee 40 = .ok (.iload_n 3, 1) := dg_cX10_fee_23.2.2.2.2.2.2.1
theorem dX10_fee_41 : decode cX10_fee 41 = .ok (.ireturn, 1) := dg_cX10_fee_23.2.2.2.2.2.2.2
set_option maxRecDepth 100000 in
theorem dg_cX10_shut_24 : (decode cX10_shut 0 = .ok (.aload_n 0, 1)) ∧ (decode cX10_shut 1 = .ok (.getfield 36, 3)) ∧ (decode cX10_shut 4 = .ok (.iload_n 1, 1)) ∧ (decode cX10_shut 5 = .ok (.invokevirtual 127, 3)) ∧ (decode cX10_shut 8 = .ok (.ifCond .ne 5, 3)) ∧ (decode cX10_shut 11 = .ok (.iconst (-1), 1)) ∧ (decode cX10_shut 12 = .ok (.ireturn, 1)) ∧ (decode cX10_shut 13 = .ok (.aload_n 0, 1)) ∧ (decode cX10_shut 14 = .ok (.getfield 36, 3)) ∧ (decode cX10_shut 17 = .ok (.getfield 141, 3)) ∧ (decode cX10_shut 20 = .ok (.iload_n 1, 1)) ∧ (decode cX10_shut 21 = .ok (.iaload, 1)) ∧ (decode cX10_shut 22 = .ok (.istore_n 3, 1)) ∧ (decode cX10_shut 23 = .ok (.aload_n 0, 1)) ∧ (decode cX10_shut 24 = .ok (.getfield 36, 3)) ∧ (decode cX10_shut 27 = .ok (.getfield 141, 3)) := by decide +kernel
theorem dX10_shut_0 : decode cX10_shut 0 = .ok (.aload_n 0, 1) := dg_cX10_shut_24.1
theorem dX10_shut_1 : decode cX10_shut 1 = .ok (.getfield 36, 3) := dg_cX10_shut_24.2.1
theorem dX10_shut_4 : decode cX10_shut 4 = .ok (.iload_n 1, 1) := dg_cX10_shut_24.2.2.1
theorem dX10_shut_5 : decode cX10_shut 5 = .ok (.invokevirtual 127, 3) := dg_cX10_shut_24.2.2.2.1
theorem dX10_shut_8 : decode cX10_shut 8 = .ok (.ifCond .ne 5, 3) := dg_cX10_shut_24.2.2.2.2.1
theorem dX10_shut_11 : decode cX10_shut 11 = .ok (.iconst (-1), 1) := dg_cX10_shut_24.2.2.2.2.2.1
theorem dX10_shut_12 : decode cX10_shut 12 = .ok (.ireturn, 1) := dg_cX10_shut_24.2.2.2.2.2.2.1
theorem dX10_shut_13 : decode cX10_shut 13 = .ok (.aload_n 0, 1) := dg_cX10_shut_24.2.2.2.2.2.2.2.1
theorem dX10_shut_14 : decode cX10_shut 14 = .ok (.getfield 36, 3) := dg_cX10_shut_24.2.2.2.2.2.2.2.2.1
theorem dX10_shut_17 : decode cX10_shut 17 = .ok (.getfield 141, 3) := dg_cX10_shut_24.2.2.2.2.2.2.2.2.2.1
theorem dX10_shut_20 : decode cX10_shut 20 = .ok (.iload_n 1, 1) := dg_cX10_shut_24.2.2.2.2.2.2.2.2.2.2.1
theorem dX10_shut_21 : decode cX10_shut 21 = .ok (.iaload, 1) := dg_cX10_shut_24.2.2.2.2.2.2.2.2.2.2.2.1
theorem dX10_shut_22 : decode cX10_shut 22 = .ok (.istore_n 3, 1) := dg_cX10_shut_24.2.2.2.2.2.2.2.2.2.2.2.2.1
theorem dX10_shut_23 : decode cX10_shut 23 = .ok (.aload_n 0, 1) := dg_cX10_shut_24.2.2.2.2.2.2.2.2.2.2.2.2.2.1
theorem dX10_shut_24 : decode cX10_shut 24 = .ok (.getfield 36, 3) := dg_cX10_shut_24.2.2.2.2.2.2.2.2.2.2.2.2.2.2.1
theorem dX10_shut_27 : decode cX10_shut 27 = .ok (.getfield 141, 3) := dg_cX10_shut_24.2.2.2.2.2.2.2.2.2.2.2.2.2.2.2
set_option maxRecDepth 100000 in
theorem dg_cX10_shut_25 : (decode cX10_shut 30 = .ok (.iload_n 1, 1)) ∧ (decode cX10_shut 31 = .ok (.iload_n 2, 1)) ∧ (decode cX10_shut 32 = .ok (.ifCond .eq 7, 3)) ∧ (decode cX10_shut 35 = .ok (.iconst 1, 1)) ∧ (decode cX10_shut 36 = .ok (.goto 4, 3)) ∧ (decode cX10_shut 39 = .ok (.iconst 0, 1)) ∧ (decode cX10_shut 40 = .ok (.iastore, 1)) ∧ (decode cX10_shut 41 = .ok (.iload_n 3, 1)) ∧ (decode cX10_shut 42 = .ok (.ireturn, 1)) := by decide +kernel
theorem dX10_shut_30 : decode cX10_shut 30 = .ok (.iload_n 1, 1) := dg_cX10_shut_25.1
theorem dX10_shut_31 : decode cX10_shut 31 = .ok (.iload_n 2, 1) := dg_cX10_shut_25.2.1
theorem dX10_shut_32 : decode cX10_shut 32 = .ok (.ifCond .eq 7, 3) := dg_cX10_shut_25.2.2.1
theorem dX10_shut_35 : decode cX10_shut 35 = .ok (.iconst 1, 1) := dg_cX10_shut_25.2.2.2.1
theorem dX10_shut_36 : decode cX10_shut 36 = .ok (.goto 4, 3) := dg_cX10_shut_25.2.2.2.2.1
theorem dX10_shut_39 : decode cX10_shut 39 = .ok (.iconst 0, 1) := dg_cX10_shut_25.2.2.2.2.2.1
theorem dX10_shut_40 : decode cX10_shut 40 = .ok (.iastore, 1) := dg_cX10_shut_25.2.2.2.2.2.2.1
theorem dX10_shut_41 : decode cX10_shut 41 = .ok (.iload_n 3, 1) := dg_cX10_shut_25.2.2.2.2.2.2.2.1
theorem dX10_shut_42 : decode cX10_shut 42 = .ok (.ireturn, 1) := dg_cX10_shut_25.2.2.2.2.2.2.2.2
set_option maxRecDepth 100000 in
theorem dg_cX10_sell_26 : (decode cX10_sell 0 = .ok (.aload_n 0, 1)) ∧ (decode cX10_sell 1 = .ok (.getfield 36, 3)) ∧ (decode cX10_sell 4 = .ok (.iload_n 1, 1)) ∧ (decode cX10_sell 5 = .ok (.invokevirtual 127, 3)) ∧ (decode cX10_sell 8 = .ok (.ifCond .eq 14, 3)) ∧ (decode cX10_sell 11 = .ok (.aload_n 0, 1)) ∧ (decode cX10_sell 12 = .ok (.getfield 28, 3)) ∧ (decode cX10_sell 15 = .ok (.iload_n 2, 1)) ∧ (decode cX10_sell 16 = .ok (.invokevirtual 163, 3)) ∧ (decode cX10_sell 19 = .ok (.ifCond .ne 5, 3)) ∧ (decode cX10_sell 22 = .ok (.iconst (-1), 1)) ∧ (decode cX10_sell 23 = .ok (.ireturn, 1)) ∧ (decode cX10_sell 24 = .ok (.aload_n 0, 1)) ∧ (decode cX10_sell 25 = .ok (.getfield 36, 3)) ∧ (decode cX10_sell 28 = .ok (.getfield 131, 3)) ∧ (decode cX10_sell 31 = .ok (.iload_n 1, 1)) := by decide +kernel
theorem dX10_sell_0 : decode cX10_sell 0 = .ok (.aload_n 0, 1) := dg_cX10_sell_26.1
theorem dX10_sell_1 : decode cX10_sell 1 = .ok (.getfield 36, 3) := dg_cX10_sell_26.2.1
theorem dX10_sell_4 : decode cX10_sell 4 = .ok (.iload_n 1, 1) := dg_cX10_sell_26.2.2.1
theorem dX10_sell_5 : decode cX10_sell 5 = .ok (.invokevirtual 127, 3) := dg_cX10_sell_26.2.2.2.1
theorem dX10_sell_8 : decode cX10_sell 8 = .ok (.ifCond .eq 14, 3) := dg_cX10_sell_26.2.2.2.2.1
theorem dX10_sell_11 : decode cX10_sell 11 = .ok (.aload_n 0, 1) := dg_cX10_sell_26.2.2.2.2.2.1
theorem dX10_sell_12 : decode cX10_sell 12 = .ok (.getfield 28, 3) := dg_cX10_sell_26.2.2.2.2.2.2.1
theorem dX10_sell_15 : decode cX10_sell 15 = .ok (.iload_n 2, 1) := dg_cX10_sell_26.2.2.2.2.2.2.2.1
theorem dX10_sell_16 : decode cX10_sell 16 = .ok (.invokevirtual 163, 3) := dg_cX10_sell_26.2.2.2.2.2.2.2.2.1
theorem dX10_sell_19 : decode cX10_sell 19 = .ok (.ifCond .ne 5, 3) := dg_cX10_sell_26.2.2.2.2.2.2.2.2.2.1
theorem dX10_sell_22 : decode cX10_sell 22 = .ok (.iconst (-1), 1) := dg_cX10_sell_26.2.2.2.2.2.2.2.2.2.2.1
theorem dX10_sell_23 : decode cX10_sell 23 = .ok (.ireturn, 1) := dg_cX10_sell_26.2.2.2.2.2.2.2.2.2.2.2.1
theorem dX10_sell_24 : decode cX10_sell 24 = .ok (.aload_n 0, 1) := dg_cX10_sell_26.2.2.2.2.2.2.2.2.2.2.2.2.1
theorem dX10_sell_25 : decode cX10_sell 25 = .ok (.getfield 36, 3) := dg_cX10_sell_26.2.2.2.2.2.2.2.2.2.2.2.2.2.1
theorem dX10_sell_28 : decode cX10_sell 28 = .ok (.getfield 131, 3) := dg_cX10_sell_26.2.2.2.2.2.2.2.2.2.2.2.2.2.2.1
theorem dX10_sell_31 : decode cX10_sell 31 = .ok (.iload_n 1, 1) := dg_cX10_sell_26.2.2.2.2.2.2.2.2.2.2.2.2.2.2.2
set_option maxRecDepth 100000 in
theorem dg_cX10_sell_27 : (decode cX10_sell 32 = .ok (.iaload, 1)) ∧ (decode cX10_sell 33 = .ok (.istore_n 3, 1)) ∧ (decode cX10_sell 34 = .ok (.iload_n 3, 1)) ∧ (decode cX10_sell 35 = .ok (.iload_n 2, 1)) ∧ (decode cX10_sell 36 = .ok (.if_icmp .ne 6, 3)) ∧ (decode cX10_sell 39 = .ok (.bipush (-2), 2)) ∧ (decode cX10_sell 41 = .ok (.ireturn, 1)) ∧ (decode cX10_sell 42 = .ok (.aload_n 0, 1)) ∧ (decode cX10_sell 43 = .ok (.getfield 36, 3)) ∧ (decode cX10_sell 46 = .ok (.getfield 131, 3)) ∧ (decode cX10_sell 49 = .ok (.iload_n 1, 1)) ∧ (decode cX10_sell 50 = .ok (.iload_n 2, 1)) ∧ (decode cX10_sell 51 = .ok (.iastore, 1)) ∧ (decode cX10_sell 52 = .ok (.aload_n 0, 1)) ∧ (decode cX10_sell 53 = .ok (.getfield 36, 3)) ∧ (decode cX10_sell 56 = .ok (.getfield 144, 3)) := by decide +kernel
theorem dX10_sell_32 : decode cX10_sell 32 = .ok (.iaload, 1) := dg_cX10_sell_27.1
theorem dX10_sell_33 : decode cX10_sell 33 = .ok (.istore_n 3, 1) := dg_cX10_sell_27.2.1
theorem dX10_sell_34 : decode cX10_sell 34 = .ok (.iload_n 3, 1) := dg_cX10_sell_27.2.2.1
theorem dX10_sell_35 : decode cX10_sell 35 = .ok (.iload_n 2, 1) := dg_cX10_sell_27.2.2.2.1
theorem dX10_sell_36 : decode cX10_sell 36 = .ok (.if_icmp .ne 6, 3) := dg_cX10_sell_27.2.2.2.2.1
theorem dX10_sell_39 : decode cX10_sell 39 = .ok (.bipush (-2), 2) := dg_cX10_sell_27.2.2.2.2.2.1
theorem dX10_sell_41 : decode cX10_sell 41 = .ok (.ireturn, 1) := dg_cX10_sell_27.2.2.2.2.2.2.1
theorem dX10_sell_42 : decode cX10_sell 42 = .ok (.aload_n 0, 1) := dg_cX10_sell_27.2.2.2.2.2.2.2.1
theorem dX10_sell_43 : decode cX10_sell 43 = .ok (.getfield 36, 3) := dg_cX10_sell_27.2.2.2.2.2.2.2.2.1
theorem dX10_sell_46 : decode cX10_sell 46 = .ok (.getfield 131, 3) := dg_cX10_sell_27.2.2.2.2.2.2.2.2.2.1
theorem dX10_sell_49 : decode cX10_sell 49 = .ok (.iload_n 1, 1) := dg_cX10_sell_27.2.2.2.2.2.2.2.2.2.2.1
theorem dX10_sell_50 : decode cX10_sell 50 = .ok (.iload_n 2, 1) := dg_cX10_sell_27.2.2.2.2.2.2.2.2.2.2.2.1
theorem dX10_sell_51 : decode cX10_sell 51 = .ok (.iastore, 1) := dg_cX10_sell_27.2.2.2.2.2.2.2.2.2.2.2.2.1
theorem dX10_sell_52 : decode cX10_sell 52 = .ok (.aload_n 0, 1) := dg_cX10_sell_27.2.2.2.2.2.2.2.2.2.2.2.2.2.1
theorem dX10_sell_53 : decode cX10_sell 53 = .ok (.getfield 36, 3) := dg_cX10_sell_27.2.2.2.2.2.2.2.2.2.2.2.2.2.2.1
theorem dX10_sell_56 : decode cX10_sell 56 = .ok (.getfield 144, 3) := dg_cX10_sell_27.2.2.2.2.2.2.2.2.2.2.2.2.2.2.2
set_option maxRecDepth 100000 in
theorem dg_cX10_sell_28 : (decode cX10_sell 59 = .ok (.iload_n 1, 1)) ∧ (decode cX10_sell 60 = .ok (.iaload, 1)) ∧ (decode cX10_sell 61 = .ok (.iload_n 2, 1)) ∧ (decode cX10_sell 62 = .ok (.if_icmp .ne 14, 3)) ∧ (decode cX10_sell 65 = .ok (.aload_n 0, 1)) ∧ (decode cX10_sell 66 = .ok (.getfield 36, 3)) ∧ (decode cX10_sell 69 = .ok (.getfield 144, 3)) ∧ (decode cX10_sell 72 = .ok (.iload_n 1, 1)) ∧ (decode cX10_sell 73 = .ok (.bipush (-4), 2)) ∧ (decode cX10_sell 75 = .ok (.iastore, 1)) ∧ (decode cX10_sell 76 = .ok (.iload_n 3, 1)) ∧ (decode cX10_sell 77 = .ok (.ireturn, 1)) := by decide +kernel
theorem dX10_sell_59 : decode cX10_sell 59 = .ok (.iload_n 1, 1) := dg_cX10_sell_28.1
theorem dX10_sell_60 : decode cX10_sell 60 = .ok (.iaload, 1) := dg_cX10_sell_28.2.1
theorem dX10_sell_61 : decode cX10_sell 61 = .ok (.iload_n 2, 1) := dg_cX10_sell_28.2.2.1
theorem dX10_sell_62 : decode cX10_sell 62 = .ok (.if_icmp .ne 14, 3) := dg_cX10_sell_28.2.2.2.1
theorem dX10_sell_65 : decode cX10_sell 65 = .ok (.aload_n 0, 1) := dg_cX10_sell_28.2.2.2.2.1
theorem dX10_sell_66 : decode cX10_sell 66 = .ok (.getfield 36, 3) := dg_cX10_sell_28.2.2.2.2.2.1
theorem dX10_sell_69 : decode cX10_sell 69 = .ok (.getfield 144, 3) := dg_cX10_sell_28.2.2.2.2.2.2.1
theorem dX10_sell_72 : decode cX10_sell 72 = .ok (.iload_n 1, 1) := dg_cX10_sell_28.2.2.2.2.2.2.2.1
theorem dX10_sell_73 : decode cX10_sell 73 = .ok (.bipush (-4), 2) := dg_cX10_sell_28.2.2.2.2.2.2.2.2.1
theorem dX10_sell_75 : decode cX10_sell 75 = .ok (.iastore, 1) := dg_cX10_sell_28.2.2.2.2.2.2.2.2.2.1
theorem dX10_sell_76 : decode cX10_sell 76 = .ok (.iload_n 3, 1) := dg_cX10_sell_28.2.2.2.2.2.2.2.2.2.2.1
theorem dX10_sell_77 : decode cX10_sell 77 = .ok (.ireturn, 1) := dg_cX10_sell_28.2.2.2.2.2.2.2.2.2.2.2
set_option maxRecDepth 100000 in
theorem dg_cX10_half_29 : (decode cX10_half 0 = .ok (.aload_n 0, 1)) ∧ (decode cX10_half 1 = .ok (.getfield 36, 3)) ∧ (decode cX10_half 4 = .ok (.iload_n 1, 1)) ∧ (decode cX10_half 5 = .ok (.invokevirtual 127, 3)) ∧ (decode cX10_half 8 = .ok (.ifCond .eq 20, 3)) ∧ (decode cX10_half 11 = .ok (.iload_n 2, 1)) ∧ (decode cX10_half 12 = .ok (.bipush (-4), 2)) ∧ (decode cX10_half 14 = .ok (.if_icmp .eq 16, 3)) ∧ (decode cX10_half 17 = .ok (.aload_n 0, 1)) ∧ (decode cX10_half 18 = .ok (.getfield 28, 3)) ∧ (decode cX10_half 21 = .ok (.iload_n 2, 1)) ∧ (decode cX10_half 22 = .ok (.invokevirtual 163, 3)) ∧ (decode cX10_half 25 = .ok (.ifCond .ne 5, 3)) ∧ (decode cX10_half 28 = .ok (.iconst (-1), 1)) ∧ (decode cX10_half 29 = .ok (.ireturn, 1)) ∧ (decode cX10_half 30 = .ok (.aload_n 0, 1)) := by decide +kernel
theorem dX10_half_0 : decode cX10_half 0 = .ok (.aload_n 0, 1) := dg_cX10_half_29.1
theorem dX10_half_1 : decode cX10_half 1 = .ok (.getfield 36, 3) := dg_cX10_half_29.2.1
theorem dX10_half_4 : decode cX10_half 4 = .ok (.iload_n 1, 1) := dg_cX10_half_29.2.2.1
theorem dX10_half_5 : decode cX10_half 5 = .ok (.invokevirtual 127, 3) := dg_cX10_half_29.2.2.2.1
theorem dX10_half_8 : decode cX10_half 8 = .ok (.ifCond .eq 20, 3) := dg_cX10_half_29.2.2.2.2.1
theorem dX10_half_11 : decode cX10_half 11 = .ok (.iload_n 2, 1) := dg_cX10_half_29.2.2.2.2.2.1
theorem dX10_half_12 : decode cX10_half 12 = .ok (.bipush (-4), 2) := dg_cX10_half_29.2.2.2.2.2.2.1
theorem dX10_half_14 : decode cX10_half 14 = .ok (.if_icmp .eq 16, 3) := dg_cX10_half_29.2.2.2.2.2.2.2.1
theorem dX10_half_17 : decode cX10_half 17 = .ok (.aload_n 0, 1) := dg_cX10_half_29.2.2.2.2.2.2.2.2.1
theorem dX10_half_18 : decode cX10_half 18 = .ok (.getfield 28, 3) := dg_cX10_half_29.2.2.2.2.2.2.2.2.2.1
theorem dX10_half_21 : decode cX10_half 21 = .ok (.iload_n 2, 1) := dg_cX10_half_29.2.2.2.2.2.2.2.2.2.2.1
theorem dX10_half_22 : decode cX10_half 22 = .ok (.invokevirtual 163, 3) := dg_cX10_half_29.2.2.2.2.2.2.2.2.2.2.2.1
theorem dX10_half_25 : decode cX10_half 25 = .ok (.ifCond .ne 5, 3) := dg_cX10_half_29.2.2.2.2.2.2.2.2.2.2.2.2.1
theorem dX10_half_28 : decode cX10_half 28 = .ok (.iconst (-1), 1) := dg_cX10_half_29.2.2.2.2.2.2.2.2.2.2.2.2.2.1
theorem dX10_half_29 : decode cX10_half 29 = .ok (.ireturn, 1) := dg_cX10_half_29.2.2.2.2.2.2.2.2.2.2.2.2.2.2.1
theorem dX10_half_30 : decode cX10_half 30 = .ok (.aload_n 0, 1) := dg_cX10_half_29.2.2.2.2.2.2.2.2.2.2.2.2.2.2.2
set_option maxRecDepth 100000 in
theorem dg_cX10_half_30 : (decode cX10_half 31 = .ok (.getfield 36, 3)) ∧ (decode cX10_half 34 = .ok (.getfield 131, 3)) ∧ (decode cX10_half 37 = .ok (.iload_n 1, 1)) ∧ (decode cX10_half 38 = .ok (.iaload, 1)) ∧ (decode cX10_half 39 = .ok (.iload_n 2, 1)) ∧ (decode cX10_half 40 = .ok (.if_icmp .ne 6, 3)) ∧ (decode cX10_half 43 = .ok (.bipush (-2), 2)) ∧ (decode cX10_half 45 = .ok (.ireturn, 1)) ∧ (decode cX10_half 46 = .ok (.aload_n 0, 1)) ∧ (decode cX10_half 47 = .ok (.getfield 36, 3)) ∧ (decode cX10_half 50 = .ok (.getfield 144, 3)) ∧ (decode cX10_half 53 = .ok (.iload_n 1, 1)) ∧ (decode cX10_half 54 = .ok (.iaload, 1)) ∧ (decode cX10_half 55 = .ok (.istore_n 3, 1)) ∧ (decode cX10_half 56 = .ok (.aload_n 0, 1)) ∧ (decode cX10_half 57 = .ok (.getfield 36, 3)) := by decide +kernel
theorem dX10_half_31 : decode cX10_half 31 = .ok (.getfield 36, 3) := dg_cX10_half_30.1
theorem dX10_half_34 : decode cX10_half 34 = .ok (.getfield 131, 3) := dg_cX10_half_30.2.1
theorem dX10_half_37 : decode cX10_half 37 = .ok (.iload_n 1, 1) := dg_cX10_half_30.2.2.1
theorem dX10_half_38 : decode cX10_half 38 = .ok (.iaload, 1) := dg_cX10_half_30.2.2.2.1
theorem dX10_half_39 : decode cX10_half 39 = .ok (.iload_n 2, 1) := dg_cX10_half_30.2.2.2.2.1
theorem dX10_half_40 : decode cX10_half 40 = .ok (.if_icmp .ne 6, 3) := dg_cX10_half_30.2.2.2.2.2.1
theorem dX10_half_43 : decode cX10_half 43 = .ok (.bipush (-2), 2) := dg_cX10_half_30.2.2.2.2.2.2.1
theorem dX10_half_45 : decode cX10_half 45 = .ok (.ireturn, 1) := dg_cX10_half_30.2.2.2.2.2.2.2.1
theorem dX10_half_46 : decode cX10_half 46 = .ok (.aload_n 0, 1) := dg_cX10_half_30.2.2.2.2.2.2.2.2.1
theorem dX10_half_47 : decode cX10_half 47 = .ok (.getfield 36, 3) := dg_cX10_half_30.2.2.2.2.2.2.2.2.2.1
theorem dX10_half_50 : decode cX10_half 50 = .ok (.getfield 144, 3) := dg_cX10_half_30.2.2.2.2.2.2.2.2.2.2.1
theorem dX10_half_53 : decode cX10_half 53 = .ok (.iload_n 1, 1) := dg_cX10_half_30.2.2.2.2.2.2.2.2.2.2.2.1
theorem dX10_half_54 : decode cX10_half 54 = .ok (.iaload, 1) := dg_cX10_half_30.2.2.2.2.2.2.2.2.2.2.2.2.1
theorem dX10_half_55 : decode cX10_half 55 = .ok (.istore_n 3, 1) := dg_cX10_half_30.2.2.2.2.2.2.2.2.2.2.2.2.2.1
theorem dX10_half_56 : decode cX10_half 56 = .ok (.aload_n 0, 1) := dg_cX10_half_30.2.2.2.2.2.2.2.2.2.2.2.2.2.2.1
theorem dX10_half_57 : decode cX10_half 57 = .ok (.getfield 36, 3) := dg_cX10_half_30.2.2.2.2.2.2.2.2.2.2.2.2.2.2.2
set_option maxRecDepth 100000 in
theorem dg_cX10_half_31 : (decode cX10_half 60 = .ok (.getfield 144, 3)) ∧ (decode cX10_half 63 = .ok (.iload_n 1, 1)) ∧ (decode cX10_half 64 = .ok (.iload_n 2, 1)) ∧ (decode cX10_half 65 = .ok (.iastore, 1)) ∧ (decode cX10_half 66 = .ok (.iload_n 3, 1)) ∧ (decode cX10_half 67 = .ok (.ireturn, 1)) := by decide +kernel
theorem dX10_half_60 : decode cX10_half 60 = .ok (.getfield 144, 3) := dg_cX10_half_31.1
theorem dX10_half_63 : decode cX10_half 63 = .ok (.iload_n 1, 1) := dg_cX10_half_31.2.1
theorem dX10_half_64 : decode cX10_half 64 = .ok (.iload_n 2, 1) := dg_cX10_half_31.2.2.1
theorem dX10_half_65 : decode cX10_half 65 = .ok (.iastore, 1) := dg_cX10_half_31.2.2.2.1
theorem dX10_half_66 : decode cX10_half 66 = .ok (.iload_n 3, 1) := dg_cX10_half_31.2.2.2.2.1
theorem dX10_half_67 : decode cX10_half 67 = .ok (.ireturn, 1) := dg_cX10_half_31.2.2.2.2.2
set_option maxRecDepth 100000 in
theorem dg_cX10_feud_32 : (decode cX10_feud 0 = .ok (.aload_n 0, 1)) ∧ (decode cX10_feud 1 = .ok (.getfield 28, 3)) ∧ (decode cX10_feud 4 = .ok (.iload_n 1, 1)) ∧ (decode cX10_feud 5 = .ok (.invokevirtual 163, 3)) ∧ (decode cX10_feud 8 = .ok (.ifCond .eq 19, 3)) ∧ (decode cX10_feud 11 = .ok (.aload_n 0, 1)) ∧ (decode cX10_feud 12 = .ok (.getfield 28, 3)) ∧ (decode cX10_feud 15 = .ok (.iload_n 2, 1)) ∧ (decode cX10_feud 16 = .ok (.invokevirtual 163, 3)) ∧ (decode cX10_feud 19 = .ok (.ifCond .eq 8, 3)) ∧ (decode cX10_feud 22 = .ok (.iload_n 1, 1)) ∧ (decode cX10_feud 23 = .ok (.iload_n 2, 1)) ∧ (decode cX10_feud 24 = .ok (.if_icmp .ne 5, 3)) ∧ (decode cX10_feud 27 = .ok (.iconst (-1), 1)) ∧ (decode cX10_feud 28 = .ok (.ireturn, 1)) ∧ (decode cX10_feud 29 = .ok (.aload_n 0, 1)) := by decide +kernel
theorem dX10_feud_0 : decode cX10_feud 0 = .ok (.aload_n 0, 1) := dg_cX10_feud_32.1
theorem dX10_feud_1 : decode cX10_feud 1 = .ok (.getfield 28, 3) := dg_cX10_feud_32.2.1
theorem dX10_feud_4 : decode cX10_feud 4 = .ok (.iload_n 1, 1) := dg_cX10_feud_32.2.2.1
theorem dX10_feud_5 : decode cX10_feud 5 = .ok (.invokevirtual 163, 3) := dg_cX10_feud_32.2.2.2.1
theorem dX10_feud_8 : decode cX10_feud 8 = .ok (.ifCond .eq 19, 3) := dg_cX10_feud_32.2.2.2.2.1
theorem dX10_feud_11 : decode cX10_feud 11 = .ok (.aload_n 0, 1) := dg_cX10_feud_32.2.2.2.2.2.1
theorem dX10_feud_12 : decode cX10_feud 12 = .ok (.getfield 28, 3) := dg_cX10_feud_32.2.2.2.2.2.2.1
theorem dX10_feud_15 : decode cX10_feud 15 = .ok (.iload_n 2, 1) := dg_cX10_feud_32.2.2.2.2.2.2.2.1
theorem dX10_feud_16 : decode cX10_feud 16 = .ok (.invokevirtual 163, 3) := dg_cX10_feud_32.2.2.2.2.2.2.2.2.1
theorem dX10_feud_19 : decode cX10_feud 19 = .ok (.ifCond .eq 8, 3) := dg_cX10_feud_32.2.2.2.2.2.2.2.2.2.1
theorem dX10_feud_22 : decode cX10_feud 22 = .ok (.iload_n 1, 1) := dg_cX10_feud_32.2.2.2.2.2.2.2.2.2.2.1
theorem dX10_feud_23 : decode cX10_feud 23 = .ok (.iload_n 2, 1) := dg_cX10_feud_32.2.2.2.2.2.2.2.2.2.2.2.1
theorem dX10_feud_24 : decode cX10_feud 24 = .ok (.if_icmp .ne 5, 3) := dg_cX10_feud_32.2.2.2.2.2.2.2.2.2.2.2.2.1
theorem dX10_feud_27 : decode cX10_feud 27 = .ok (.iconst (-1), 1) := dg_cX10_feud_32.2.2.2.2.2.2.2.2.2.2.2.2.2.1
theorem dX10_feud_28 : decode cX10_feud 28 = .ok (.ireturn, 1) := dg_cX10_feud_32.2.2.2.2.2.2.2.2.2.2.2.2.2.2.1
theorem dX10_feud_29 : decode cX10_feud 29 = .ok (.aload_n 0, 1) := dg_cX10_feud_32.2.2.2.2.2.2.2.2.2.2.2.2.2.2.2
set_option maxRecDepth 100000 in
theorem dg_cX10_feud_33 : (decode cX10_feud 30 = .ok (.getfield 36, 3)) ∧ (decode cX10_feud 33 = .ok (.iload_n 1, 1)) ∧ (decode cX10_feud 34 = .ok (.iload_n 2, 1)) ∧ (decode cX10_feud 35 = .ok (.invokevirtual 172, 3)) ∧ (decode cX10_feud 38 = .ok (.ifCond .eq 7, 3)) ∧ (decode cX10_feud 41 = .ok (.iconst 1, 1)) ∧ (decode cX10_feud 42 = .ok (.goto 4, 3)) ∧ (decode cX10_feud 45 = .ok (.iconst 0, 1)) ∧ (decode cX10_feud 46 = .ok (.istore 4, 2)) ∧ (decode cX10_feud 48 = .ok (.aload_n 0, 1)) ∧ (decode cX10_feud 49 = .ok (.getfield 36, 3)) ∧ (decode cX10_feud 52 = .ok (.iload_n 1, 1)) ∧ (decode cX10_feud 53 = .ok (.iload_n 2, 1)) ∧ (decode cX10_feud 54 = .ok (.iload_n 3, 1)) ∧ (decode cX10_feud 55 = .ok (.invokevirtual 175, 3)) ∧ (decode cX10_feud 58 = .ok (.iload 4, 2)) := by decide +kernel
theorem dX10_feud_30 : decode cX10_feud 30 = .ok (.getfield 36, 3) := dg_cX10_feud_33.1
theorem dX10_feud_33 : decode cX10_feud 33 = .ok (.iload_n 1, 1) := dg_cX10_feud_33.2.1
theorem dX10_feud_34 : decode cX10_feud 34 = .ok (.iload_n 2, 1) := dg_cX10_feud_33.2.2.1
theorem dX10_feud_35 : decode cX10_feud 35 = .ok (.invokevirtual 172, 3) := dg_cX10_feud_33.2.2.2.1
theorem dX10_feud_38 : decode cX10_feud 38 = .ok (.ifCond .eq 7, 3) := dg_cX10_feud_33.2.2.2.2.1
theorem dX10_feud_41 : decode cX10_feud 41 = .ok (.iconst 1, 1) := dg_cX10_feud_33.2.2.2.2.2.1
theorem dX10_feud_42 : decode cX10_feud 42 = .ok (.goto 4, 3) := dg_cX10_feud_33.2.2.2.2.2.2.1
theorem dX10_feud_45 : decode cX10_feud 45 = .ok (.iconst 0, 1) := dg_cX10_feud_33.2.2.2.2.2.2.2.1
theorem dX10_feud_46 : decode cX10_feud 46 = .ok (.istore 4, 2) := dg_cX10_feud_33.2.2.2.2.2.2.2.2.1
theorem dX10_feud_48 : decode cX10_feud 48 = .ok (.aload_n 0, 1) := dg_cX10_feud_33.2.2.2.2.2.2.2.2.2.1
theorem dX10_feud_49 : decode cX10_feud 49 = .ok (.getfield 36, 3) := dg_cX10_feud_33.2.2.2.2.2.2.2.2.2.2.1
theorem dX10_feud_52 : decode cX10_feud 52 = .ok (.iload_n 1, 1) := dg_cX10_feud_33.2.2.2.2.2.2.2.2.2.2.2.1
theorem dX10_feud_53 : decode cX10_feud 53 = .ok (.iload_n 2, 1) := dg_cX10_feud_33.2.2.2.2.2.2.2.2.2.2.2.2.1
theorem dX10_feud_54 : decode cX10_feud 54 = .ok (.iload_n 3, 1) := dg_cX10_feud_33.2.2.2.2.2.2.2.2.2.2.2.2.2.1
theorem dX10_feud_55 : decode cX10_feud 55 = .ok (.invokevirtual 175, 3) := dg_cX10_feud_33.2.2.2.2.2.2.2.2.2.2.2.2.2.2.1
theorem dX10_feud_58 : decode cX10_feud 58 = .ok (.iload 4, 2) := dg_cX10_feud_33.2.2.2.2.2.2.2.2.2.2.2.2.2.2.2
theorem dX10_feud_60 : decode cX10_feud 60 = .ok (.ireturn, 1) := by decide +kernel
set_option maxRecDepth 100000 in
theorem dg_cX10_feuding_34 : (decode cX10_feuding 0 = .ok (.iload_n 1, 1)) ∧ (decode cX10_feuding 1 = .ok (.istore_n 2, 1)) ∧ (decode cX10_feuding 2 = .ok (.iconst 0, 1)) ∧ (decode cX10_feuding 3 = .ok (.istore_n 3, 1)) ∧ (decode cX10_feuding 4 = .ok (.iconst 1, 1)) ∧ (decode cX10_feuding 5 = .ok (.istore 4, 2)) ∧ (decode cX10_feuding 7 = .ok (.iload 4, 2)) ∧ (decode cX10_feuding 9 = .ok (.aload_n 0, 1)) ∧ (decode cX10_feuding 10 = .ok (.getfield 28, 3)) ∧ (decode cX10_feuding 13 = .ok (.getfield 121, 3)) ∧ (decode cX10_feuding 16 = .ok (.if_icmp .ge 80, 3)) ∧ (decode cX10_feuding 19 = .ok (.iconst 0, 1)) ∧ (decode cX10_feuding 20 = .ok (.istore 5, 2)) ∧ (decode cX10_feuding 22 = .ok (.iload 5, 2)) ∧ (decode cX10_feuding 24 = .ok (.iload 4, 2)) ∧ (decode cX10_feuding 26 = .ok (.if_icmp .ge 64, 3)) := by decide +kernel
theorem dX10_feuding_0 : decode cX10_feuding 0 = .ok (.iload_n 1, 1) := dg_cX10_feuding_34.1
theorem dX10_feuding_1 : decode cX10_feuding 1 = .ok (.istore_n 2, 1) := dg_cX10_feuding_34.2.1
theorem dX10_feuding_2 : decode cX10_feuding 2 = .ok (.iconst 0, 1) := dg_cX10_feuding_34.2.2.1
theorem dX10_feuding_3 : decode cX10_feuding 3 = .ok (.istore_n 3, 1) := dg_cX10_feuding_34.2.2.2.1
theorem dX10_feuding_4 : decode cX10_feuding 4 = .ok (.iconst 1, 1) := dg_cX10_feuding_34.2.2.2.2.1
theorem dX10_feuding_5 : decode cX10_feuding 5 = .ok (.istore 4, 2) := dg_cX10_feuding_34.2.2.2.2.2.1
theorem dX10_feuding_7 : decode cX10_feuding 7 = .ok (.iload 4, 2) := dg_cX10_feuding_34.2.2.2.2.2.2.1
theorem dX10_feuding_9 : decode cX10_feuding 9 = .ok (.aload_n 0, 1) := dg_cX10_feuding_34.2.2.2.2.2.2.2.1
theorem dX10_feuding_10 : decode cX10_feuding 10 = .ok (.getfield 28, 3) := dg_cX10_feuding_34.2.2.2.2.2.2.2.2.1
theorem dX10_feuding_13 : decode cX10_feuding 13 = .ok (.getfield 121, 3) := dg_cX10_feuding_34.2.2.2.2.2.2.2.2.2.1
theorem dX10_feuding_16 : decode cX10_feuding 16 = .ok (.if_icmp .ge 80, 3) := dg_cX10_feuding_34.2.2.2.2.2.2.2.2.2.2.1
theorem dX10_feuding_19 : decode cX10_feuding 19 = .ok (.iconst 0, 1) := dg_cX10_feuding_34.2.2.2.2.2.2.2.2.2.2.2.1
theorem dX10_feuding_20 : decode cX10_feuding 20 = .ok (.istore 5, 2) := dg_cX10_feuding_34.2.2.2.2.2.2.2.2.2.2.2.2.1
theorem dX10_feuding_22 : decode cX10_feuding 22 = .ok (.iload 5, 2) := dg_cX10_feuding_34.2.2.2.2.2.2.2.2.2.2.2.2.2.1
theorem dX10_feuding_24 : decode cX10_feuding 24 = .ok (.iload 4, 2) := dg_cX10_feuding_34.2.2.2.2.2.2.2.2.2.2.2.2.2.2.1
theorem dX10_feuding_26 : decode cX10_feuding 26 = .ok (.if_icmp .ge 64, 3) := dg_cX10_feuding_34.2.2.2.2.2.2.2.2.2.2.2.2.2.2.2
set_option maxRecDepth 100000 in
theorem dg_cX10_feuding_35 : (decode cX10_feuding 29 = .ok (.iload_n 2, 1)) ∧ (decode cX10_feuding 30 = .ok (.ldc 179, 2)) ∧ (decode cX10_feuding 32 = .ok (.imul, 1)) ∧ (decode cX10_feuding 33 = .ok (.sipush 12345, 3)) ∧ (decode cX10_feuding 36 = .ok (.iadd, 1)) ∧ (decode cX10_feuding 37 = .ok (.istore_n 2, 1)) ∧ (decode cX10_feuding 38 = .ok (.iload_n 2, 1)) ∧ (decode cX10_feuding 39 = .ok (.bipush 16, 2)) ∧ (decode cX10_feuding 41 = .ok (.iushr, 1)) ∧ (decode cX10_feuding 42 = .ok (.sipush 32767, 3)) ∧ (decode cX10_feuding 45 = .ok (.iand, 1)) ∧ (decode cX10_feuding 46 = .ok (.iconst 4, 1)) ∧ (decode cX10_feuding 47 = .ok (.irem, 1)) ∧ (decode cX10_feuding 48 = .ok (.ifCond .ne 7, 3)) ∧ (decode cX10_feuding 51 = .ok (.iconst 1, 1)) ∧ (decode cX10_feuding 52 = .ok (.goto 4, 3)) := by decide +kernel
theorem dX10_feuding_29 : decode cX10_feuding 29 = .ok (.iload_n 2, 1) := dg_cX10_feuding_35.1
theorem dX10_feuding_30 : decode cX10_feuding 30 = .ok (.ldc 179, 2) := dg_cX10_feuding_35.2.1
theorem dX10_feuding_32 : decode cX10_feuding 32 = .ok (.imul, 1) := dg_cX10_feuding_35.2.2.1
theorem dX10_feuding_33 : decode cX10_feuding 33 = .ok (.sipush 12345, 3) := dg_cX10_feuding_35.2.2.2.1
theorem dX10_feuding_36 : decode cX10_feuding 36 = .ok (.iadd, 1) := dg_cX10_feuding_35.2.2.2.2.1
theorem dX10_feuding_37 : decode cX10_feuding 37 = .ok (.istore_n 2, 1) := dg_cX10_feuding_35.2.2.2.2.2.1
theorem dX10_feuding_38 : decode cX10_feuding 38 = .ok (.iload_n 2, 1) := dg_cX10_feuding_35.2.2.2.2.2.2.1
theorem dX10_feuding_39 : decode cX10_feuding 39 = .ok (.bipush 16, 2) := dg_cX10_feuding_35.2.2.2.2.2.2.2.1
theorem dX10_feuding_41 : decode cX10_feuding 41 = .ok (.iushr, 1) := dg_cX10_feuding_35.2.2.2.2.2.2.2.2.1
theorem dX10_feuding_42 : decode cX10_feuding 42 = .ok (.sipush 32767, 3) := dg_cX10_feuding_35.2.2.2.2.2.2.2.2.2.1
theorem dX10_feuding_45 : decode cX10_feuding 45 = .ok (.iand, 1) := dg_cX10_feuding_35.2.2.2.2.2.2.2.2.2.2.1
theorem dX10_feuding_46 : decode cX10_feuding 46 = .ok (.iconst 4, 1) := dg_cX10_feuding_35.2.2.2.2.2.2.2.2.2.2.2.1
theorem dX10_feuding_47 : decode cX10_feuding 47 = .ok (.irem, 1) := dg_cX10_feuding_35.2.2.2.2.2.2.2.2.2.2.2.2.1
theorem dX10_feuding_48 : decode cX10_feuding 48 = .ok (.ifCond .ne 7, 3) := dg_cX10_feuding_35.2.2.2.2.2.2.2.2.2.2.2.2.2.1
theorem dX10_feuding_51 : decode cX10_feuding 51 = .ok (.iconst 1, 1) := dg_cX10_feuding_35.2.2.2.2.2.2.2.2.2.2.2.2.2.2.1
theorem dX10_feuding_52 : decode cX10_feuding 52 = .ok (.goto 4, 3) := dg_cX10_feuding_35.2.2.2.2.2.2.2.2.2.2.2.2.2.2.2
set_option maxRecDepth 100000 in
theorem dg_cX10_feuding_36 : (decode cX10_feuding 55 = .ok (.iconst 0, 1)) ∧ (decode cX10_feuding 56 = .ok (.istore 6, 2)) ∧ (decode cX10_feuding 58 = .ok (.aload_n 0, 1)) ∧ (decode cX10_feuding 59 = .ok (.getfield 36, 3)) ∧ (decode cX10_feuding 62 = .ok (.iload 4, 2)) ∧ (decode cX10_feuding 64 = .ok (.iload 5, 2)) ∧ (decode cX10_feuding 66 = .ok (.iload 6, 2)) ∧ (decode cX10_feuding 68 = .ok (.invokevirtual 175, 3)) ∧ (decode cX10_feuding 71 = .ok (.iload_n 3, 1)) ∧ (decode cX10_feuding 72 = .ok (.iload 6, 2)) ∧ (decode cX10_feuding 74 = .ok (.ifCond .eq 7, 3)) ∧ (decode cX10_feuding 77 = .ok (.iconst 1, 1)) ∧ (decode cX10_feuding 78 = .ok (.goto 4, 3)) ∧ (decode cX10_feuding 81 = .ok (.iconst 0, 1)) ∧ (decode cX10_feuding 82 = .ok (.iadd, 1)) ∧ (decode cX10_feuding 83 = .ok (.istore_n 3, 1)) := by decide +kernel
theorem dX10_feuding_55 : decode cX10_feuding 55 = .ok (.iconst 0, 1) := dg_cX10_feuding_36.1
theorem dX10_feuding_56 : decode cX10_feuding 56 = .ok (.istore 6, 2) := dg_cX10_feuding_36.2.1
theorem dX10_feuding_58 : decode cX10_feuding 58 = .ok (.aload_n 0, 1) := dg_cX10_feuding_36.2.2.1
theorem dX10_feuding_59 : decode cX10_feuding 59 = .ok (.getfield 36, 3) := dg_cX10_feuding_36.2.2.2.1
theorem dX10_feuding_62 : decode cX10_feuding 62 = .ok (.iload 4, 2) := dg_cX10_feuding_36.2.2.2.2.1
theorem dX10_feuding_64 : decode cX10_feuding 64 = .ok (.iload 5, 2) := dg_cX10_feuding_36.2.2.2.2.2.1
theorem dX10_feuding_66 : decode cX10_feuding 66 = .ok (.iload 6, 2) := dg_cX10_feuding_36.2.2.2.2.2.2.1
theorem dX10_feuding_68 : decode cX10_feuding 68 = .ok (.invokevirtual 175, 3) := dg_cX10_feuding_36.2.2.2.2.2.2.2.1
theorem dX10_feuding_71 : decode cX10_feuding 71 = .ok (.iload_n 3, 1) := dg_cX10_feuding_36.2.2.2.2.2.2.2.2.1
theorem dX10_feuding_72 : decode cX10_feuding 72 = .ok (.iload 6, 2) := dg_cX10_feuding_36.2.2.2.2.2.2.2.2.2.1
theorem dX10_feuding_74 : decode cX10_feuding 74 = .ok (.ifCond .eq 7, 3) := dg_cX10_feuding_36.2.2.2.2.2.2.2.2.2.2.1
theorem dX10_feuding_77 : decode cX10_feuding 77 = .ok (.iconst 1, 1) := dg_cX10_feuding_36.2.2.2.2.2.2.2.2.2.2.2.1
theorem dX10_feuding_78 : decode cX10_feuding 78 = .ok (.goto 4, 3) := dg_cX10_feuding_36.2.2.2.2.2.2.2.2.2.2.2.2.1
theorem dX10_feuding_81 : decode cX10_feuding 81 = .ok (.iconst 0, 1) := dg_cX10_feuding_36.2.2.2.2.2.2.2.2.2.2.2.2.2.1
theorem dX10_feuding_82 : decode cX10_feuding 82 = .ok (.iadd, 1) := dg_cX10_feuding_36.2.2.2.2.2.2.2.2.2.2.2.2.2.2.1
theorem dX10_feuding_83 : decode cX10_feuding 83 = .ok (.istore_n 3, 1) := dg_cX10_feuding_36.2.2.2.2.2.2.2.2.2.2.2.2.2.2.2
set_option maxRecDepth 100000 in
theorem dg_cX10_feuding_37 : (decode cX10_feuding 84 = .ok (.iinc 5 1, 3)) ∧ (decode cX10_feuding 87 = .ok (.goto (-65), 3)) ∧ (decode cX10_feuding 90 = .ok (.iinc 4 1, 3)) ∧ (decode cX10_feuding 93 = .ok (.goto (-86), 3)) ∧ (decode cX10_feuding 96 = .ok (.iload_n 3, 1)) ∧ (decode cX10_feuding 97 = .ok (.ireturn, 1)) := by decide +kernel
theorem dX10_feuding_84 : decode cX10_feuding 84 = .ok (.iinc 5 1, 3) := dg_cX10_feuding_37.1
theorem dX10_feuding_87 : decode cX10_feuding 87 = .ok (.goto (-65), 3) := dg_cX10_feuding_37.2.1
theorem dX10_feuding_90 : decode cX10_feuding 90 = .ok (.iinc 4 1, 3) := dg_cX10_feuding_37.2.2.1
theorem dX10_feuding_93 : decode cX10_feuding 93 = .ok (.goto (-86), 3) := dg_cX10_feuding_37.2.2.2.1
theorem dX10_feuding_96 : decode cX10_feuding 96 = .ok (.iload_n 3, 1) := dg_cX10_feuding_37.2.2.2.2.1
theorem dX10_feuding_97 : decode cX10_feuding 97 = .ok (.ireturn, 1) := dg_cX10_feuding_37.2.2.2.2.2
set_option maxRecDepth 100000 in
theorem dg_cX10_ring_38 : (decode cX10_ring 0 = .ok (.aload_n 0, 1)) ∧ (decode cX10_ring 1 = .ok (.getfield 28, 3)) ∧ (decode cX10_ring 4 = .ok (.iload_n 1, 1)) ∧ (decode cX10_ring 5 = .ok (.invokevirtual 147, 3)) ∧ (decode cX10_ring 8 = .ok (.ifCond .ne 5, 3)) ∧ (decode cX10_ring 11 = .ok (.iconst (-1), 1)) ∧ (decode cX10_ring 12 = .ok (.ireturn, 1)) ∧ (decode cX10_ring 13 = .ok (.aload_n 0, 1)) ∧ (decode cX10_ring 14 = .ok (.getfield 42, 3)) ∧ (decode cX10_ring 17 = .ok (.iload_n 1, 1)) ∧ (decode cX10_ring 18 = .ok (.invokevirtual 180, 3)) ∧ (decode cX10_ring 21 = .ok (.iload_n 2, 1)) ∧ (decode cX10_ring 22 = .ok (.tableswitch 66 0 3 #[30, 38, 46, 54], 30)) ∧ (decode cX10_ring 52 = .ok (.aload_n 0, 1)) ∧ (decode cX10_ring 53 = .ok (.getfield 42, 3)) ∧ (decode cX10_ring 56 = .ok (.getfield 184, 3)) := by decide +kernel
theorem dX10_ring_0 : decode cX10_ring 0 = .ok (.aload_n 0, 1) := dg_cX10_ring_38.1
theorem dX10_ring_1 : decode cX10_ring 1 = .ok (.getfield 28, 3) := dg_cX10_ring_38.2.1
theorem dX10_ring_4 : decode cX10_ring 4 = .ok (.iload_n 1, 1) := dg_cX10_ring_38.2.2.1
theorem dX10_ring_5 : decode cX10_ring 5 = .ok (.invokevirtual 147, 3) := dg_cX10_ring_38.2.2.2.1
theorem dX10_ring_8 : decode cX10_ring 8 = .ok (.ifCond .ne 5, 3) := dg_cX10_ring_38.2.2.2.2.1
theorem dX10_ring_11 : decode cX10_ring 11 = .ok (.iconst (-1), 1) := dg_cX10_ring_38.2.2.2.2.2.1
theorem dX10_ring_12 : decode cX10_ring 12 = .ok (.ireturn, 1) := dg_cX10_ring_38.2.2.2.2.2.2.1
theorem dX10_ring_13 : decode cX10_ring 13 = .ok (.aload_n 0, 1) := dg_cX10_ring_38.2.2.2.2.2.2.2.1
theorem dX10_ring_14 : decode cX10_ring 14 = .ok (.getfield 42, 3) := dg_cX10_ring_38.2.2.2.2.2.2.2.2.1
theorem dX10_ring_17 : decode cX10_ring 17 = .ok (.iload_n 1, 1) := dg_cX10_ring_38.2.2.2.2.2.2.2.2.2.1
theorem dX10_ring_18 : decode cX10_ring 18 = .ok (.invokevirtual 180, 3) := dg_cX10_ring_38.2.2.2.2.2.2.2.2.2.2.1
theorem dX10_ring_21 : decode cX10_ring 21 = .ok (.iload_n 2, 1) := dg_cX10_ring_38.2.2.2.2.2.2.2.2.2.2.2.1
theorem dX10_ring_22 : decode cX10_ring 22 = .ok (.tableswitch 66 0 3 #[30, 38, 46, 54], 30) := dg_cX10_ring_38.2.2.2.2.2.2.2.2.2.2.2.2.1
theorem dX10_ring_52 : decode cX10_ring 52 = .ok (.aload_n 0, 1) := dg_cX10_ring_38.2.2.2.2.2.2.2.2.2.2.2.2.2.1
theorem dX10_ring_53 : decode cX10_ring 53 = .ok (.getfield 42, 3) := dg_cX10_ring_38.2.2.2.2.2.2.2.2.2.2.2.2.2.2.1
theorem dX10_ring_56 : decode cX10_ring 56 = .ok (.getfield 184, 3) := dg_cX10_ring_38.2.2.2.2.2.2.2.2.2.2.2.2.2.2.2
set_option maxRecDepth 100000 in
theorem dg_cX10_ring_39 : (decode cX10_ring 59 = .ok (.ireturn, 1)) ∧ (decode cX10_ring 60 = .ok (.aload_n 0, 1)) ∧ (decode cX10_ring 61 = .ok (.getfield 42, 3)) ∧ (decode cX10_ring 64 = .ok (.getfield 187, 3)) ∧ (decode cX10_ring 67 = .ok (.ireturn, 1)) ∧ (decode cX10_ring 68 = .ok (.aload_n 0, 1)) ∧ (decode cX10_ring 69 = .ok (.getfield 42, 3)) ∧ (decode cX10_ring 72 = .ok (.getfield 190, 3)) ∧ (decode cX10_ring 75 = .ok (.ireturn, 1)) ∧ (decode cX10_ring 76 = .ok (.aload_n 0, 1)) ∧ (decode cX10_ring 77 = .ok (.getfield 42, 3)) ∧ (decode cX10_ring 80 = .ok (.getfield 193, 3)) ∧ (decode cX10_ring 83 = .ok (.sipush 1000, 3)) ∧ (decode cX10_ring 86 = .ok (.iadd, 1)) ∧ (decode cX10_ring 87 = .ok (.ireturn, 1)) ∧ (decode cX10_ring 88 = .ok (.iconst (-1), 1)) := by decide +kernel
theorem dX10_ring_59 : decode cX10_ring 59 = .ok (.ireturn, 1) := dg_cX10_ring_39.1
theorem dX10_ring_60 : decode cX10_ring 60 = .ok (.aload_n 0, 1) := dg_cX10_ring_39.2.1
theorem dX10_ring_61 : decode cX10_ring 61 = .ok (.getfield 42, 3) := dg_cX10_ring_39.2.2.1
theorem dX10_ring_64 : decode cX10_ring 64 = .ok (.getfield 187, 3) := dg_cX10_ring_39.2.2.2.1
theorem dX10_ring_67 : decode cX10_ring 67 = .ok (.ireturn, 1) := dg_cX10_ring_39.2.2.2.2.1
theorem dX10_ring_68 : decode cX10_ring 68 = .ok (.aload_n 0, 1) := dg_cX10_ring_39.2.2.2.2.2.1
theorem dX10_ring_69 : decode cX10_ring 69 = .ok (.getfield 42, 3) := dg_cX10_ring_39.2.2.2.2.2.2.1
theorem dX10_ring_72 : decode cX10_ring 72 = .ok (.getfield 190, 3) := dg_cX10_ring_39.2.2.2.2.2.2.2.1
theorem dX10_ring_75 : decode cX10_ring 75 = .ok (.ireturn, 1) := dg_cX10_ring_39.2.2.2.2.2.2.2.2.1
theorem dX10_ring_76 : decode cX10_ring 76 = .ok (.aload_n 0, 1) := dg_cX10_ring_39.2.2.2.2.2.2.2.2.2.1
theorem dX10_ring_77 : decode cX10_ring 77 = .ok (.getfield 42, 3) := dg_cX10_ring_39.2.2.2.2.2.2.2.2.2.2.1
theorem dX10_ring_80 : decode cX10_ring 80 = .ok (.getfield 193, 3) := dg_cX10_ring_39.2.2.2.2.2.2.2.2.2.2.2.1
theorem dX10_ring_83 : decode cX10_ring 83 = .ok (.sipush 1000, 3) := dg_cX10_ring_39.2.2.2.2.2.2.2.2.2.2.2.2.1
theorem dX10_ring_86 : decode cX10_ring 86 = .ok (.iadd, 1) := dg_cX10_ring_39.2.2.2.2.2.2.2.2.2.2.2.2.2.1
theorem dX10_ring_87 : decode cX10_ring 87 = .ok (.ireturn, 1) := dg_cX10_ring_39.2.2.2.2.2.2.2.2.2.2.2.2.2.2.1
theorem dX10_ring_88 : decode cX10_ring 88 = .ok (.iconst (-1), 1) := dg_cX10_ring_39.2.2.2.2.2.2.2.2.2.2.2.2.2.2.2
theorem dX10_ring_89 : decode cX10_ring 89 = .ok (.ireturn, 1) := by decide +kernel
set_option maxRecDepth 100000 in
theorem dg_cX10_taken_40 : (decode cX10_taken 0 = .ok (.aload_n 0, 1)) ∧ (decode cX10_taken 1 = .ok (.getfield 42, 3)) ∧ (decode cX10_taken 4 = .ok (.invokevirtual 196, 3)) ∧ (decode cX10_taken 7 = .ok (.ireturn, 1)) := by decide +kernel
theorem dX10_taken_0 : decode cX10_taken 0 = .ok (.aload_n 0, 1) := dg_cX10_taken_40.1
theorem dX10_taken_1 : decode cX10_taken 1 = .ok (.getfield 42, 3) := dg_cX10_taken_40.2.1
theorem dX10_taken_4 : decode cX10_taken 4 = .ok (.invokevirtual 196, 3) := dg_cX10_taken_40.2.2.1
theorem dX10_taken_7 : decode cX10_taken 7 = .ok (.ireturn, 1) := dg_cX10_taken_40.2.2.2
set_option maxRecDepth 100000 in
theorem dg_cX10_gets_41 : (decode cX10_gets 0 = .ok (.aload_n 0, 1)) ∧ (decode cX10_gets 1 = .ok (.getfield 28, 3)) ∧ (decode cX10_gets 4 = .ok (.iload_n 1, 1)) ∧ (decode cX10_gets 5 = .ok (.invokevirtual 163, 3)) ∧ (decode cX10_gets 8 = .ok (.ifCond .eq 26, 3)) ∧ (decode cX10_gets 11 = .ok (.aload_n 0, 1)) ∧ (decode cX10_gets 12 = .ok (.getfield 28, 3)) ∧ (decode cX10_gets 15 = .ok (.iload_n 2, 1)) ∧ (decode cX10_gets 16 = .ok (.invokevirtual 147, 3)) ∧ (decode cX10_gets 19 = .ok (.ifCond .eq 15, 3)) ∧ (decode cX10_gets 22 = .ok (.aload_n 0, 1)) ∧ (decode cX10_gets 23 = .ok (.getfield 42, 3)) ∧ (decode cX10_gets 26 = .ok (.iload_n 1, 1)) ∧ (decode cX10_gets 27 = .ok (.iload_n 2, 1)) ∧ (decode cX10_gets 28 = .ok (.invokevirtual 200, 3)) ∧ (decode cX10_gets 31 = .ok (.goto 4, 3)) := by decide +kernel
theorem dX10_gets_0 : decode cX10_gets 0 = .ok (.aload_n 0, 1) := dg_cX10_gets_41.1
theorem dX10_gets_1 : decode cX10_gets 1 = .ok (.getfield 28, 3) := dg_cX10_gets_41.2.1
theorem dX10_gets_4 : decode cX10_gets 4 = .ok (.iload_n 1, 1) := dg_cX10_gets_41.2.2.1
theorem dX10_gets_5 : decode cX10_gets 5 = .ok (.invokevirtual 163, 3) := dg_cX10_gets_41.2.2.2.1
theorem dX10_gets_8 : decode cX10_gets 8 = .ok (.ifCond .eq 26, 3) := dg_cX10_gets_41.2.2.2.2.1
theorem dX10_gets_11 : decode cX10_gets 11 = .ok (.aload_n 0, 1) := dg_cX10_gets_41.2.2.2.2.2.1
theorem dX10_gets_12 : decode cX10_gets 12 = .ok (.getfield 28, 3) := dg_cX10_gets_41.2.2.2.2.2.2.1
theorem dX10_gets_15 : decode cX10_gets 15 = .ok (.iload_n 2, 1) := dg_cX10_gets_41.2.2.2.2.2.2.2.1
theorem dX10_gets_16 : decode cX10_gets 16 = .ok (.invokevirtual 147, 3) := dg_cX10_gets_41.2.2.2.2.2.2.2.2.1
theorem dX10_gets_19 : decode cX10_gets 19 = .ok (.ifCond .eq 15, 3) := dg_cX10_gets_41.2.2.2.2.2.2.2.2.2.1
theorem dX10_gets_22 : decode cX10_gets 22 = .ok (.aload_n 0, 1) := dg_cX10_gets_41.2.2.2.2.2.2.2.2.2.2.1
theorem dX10_gets_23 : decode cX10_gets 23 = .ok (.getfield 42, 3) := dg_cX10_gets_41.2.2.2.2.2.2.2.2.2.2.2.1
theorem dX10_gets_26 : decode cX10_gets 26 = .ok (.iload_n 1, 1) := dg_cX10_gets_41.2.2.2.2.2.2.2.2.2.2.2.2.1
theorem dX10_gets_27 : decode cX10_gets 27 = .ok (.iload_n 2, 1) := dg_cX10_gets_41.2.2.2.2.2.2.2.2.2.2.2.2.2.1
theorem dX10_gets_28 : decode cX10_gets 28 = .ok (.invokevirtual 200, 3) := dg_cX10_gets_41.2.2.2.2.2.2.2.2.2.2.2.2.2.2.1
theorem dX10_gets_31 : decode cX10_gets 31 = .ok (.goto 4, 3) := dg_cX10_gets_41.2.2.2.2.2.2.2.2.2.2.2.2.2.2.2
set_option maxRecDepth 100000 in
theorem dg_cX10_gets_42 : (decode cX10_gets 34 = .ok (.iconst (-1), 1)) ∧ (decode cX10_gets 35 = .ok (.ireturn, 1)) := by decide +kernel
theorem dX10_gets_34 : decode cX10_gets 34 = .ok (.iconst (-1), 1) := dg_cX10_gets_42.1
theorem dX10_gets_35 : decode cX10_gets 35 = .ok (.ireturn, 1) := dg_cX10_gets_42.2
set_option maxRecDepth 100000 in
theorem dg_cX10_wage_43 : (decode cX10_wage 0 = .ok (.aload_n 0, 1)) ∧ (decode cX10_wage 1 = .ok (.getfield 28, 3)) ∧ (decode cX10_wage 4 = .ok (.iload_n 1, 1)) ∧ (decode cX10_wage 5 = .ok (.invokevirtual 163, 3)) ∧ (decode cX10_wage 8 = .ok (.ifCond .eq 14, 3)) ∧ (decode cX10_wage 11 = .ok (.aload_n 0, 1)) ∧ (decode cX10_wage 12 = .ok (.getfield 42, 3)) ∧ (decode cX10_wage 15 = .ok (.iload_n 1, 1)) ∧ (decode cX10_wage 16 = .ok (.invokevirtual 204, 3)) ∧ (decode cX10_wage 19 = .ok (.goto 4, 3)) ∧ (decode cX10_wage 22 = .ok (.iconst (-1), 1)) ∧ (decode cX10_wage 23 = .ok (.ireturn, 1)) := by decide +kernel
theorem dX10_wage_0 : decode cX10_wage 0 = .ok (.aload_n 0, 1) := dg_cX10_wage_43.1
theorem dX10_wage_1 : decode cX10_wage 1 = .ok (.getfield 28, 3) := dg_cX10_wage_43.2.1
theorem dX10_wage_4 : decode cX10_wage 4 = .ok (.iload_n 1, 1) := dg_cX10_wage_43.2.2.1
theorem dX10_wage_5 : decode cX10_wage 5 = .ok (.invokevirtual 163, 3) := dg_cX10_wage_43.2.2.2.1
theorem dX10_wage_8 : decode cX10_wage 8 = .ok (.ifCond .eq 14, 3) := dg_cX10_wage_43.2.2.2.2.1
theorem dX10_wage_11 : decode cX10_wage 11 = .ok (.aload_n 0, 1) := dg_cX10_wage_43.2.2.2.2.2.1
theorem dX10_wage_12 : decode cX10_wage 12 = .ok (.getfield 42, 3) := dg_cX10_wage_43.2.2.2.2.2.2.1
theorem dX10_wage_15 : decode cX10_wage 15 = .ok (.iload_n 1, 1) := dg_cX10_wage_43.2.2.2.2.2.2.2.1
theorem dX10_wage_16 : decode cX10_wage 16 = .ok (.invokevirtual 204, 3) := dg_cX10_wage_43.2.2.2.2.2.2.2.2.1
theorem dX10_wage_19 : decode cX10_wage 19 = .ok (.goto 4, 3) := dg_cX10_wage_43.2.2.2.2.2.2.2.2.2.1
theorem dX10_wage_22 : decode cX10_wage 22 = .ok (.iconst (-1), 1) := dg_cX10_wage_43.2.2.2.2.2.2.2.2.2.2.1
theorem dX10_wage_23 : decode cX10_wage 23 = .ok (.ireturn, 1) := dg_cX10_wage_43.2.2.2.2.2.2.2.2.2.2.2
set_option maxRecDepth 100000 in
theorem dg_cX10_ask_44 : (decode cX10_ask 0 = .ok (.aload_n 0, 1)) ∧ (decode cX10_ask 1 = .ok (.getfield 28, 3)) ∧ (decode cX10_ask 4 = .ok (.iload_n 1, 1)) ∧ (decode cX10_ask 5 = .ok (.invokevirtual 163, 3)) ∧ (decode cX10_ask 8 = .ok (.ifCond .eq 10, 3)) ∧ (decode cX10_ask 11 = .ok (.iload_n 2, 1)) ∧ (decode cX10_ask 12 = .ok (.invokestatic 169, 3)) ∧ (decode cX10_ask 15 = .ok (.ifCond .ne 5, 3)) ∧ (decode cX10_ask 18 = .ok (.iconst (-1), 1)) ∧ (decode cX10_ask 19 = .ok (.ireturn, 1)) ∧ (decode cX10_ask 20 = .ok (.aload_n 0, 1)) ∧ (decode cX10_ask 21 = .ok (.getfield 51, 3)) ∧ (decode cX10_ask 24 = .ok (.iload_n 1, 1)) ∧ (decode cX10_ask 25 = .ok (.invokevirtual 208, 3)) ∧ (decode cX10_ask 28 = .ok (.aload_n 0, 1)) ∧ (decode cX10_ask 29 = .ok (.getfield 51, 3)) := by decide +kernel
theorem dX10_ask_0 : decode cX10_ask 0 = .ok (.aload_n 0, 1) := dg_cX10_ask_44.1
theorem dX10_ask_1 : decode cX10_ask 1 = .ok (.getfield 28, 3) := dg_cX10_ask_44.2.1
theorem dX10_ask_4 : decode cX10_ask 4 = .ok (.iload_n 1, 1) := dg_cX10_ask_44.2.2.1
theorem dX10_ask_5 : decode cX10_ask 5 = .ok (.invokevirtual 163, 3) := dg_cX10_ask_44.2.2.2.1
theorem dX10_ask_8 : decode cX10_ask 8 = .ok (.ifCond .eq 10, 3) := dg_cX10_ask_44.2.2.2.2.1
theorem dX10_ask_11 : decode cX10_ask 11 = .ok (.iload_n 2, 1) := dg_cX10_ask_44.2.2.2.2.2.1
theorem dX10_ask_12 : decode cX10_ask 12 = .ok (.invokestatic 169, 3) := dg_cX10_ask_44.2.2.2.2.2.2.1
theorem dX10_ask_15 : decode cX10_ask 15 = .ok (.ifCond .ne 5, 3) := dg_cX10_ask_44.2.2.2.2.2.2.2.1
theorem dX10_ask_18 : decode cX10_ask 18 = .ok (.iconst (-1), 1) := dg_cX10_ask_44.2.2.2.2.2.2.2.2.1
theorem dX10_ask_19 : decode cX10_ask 19 = .ok (.ireturn, 1) := dg_cX10_ask_44.2.2.2.2.2.2.2.2.2.1
theorem dX10_ask_20 : decode cX10_ask 20 = .ok (.aload_n 0, 1) := dg_cX10_ask_44.2.2.2.2.2.2.2.2.2.2.1
theorem dX10_ask_21 : decode cX10_ask 21 = .ok (.getfield 51, 3) := dg_cX10_ask_44.2.2.2.2.2.2.2.2.2.2.2.1
theorem dX10_ask_24 : decode cX10_ask 24 = .ok (.iload_n 1, 1) := dg_cX10_ask_44.2.2.2.2.2.2.2.2.2.2.2.2.1
theorem dX10_ask_25 : decode cX10_ask 25 = .ok (.invokevirtual 208, 3) := dg_cX10_ask_44.2.2.2.2.2.2.2.2.2.2.2.2.2.1
theorem dX10_ask_28 : decode cX10_ask 28 = .ok (.aload_n 0, 1) := dg_cX10_ask_44.2.2.2.2.2.2.2.2.2.2.2.2.2.2.1
theorem dX10_ask_29 : decode cX10_ask 29 = .ok (.getfield 51, 3) := dg_cX10_ask_44.2.2.2.2.2.2.2.2.2.2.2.2.2.2.2
set_option maxRecDepth 100000 in
theorem dg_cX10_ask_45 : (decode cX10_ask 32 = .ok (.iload_n 2, 1)) ∧ (decode cX10_ask 33 = .ok (.invokevirtual 211, 3)) ∧ (decode cX10_ask 36 = .ok (.ireturn, 1)) := by decide +kernel
theorem dX10_ask_32 : decode cX10_ask 32 = .ok (.iload_n 2, 1) := dg_cX10_ask_45.1
theorem dX10_ask_33 : decode cX10_ask 33 = .ok (.invokevirtual 211, 3) := dg_cX10_ask_45.2.1
theorem dX10_ask_36 : decode cX10_ask 36 = .ok (.ireturn, 1) := dg_cX10_ask_45.2.2
set_option maxRecDepth 100000 in
theorem dg_cX10_best_46 : (decode cX10_best 0 = .ok (.aload_n 0, 1)) ∧ (decode cX10_best 1 = .ok (.getfield 28, 3)) ∧ (decode cX10_best 4 = .ok (.iload_n 1, 1)) ∧ (decode cX10_best 5 = .ok (.invokevirtual 163, 3)) ∧ (decode cX10_best 8 = .ok (.ifCond .eq 12, 3)) ∧ (decode cX10_best 11 = .ok (.iload_n 2, 1)) ∧ (decode cX10_best 12 = .ok (.ifCond .lt 8, 3)) ∧ (decode cX10_best 15 = .ok (.iload_n 2, 1)) ∧ (decode cX10_best 16 = .ok (.iconst 1, 1)) ∧ (decode cX10_best 17 = .ok (.if_icmp .le 5, 3)) ∧ (decode cX10_best 20 = .ok (.iconst (-1), 1)) ∧ (decode cX10_best 21 = .ok (.ireturn, 1)) ∧ (decode cX10_best 22 = .ok (.aload_n 0, 1)) ∧ (decode cX10_best 23 = .ok (.getfield 51, 3)) ∧ (decode cX10_best 26 = .ok (.iload_n 1, 1)) ∧ (decode cX10_best 27 = .ok (.invokevirtual 214, 3)) := by decide +kernel
theorem dX10_best_0 : decode cX10_best 0 = .ok (.aload_n 0, 1) := dg_cX10_best_46.1
theorem dX10_best_1 : decode cX10_best 1 = .ok (.getfield 28, 3) := dg_cX10_best_46.2.1
theorem dX10_best_4 : decode cX10_best 4 = .ok (.iload_n 1, 1) := dg_cX10_best_46.2.2.1
theorem dX10_best_5 : decode cX10_best 5 = .ok (.invokevirtual 163, 3) := dg_cX10_best_46.2.2.2.1
theorem dX10_best_8 : decode cX10_best 8 = .ok (.ifCond .eq 12, 3) := dg_cX10_best_46.2.2.2.2.1
theorem dX10_best_11 : decode cX10_best 11 = .ok (.iload_n 2, 1) := dg_cX10_best_46.2.2.2.2.2.1
theorem dX10_best_12 : decode cX10_best 12 = .ok (.ifCond .lt 8, 3) := dg_cX10_best_46.2.2.2.2.2.2.1
theorem dX10_best_15 : decode cX10_best 15 = .ok (.iload_n 2, 1) := dg_cX10_best_46.2.2.2.2.2.2.2.1
theorem dX10_best_16 : decode cX10_best 16 = .ok (.iconst 1, 1) := dg_cX10_best_46.2.2.2.2.2.2.2.2.1
theorem dX10_best_17 : decode cX10_best 17 = .ok (.if_icmp .le 5, 3) := dg_cX10_best_46.2.2.2.2.2.2.2.2.2.1
theorem dX10_best_20 : decode cX10_best 20 = .ok (.iconst (-1), 1) := dg_cX10_best_46.2.2.2.2.2.2.2.2.2.2.1
theorem dX10_best_21 : decode cX10_best 21 = .ok (.ireturn, 1) := dg_cX10_best_46.2.2.2.2.2.2.2.2.2.2.2.1
theorem dX10_best_22 : decode cX10_best 22 = .ok (.aload_n 0, 1) := dg_cX10_best_46.2.2.2.2.2.2.2.2.2.2.2.2.1
theorem dX10_best_23 : decode cX10_best 23 = .ok (.getfield 51, 3) := dg_cX10_best_46.2.2.2.2.2.2.2.2.2.2.2.2.2.1
theorem dX10_best_26 : decode cX10_best 26 = .ok (.iload_n 1, 1) := dg_cX10_best_46.2.2.2.2.2.2.2.2.2.2.2.2.2.2.1
theorem dX10_best_27 : decode cX10_best 27 = .ok (.invokevirtual 214, 3) := dg_cX10_best_46.2.2.2.2.2.2.2.2.2.2.2.2.2.2.2
set_option maxRecDepth 100000 in
theorem dg_cX10_best_47 : (decode cX10_best 30 = .ok (.iload_n 2, 1)) ∧ (decode cX10_best 31 = .ok (.ifCond .ne 13, 3)) ∧ (decode cX10_best 34 = .ok (.aload_n 0, 1)) ∧ (decode cX10_best 35 = .ok (.getfield 51, 3)) ∧ (decode cX10_best 38 = .ok (.getfield 217, 3)) ∧ (decode cX10_best 41 = .ok (.goto 10, 3)) ∧ (decode cX10_best 44 = .ok (.aload_n 0, 1)) ∧ (decode cX10_best 45 = .ok (.getfield 51, 3)) ∧ (decode cX10_best 48 = .ok (.getfield 220, 3)) ∧ (decode cX10_best 51 = .ok (.ireturn, 1)) := by decide +kernel
theorem dX10_best_30 : decode cX10_best 30 = .ok (.iload_n 2, 1) := dg_cX10_best_47.1
theorem dX10_best_31 : decode cX10_best 31 = .ok (.ifCond .ne 13, 3) := dg_cX10_best_47.2.1
theorem dX10_best_34 : decode cX10_best 34 = .ok (.aload_n 0, 1) := dg_cX10_best_47.2.2.1
theorem dX10_best_35 : decode cX10_best 35 = .ok (.getfield 51, 3) := dg_cX10_best_47.2.2.2.1
theorem dX10_best_38 : decode cX10_best 38 = .ok (.getfield 217, 3) := dg_cX10_best_47.2.2.2.2.1
theorem dX10_best_41 : decode cX10_best 41 = .ok (.goto 10, 3) := dg_cX10_best_47.2.2.2.2.2.1
theorem dX10_best_44 : decode cX10_best 44 = .ok (.aload_n 0, 1) := dg_cX10_best_47.2.2.2.2.2.2.1
theorem dX10_best_45 : decode cX10_best 45 = .ok (.getfield 51, 3) := dg_cX10_best_47.2.2.2.2.2.2.2.1
theorem dX10_best_48 : decode cX10_best 48 = .ok (.getfield 220, 3) := dg_cX10_best_47.2.2.2.2.2.2.2.2.1
theorem dX10_best_51 : decode cX10_best 51 = .ok (.ireturn, 1) := dg_cX10_best_47.2.2.2.2.2.2.2.2.2
set_option maxRecDepth 100000 in
theorem dg_cX10_settle_48 : (decode cX10_settle 0 = .ok (.iload_n 1, 1)) ∧ (decode cX10_settle 1 = .ok (.iconst 1, 1)) ∧ (decode cX10_settle 2 = .ok (.if_icmp .lt 9, 3)) ∧ (decode cX10_settle 5 = .ok (.iload_n 1, 1)) ∧ (decode cX10_settle 6 = .ok (.bipush 30, 2)) ∧ (decode cX10_settle 8 = .ok (.if_icmp .le 5, 3)) ∧ (decode cX10_settle 11 = .ok (.iconst (-1), 1)) ∧ (decode cX10_settle 12 = .ok (.ireturn, 1)) ∧ (decode cX10_settle 13 = .ok (.iconst 0, 1)) ∧ (decode cX10_settle 14 = .ok (.istore_n 2, 1)) ∧ (decode cX10_settle 15 = .ok (.iload_n 2, 1)) ∧ (decode cX10_settle 16 = .ok (.iload_n 1, 1)) ∧ (decode cX10_settle 17 = .ok (.if_icmp .ge 21, 3)) ∧ (decode cX10_settle 20 = .ok (.aload_n 0, 1)) ∧ (decode cX10_settle 21 = .ok (.getfield 51, 3)) ∧ (decode cX10_settle 24 = .ok (.invokevirtual 223, 3)) := by decide +kernel
theorem dX10_settle_0 : decode cX10_settle 0 = .ok (.iload_n 1, 1) := dg_cX10_settle_48.1
theorem dX10_settle_1 : decode cX10_settle 1 = .ok (.iconst 1, 1) := dg_cX10_settle_48.2.1
theorem dX10_settle_2 : decode cX10_settle 2 = .ok (.if_icmp .lt 9, 3) := dg_cX10_settle_48.2.2.1
theorem dX10_settle_5 : decode cX10_settle 5 = .ok (.iload_n 1, 1) := dg_cX10_settle_48.2.2.2.1
theorem dX10_settle_6 : decode cX10_settle 6 = .ok (.bipush 30, 2) := dg_cX10_settle_48.2.2.2.2.1
theorem dX10_settle_8 : decode cX10_settle 8 = .ok (.if_icmp .le 5, 3) := dg_cX10_settle_48.2.2.2.2.2.1
theorem dX10_settle_11 : decode cX10_settle 11 = .ok (.iconst (-1), 1) := dg_cX10_settle_48.2.2.2.2.2.2.1
theorem dX10_settle_12 : decode cX10_settle 12 = .ok (.ireturn, 1) := dg_cX10_settle_48.2.2.2.2.2.2.2.1
theorem dX10_settle_13 : decode cX10_settle 13 = .ok (.iconst 0, 1) := dg_cX10_settle_48.2.2.2.2.2.2.2.2.1
theorem dX10_settle_14 : decode cX10_settle 14 = .ok (.istore_n 2, 1) := dg_cX10_settle_48.2.2.2.2.2.2.2.2.2.1
theorem dX10_settle_15 : decode cX10_settle 15 = .ok (.iload_n 2, 1) := dg_cX10_settle_48.2.2.2.2.2.2.2.2.2.2.1
theorem dX10_settle_16 : decode cX10_settle 16 = .ok (.iload_n 1, 1) := dg_cX10_settle_48.2.2.2.2.2.2.2.2.2.2.2.1
theorem dX10_settle_17 : decode cX10_settle 17 = .ok (.if_icmp .ge 21, 3) := dg_cX10_settle_48.2.2.2.2.2.2.2.2.2.2.2.2.1
theorem dX10_settle_20 : decode cX10_settle 20 = .ok (.aload_n 0, 1) := dg_cX10_settle_48.2.2.2.2.2.2.2.2.2.2.2.2.2.1
theorem dX10_settle_21 : decode cX10_settle 21 = .ok (.getfield 51, 3) := dg_cX10_settle_48.2.2.2.2.2.2.2.2.2.2.2.2.2.2.1
theorem dX10_settle_24 : decode cX10_settle 24 = .ok (.invokevirtual 223, 3) := dg_cX10_settle_48.2.2.2.2.2.2.2.2.2.2.2.2.2.2.2
set_option maxRecDepth 100000 in
theorem dg_cX10_settle_49 : (decode cX10_settle 27 = .ok (.ifCond .ne 5, 3)) ∧ (decode cX10_settle 30 = .ok (.iload_n 2, 1)) ∧ (decode cX10_settle 31 = .ok (.ireturn, 1)) ∧ (decode cX10_settle 32 = .ok (.iinc 2 1, 3)) ∧ (decode cX10_settle 35 = .ok (.goto (-20), 3)) ∧ (decode cX10_settle 38 = .ok (.bipush (-4), 2)) ∧ (decode cX10_settle 40 = .ok (.ireturn, 1)) := by decide +kernel
theorem dX10_settle_27 : decode cX10_settle 27 = .ok (.ifCond .ne 5, 3) := dg_cX10_settle_49.1
theorem dX10_settle_30 : decode cX10_settle 30 = .ok (.iload_n 2, 1) := dg_cX10_settle_49.2.1
theorem dX10_settle_31 : decode cX10_settle 31 = .ok (.ireturn, 1) := dg_cX10_settle_49.2.2.1
theorem dX10_settle_32 : decode cX10_settle 32 = .ok (.iinc 2 1, 3) := dg_cX10_settle_49.2.2.2.1
theorem dX10_settle_35 : decode cX10_settle 35 = .ok (.goto (-20), 3) := dg_cX10_settle_49.2.2.2.2.1
theorem dX10_settle_38 : decode cX10_settle 38 = .ok (.bipush (-4), 2) := dg_cX10_settle_49.2.2.2.2.2.1
theorem dX10_settle_40 : decode cX10_settle 40 = .ok (.ireturn, 1) := dg_cX10_settle_49.2.2.2.2.2.2
set_option maxRecDepth 100000 in
theorem dg_cX10_settled_50 : (decode cX10_settled 0 = .ok (.iconst 0, 1)) ∧ (decode cX10_settled 1 = .ok (.istore_n 1, 1)) ∧ (decode cX10_settled 2 = .ok (.iload_n 1, 1)) ∧ (decode cX10_settled 3 = .ok (.aload_n 0, 1)) ∧ (decode cX10_settled 4 = .ok (.getfield 28, 3)) ∧ (decode cX10_settled 7 = .ok (.getfield 121, 3)) ∧ (decode cX10_settled 10 = .ok (.if_icmp .ge 22, 3)) ∧ (decode cX10_settled 13 = .ok (.aload_n 0, 1)) ∧ (decode cX10_settled 14 = .ok (.getfield 51, 3)) ∧ (decode cX10_settled 17 = .ok (.iload_n 1, 1)) ∧ (decode cX10_settled 18 = .ok (.invokevirtual 226, 3)) ∧ (decode cX10_settled 21 = .ok (.ifCond .eq 5, 3)) ∧ (decode cX10_settled 24 = .ok (.iconst 0, 1)) ∧ (decode cX10_settled 25 = .ok (.ireturn, 1)) ∧ (decode cX10_settled 26 = .ok (.iinc 1 1, 3)) ∧ (decode cX10_settled 29 = .ok (.goto (-27), 3)) := by decide +kernel
theorem dX10_settled_0 : decode cX10_settled 0 = .ok (.iconst 0, 1) := dg_cX10_settled_50.1
theorem dX10_settled_1 : decode cX10_settled 1 = .ok (.istore_n 1, 1) := dg_cX10_settled_50.2.1
theorem dX10_settled_2 : decode cX10_settled 2 = .ok (.iload_n 1, 1) := dg_cX10_settled_50.2.2.1
theorem dX10_settled_3 : decode cX10_settled 3 = .ok (.aload_n 0, 1) := dg_cX10_settled_50.2.2.2.1
theorem dX10_settled_4 : decode cX10_settled 4 = .ok (.getfield 28, 3) := dg_cX10_settled_50.2.2.2.2.1
theorem dX10_settled_7 : decode cX10_settled 7 = .ok (.getfield 121, 3) := dg_cX10_settled_50.2.2.2.2.2.1
theorem dX10_settled_10 : decode cX10_settled 10 = .ok (.if_icmp .ge 22, 3) := dg_cX10_settled_50.2.2.2.2.2.2.1
theorem dX10_settled_13 : decode cX10_settled 13 = .ok (.aload_n 0, 1) := dg_cX10_settled_50.2.2.2.2.2.2.2.1
theorem dX10_settled_14 : decode cX10_settled 14 = .ok (.getfield 51, 3) := dg_cX10_settled_50.2.2.2.2.2.2.2.2.1
theorem dX10_settled_17 : decode cX10_settled 17 = .ok (.iload_n 1, 1) := dg_cX10_settled_50.2.2.2.2.2.2.2.2.2.1
theorem dX10_settled_18 : decode cX10_settled 18 = .ok (.invokevirtual 226, 3) := dg_cX10_settled_50.2.2.2.2.2.2.2.2.2.2.1
theorem dX10_settled_21 : decode cX10_settled 21 = .ok (.ifCond .eq 5, 3) := dg_cX10_settled_50.2.2.2.2.2.2.2.2.2.2.2.1
theorem dX10_settled_24 : decode cX10_settled 24 = .ok (.iconst 0, 1) := dg_cX10_settled_50.2.2.2.2.2.2.2.2.2.2.2.2.1
theorem dX10_settled_25 : decode cX10_settled 25 = .ok (.ireturn, 1) := dg_cX10_settled_50.2.2.2.2.2.2.2.2.2.2.2.2.2.1
theorem dX10_settled_26 : decode cX10_settled 26 = .ok (.iinc 1 1, 3) := dg_cX10_settled_50.2.2.2.2.2.2.2.2.2.2.2.2.2.2.1
theorem dX10_settled_29 : decode cX10_settled 29 = .ok (.goto (-27), 3) := dg_cX10_settled_50.2.2.2.2.2.2.2.2.2.2.2.2.2.2.2
set_option maxRecDepth 100000 in
theorem dg_cX10_settled_51 : (decode cX10_settled 32 = .ok (.iconst 1, 1)) ∧ (decode cX10_settled 33 = .ok (.ireturn, 1)) := by decide +kernel
theorem dX10_settled_32 : decode cX10_settled 32 = .ok (.iconst 1, 1) := dg_cX10_settled_51.1
theorem dX10_settled_33 : decode cX10_settled 33 = .ok (.ireturn, 1) := dg_cX10_settled_51.2
set_option maxRecDepth 100000 in
theorem dg_cX10_feast_52 : (decode cX10_feast 0 = .ok (.aload_n 0, 1)) ∧ (decode cX10_feast 1 = .ok (.iload_n 1, 1)) ∧ (decode cX10_feast 2 = .ok (.bipush 72, 2)) ∧ (decode cX10_feast 4 = .ok (.iload_n 2, 1)) ∧ (decode cX10_feast 5 = .ok (.invokevirtual 229, 3)) ∧ (decode cX10_feast 8 = .ok (.ireturn, 1)) := by decide +kernel
theorem dX10_feast_0 : decode cX10_feast 0 = .ok (.aload_n 0, 1) := dg_cX10_feast_52.1
theorem dX10_feast_1 : decode cX10_feast 1 = .ok (.iload_n 1, 1) := dg_cX10_feast_52.2.1
theorem dX10_feast_2 : decode cX10_feast 2 = .ok (.bipush 72, 2) := dg_cX10_feast_52.2.2.1
theorem dX10_feast_4 : decode cX10_feast 4 = .ok (.iload_n 2, 1) := dg_cX10_feast_52.2.2.2.1
theorem dX10_feast_5 : decode cX10_feast 5 = .ok (.invokevirtual 229, 3) := dg_cX10_feast_52.2.2.2.2.1
theorem dX10_feast_8 : decode cX10_feast 8 = .ok (.ireturn, 1) := dg_cX10_feast_52.2.2.2.2.2
set_option maxRecDepth 100000 in
theorem dg_cX10_fair_53 : (decode cX10_fair 0 = .ok (.iload_n 1, 1)) ∧ (decode cX10_fair 1 = .ok (.iconst 1, 1)) ∧ (decode cX10_fair 2 = .ok (.if_icmp .lt 28, 3)) ∧ (decode cX10_fair 5 = .ok (.iload_n 1, 1)) ∧ (decode cX10_fair 6 = .ok (.bipush 6, 2)) ∧ (decode cX10_fair 8 = .ok (.if_icmp .gt 22, 3)) ∧ (decode cX10_fair 11 = .ok (.iload_n 2, 1)) ∧ (decode cX10_fair 12 = .ok (.ifCond .lt 18, 3)) ∧ (decode cX10_fair 15 = .ok (.iload_n 2, 1)) ∧ (decode cX10_fair 16 = .ok (.bipush 72, 2)) ∧ (decode cX10_fair 18 = .ok (.if_icmp .gt 12, 3)) ∧ (decode cX10_fair 21 = .ok (.iload_n 3, 1)) ∧ (decode cX10_fair 22 = .ok (.ifCond .lt 8, 3)) ∧ (decode cX10_fair 25 = .ok (.iload_n 3, 1)) ∧ (decode cX10_fair 26 = .ok (.iconst 1, 1)) ∧ (decode cX10_fair 27 = .ok (.if_icmp .le 5, 3)) := by decide +kernel
theorem dX10_fair_0 : decode cX10_fair 0 = .ok (.iload_n 1, 1) := dg_cX10_fair_53.1
theorem dX10_fair_1 : decode cX10_fair 1 = .ok (.iconst 1, 1) := dg_cX10_fair_53.2.1
theorem dX10_fair_2 : decode cX10_fair 2 = .ok (.if_icmp .lt 28, 3) := dg_cX10_fair_53.2.2.1
theorem dX10_fair_5 : decode cX10_fair 5 = .ok (.iload_n 1, 1) := dg_cX10_fair_53.2.2.2.1
theorem dX10_fair_6 : decode cX10_fair 6 = .ok (.bipush 6, 2) := dg_cX10_fair_53.2.2.2.2.1
theorem dX10_fair_8 : decode cX10_fair 8 = .ok (.if_icmp .gt 22, 3) := dg_cX10_fair_53.2.2.2.2.2.1
theorem dX10_fair_11 : decode cX10_fair 11 = .ok (.iload_n 2, 1) := dg_cX10_fair_53.2.2.2.2.2.2.1
theorem dX10_fair_12 : decode cX10_fair 12 = .ok (.ifCond .lt 18, 3) := dg_cX10_fair_53.2.2.2.2.2.2.2.1
theorem dX10_fair_15 : decode cX10_fair 15 = .ok (.iload_n 2, 1) := dg_cX10_fair_53.2.2.2.2.2.2.2.2.1
theorem dX10_fair_16 : decode cX10_fair 16 = .ok (.bipush 72, 2) := dg_cX10_fair_53.2.2.2.2.2.2.2.2.2.1
theorem dX10_fair_18 : decode cX10_fair 18 = .ok (.if_icmp .gt 12, 3) := dg_cX10_fair_53.2.2.2.2.2.2.2.2.2.2.1
theorem dX10_fair_21 : decode cX10_fair 21 = .ok (.iload_n 3, 1) := dg_cX10_fair_53.2.2.2.2.2.2.2.2.2.2.2.1
theorem dX10_fair_22 : decode cX10_fair 22 = .ok (.ifCond .lt 8, 3) := dg_cX10_fair_53.2.2.2.2.2.2.2.2.2.2.2.2.1
theorem dX10_fair_25 : decode cX10_fair 25 = .ok (.iload_n 3, 1) := dg_cX10_fair_53.2.2.2.2.2.2.2.2.2.2.2.2.2.1
theorem dX10_fair_26 : decode cX10_fair 26 = .ok (.iconst 1, 1) := dg_cX10_fair_53.2.2.2.2.2.2.2.2.2.2.2.2.2.2.1
theorem dX10_fair_27 : decode cX10_fair 27 = .ok (.if_icmp .le 5, 3) := dg_cX10_fair_53.2.2.2.2.2.2.2.2.2.2.2.2.2.2.2
set_option maxRecDepth 100000 in
theorem dg_cX10_fair_54 : (decode cX10_fair 30 = .ok (.iconst (-1), 1)) ∧ (decode cX10_fair 31 = .ok (.ireturn, 1)) ∧ (decode cX10_fair 32 = .ok (.aload_n 0, 1)) ∧ (decode cX10_fair 33 = .ok (.getfield 58, 3)) ∧ (decode cX10_fair 36 = .ok (.iload_n 1, 1)) ∧ (decode cX10_fair 37 = .ok (.iload_n 2, 1)) ∧ (decode cX10_fair 38 = .ok (.invokevirtual 233, 3)) ∧ (decode cX10_fair 41 = .ok (.aload_n 0, 1)) ∧ (decode cX10_fair 42 = .ok (.getfield 58, 3)) ∧ (decode cX10_fair 45 = .ok (.getfield 236, 3)) ∧ (decode cX10_fair 48 = .ok (.ifCond .ne 6, 3)) ∧ (decode cX10_fair 51 = .ok (.bipush (-4), 2)) ∧ (decode cX10_fair 53 = .ok (.ireturn, 1)) ∧ (decode cX10_fair 54 = .ok (.iload_n 3, 1)) ∧ (decode cX10_fair 55 = .ok (.ifCond .ne 13, 3)) ∧ (decode cX10_fair 58 = .ok (.aload_n 0, 1)) := by decide +kernel
theorem dX10_fair_30 : decode cX10_fair 30 = .ok (.iconst (-1), 1) := dg_cX10_fair_54.1
theorem dX10_fair_31 : decode cX10_fair 31 = .ok (.ireturn, 1) := dg_cX10_fair_54.2.1
theorem dX10_fair_32 : decode cX10_fair 32 = .ok (.aload_n 0, 1) := dg_cX10_fair_54.2.2.1
theorem dX10_fair_33 : decode cX10_fair 33 = .ok (.getfield 58, 3) := dg_cX10_fair_54.2.2.2.1
theorem dX10_fair_36 : decode cX10_fair 36 = .ok (.iload_n 1, 1) := dg_cX10_fair_54.2.2.2.2.1
theorem dX10_fair_37 : decode cX10_fair 37 = .ok (.iload_n 2, 1) := dg_cX10_fair_54.2.2.2.2.2.1
theorem dX10_fair_38 : decode cX10_fair 38 = .ok (.invokevirtual 233, 3) := dg_cX10_fair_54.2.2.2.2.2.2.1
theorem dX10_fair_41 : decode cX10_fair 41 = .ok (.aload_n 0, 1) := dg_cX10_fair_54.2.2.2.2.2.2.2.1
theorem dX10_fair_42 : decode cX10_fair 42 = .ok (.getfield 58, 3) := dg_cX10_fair_54.2.2.2.2.2.2.2.2.1
theorem dX10_fair_45 : decode cX10_fair 45 = .ok (.getfield 236, 3) := dg_cX10_fair_54.2.2.2.2.2.2.2.2.2.1
theorem dX10_fair_48 : decode cX10_fair 48 = .ok (.ifCond .ne 6, 3) := dg_cX10_fair_54.2.2.2.2.2.2.2.2.2.2.1
theorem dX10_fair_51 : decode cX10_fair 51 = .ok (.bipush (-4), 2) := dg_cX10_fair_54.2.2.2.2.2.2.2.2.2.2.2.1
theorem dX10_fair_53 : decode cX10_fair 53 = .ok (.ireturn, 1) := dg_cX10_fair_54.2.2.2.2.2.2.2.2.2.2.2.2.1
theorem dX10_fair_54 : decode cX10_fair 54 = .ok (.iload_n 3, 1) := dg_cX10_fair_54.2.2.2.2.2.2.2.2.2.2.2.2.2.1
theorem dX10_fair_55 : decode cX10_fair 55 = .ok (.ifCond .ne 13, 3) := dg_cX10_fair_54.2.2.2.2.2.2.2.2.2.2.2.2.2.2.1
theorem dX10_fair_58 : decode cX10_fair 58 = .ok (.aload_n 0, 1) := dg_cX10_fair_54.2.2.2.2.2.2.2.2.2.2.2.2.2.2.2
set_option maxRecDepth 100000 in
theorem dg_cX10_fair_55 : (decode cX10_fair 59 = .ok (.getfield 58, 3)) ∧ (decode cX10_fair 62 = .ok (.getfield 239, 3)) ∧ (decode cX10_fair 65 = .ok (.goto 10, 3)) ∧ (decode cX10_fair 68 = .ok (.aload_n 0, 1)) ∧ (decode cX10_fair 69 = .ok (.getfield 58, 3)) ∧ (decode cX10_fair 72 = .ok (.getfield 236, 3)) ∧ (decode cX10_fair 75 = .ok (.ireturn, 1)) := by decide +kernel
theorem dX10_fair_59 : decode cX10_fair 59 = .ok (.getfield 58, 3) := dg_cX10_fair_55.1
theorem dX10_fair_62 : decode cX10_fair 62 = .ok (.getfield 239, 3) := dg_cX10_fair_55.2.1
theorem dX10_fair_65 : decode cX10_fair 65 = .ok (.goto 10, 3) := dg_cX10_fair_55.2.2.1
theorem dX10_fair_68 : decode cX10_fair 68 = .ok (.aload_n 0, 1) := dg_cX10_fair_55.2.2.2.1
theorem dX10_fair_69 : decode cX10_fair 69 = .ok (.getfield 58, 3) := dg_cX10_fair_55.2.2.2.2.1
theorem dX10_fair_72 : decode cX10_fair 72 = .ok (.getfield 236, 3) := dg_cX10_fair_55.2.2.2.2.2.1
theorem dX10_fair_75 : decode cX10_fair 75 = .ok (.ireturn, 1) := dg_cX10_fair_55.2.2.2.2.2.2
set_option maxRecDepth 100000 in
theorem dg_cX10_nearest_56 : (decode cX10_nearest 0 = .ok (.aload_n 0, 1)) ∧ (decode cX10_nearest 1 = .ok (.getfield 28, 3)) ∧ (decode cX10_nearest 4 = .ok (.iload_n 1, 1)) ∧ (decode cX10_nearest 5 = .ok (.invokevirtual 147, 3)) ∧ (decode cX10_nearest 8 = .ok (.ifCond .eq 14, 3)) ∧ (decode cX10_nearest 11 = .ok (.aload_n 0, 1)) ∧ (decode cX10_nearest 12 = .ok (.getfield 36, 3)) ∧ (decode cX10_nearest 15 = .ok (.iload_n 2, 1)) ∧ (decode cX10_nearest 16 = .ok (.invokevirtual 127, 3)) ∧ (decode cX10_nearest 19 = .ok (.ifCond .ne 5, 3)) ∧ (decode cX10_nearest 22 = .ok (.iconst (-1), 1)) ∧ (decode cX10_nearest 23 = .ok (.ireturn, 1)) ∧ (decode cX10_nearest 24 = .ok (.iload_n 3, 1)) ∧ (decode cX10_nearest 25 = .ok (.ifCond .eq 17, 3)) ∧ (decode cX10_nearest 28 = .ok (.aload_n 0, 1)) ∧ (decode cX10_nearest 29 = .ok (.getfield 28, 3)) := by decide +kernel
theorem dX10_nearest_0 : decode cX10_nearest 0 = .ok (.aload_n 0, 1) := dg_cX10_nearest_56.1
theorem dX10_nearest_1 : decode cX10_nearest 1 = .ok (.getfield 28, 3) := dg_cX10_nearest_56.2.1
theorem dX10_nearest_4 : decode cX10_nearest 4 = .ok (.iload_n 1, 1) := dg_cX10_nearest_56.2.2.1
theorem dX10_nearest_5 : decode cX10_nearest 5 = .ok (.invokevirtual 147, 3) := dg_cX10_nearest_56.2.2.2.1
theorem dX10_nearest_8 : decode cX10_nearest 8 = .ok (.ifCond .eq 14, 3) := dg_cX10_nearest_56.2.2.2.2.1
theorem dX10_nearest_11 : decode cX10_nearest 11 = .ok (.aload_n 0, 1) := dg_cX10_nearest_56.2.2.2.2.2.1
theorem dX10_nearest_12 : decode cX10_nearest 12 = .ok (.getfield 36, 3) := dg_cX10_nearest_56.2.2.2.2.2.2.1
theorem dX10_nearest_15 : decode cX10_nearest 15 = .ok (.iload_n 2, 1) := dg_cX10_nearest_56.2.2.2.2.2.2.2.1
theorem dX10_nearest_16 : decode cX10_nearest 16 = .ok (.invokevirtual 127, 3) := dg_cX10_nearest_56.2.2.2.2.2.2.2.2.1
theorem dX10_nearest_19 : decode cX10_nearest 19 = .ok (.ifCond .ne 5, 3) := dg_cX10_nearest_56.2.2.2.2.2.2.2.2.2.1
theorem dX10_nearest_22 : decode cX10_nearest 22 = .ok (.iconst (-1), 1) := dg_cX10_nearest_56.2.2.2.2.2.2.2.2.2.2.1
theorem dX10_nearest_23 : decode cX10_nearest 23 = .ok (.ireturn, 1) := dg_cX10_nearest_56.2.2.2.2.2.2.2.2.2.2.2.1
theorem dX10_nearest_24 : decode cX10_nearest 24 = .ok (.iload_n 3, 1) := dg_cX10_nearest_56.2.2.2.2.2.2.2.2.2.2.2.2.1
theorem dX10_nearest_25 : decode cX10_nearest 25 = .ok (.ifCond .eq 17, 3) := dg_cX10_nearest_56.2.2.2.2.2.2.2.2.2.2.2.2.2.1
theorem dX10_nearest_28 : decode cX10_nearest 28 = .ok (.aload_n 0, 1) := dg_cX10_nearest_56.2.2.2.2.2.2.2.2.2.2.2.2.2.2.1
theorem dX10_nearest_29 : decode cX10_nearest 29 = .ok (.getfield 28, 3) := dg_cX10_nearest_56.2.2.2.2.2.2.2.2.2.2.2.2.2.2.2
set_option maxRecDepth 100000 in
theorem dg_cX10_nearest_57 : (decode cX10_nearest 32 = .ok (.iload_n 1, 1)) ∧ (decode cX10_nearest 33 = .ok (.iload_n 3, 1)) ∧ (decode cX10_nearest 34 = .ok (.invokevirtual 155, 3)) ∧ (decode cX10_nearest 37 = .ok (.ifCond .ne 5, 3)) ∧ (decode cX10_nearest 40 = .ok (.iconst (-1), 1)) ∧ (decode cX10_nearest 41 = .ok (.ireturn, 1)) ∧ (decode cX10_nearest 42 = .ok (.aload_n 0, 1)) ∧ (decode cX10_nearest 43 = .ok (.getfield 65, 3)) ∧ (decode cX10_nearest 46 = .ok (.iload_n 1, 1)) ∧ (decode cX10_nearest 47 = .ok (.iload_n 2, 1)) ∧ (decode cX10_nearest 48 = .ok (.invokevirtual 240, 3)) ∧ (decode cX10_nearest 51 = .ok (.aload_n 0, 1)) ∧ (decode cX10_nearest 52 = .ok (.getfield 65, 3)) ∧ (decode cX10_nearest 55 = .ok (.getfield 243, 3)) ∧ (decode cX10_nearest 58 = .ok (.ldc 246, 2)) ∧ (decode cX10_nearest 60 = .ok (.if_icmp .ne 6, 3)) := by decide +kernel
theorem dX10_nearest_32 : decode cX10_nearest 32 = .ok (.iload_n 1, 1) := dg_cX10_nearest_57.1
theorem dX10_nearest_33 : decode cX10_nearest 33 = .ok (.iload_n 3, 1) := dg_cX10_nearest_57.2.1
theorem dX10_nearest_34 : decode cX10_nearest 34 = .ok (.invokevirtual 155, 3) := dg_cX10_nearest_57.2.2.1
theorem dX10_nearest_37 : decode cX10_nearest 37 = .ok (.ifCond .ne 5, 3) := dg_cX10_nearest_57.2.2.2.1
theorem dX10_nearest_40 : decode cX10_nearest 40 = .ok (.iconst (-1), 1) := dg_cX10_nearest_57.2.2.2.2.1
theorem dX10_nearest_41 : decode cX10_nearest 41 = .ok (.ireturn, 1) := dg_cX10_nearest_57.2.2.2.2.2.1
theorem dX10_nearest_42 : decode cX10_nearest 42 = .ok (.aload_n 0, 1) := dg_cX10_nearest_57.2.2.2.2.2.2.1
theorem dX10_nearest_43 : decode cX10_nearest 43 = .ok (.getfield 65, 3) := dg_cX10_nearest_57.2.2.2.2.2.2.2.1
theorem dX10_nearest_46 : decode cX10_nearest 46 = .ok (.iload_n 1, 1) := dg_cX10_nearest_57.2.2.2.2.2.2.2.2.1
theorem dX10_nearest_47 : decode cX10_nearest 47 = .ok (.iload_n 2, 1) := dg_cX10_nearest_57.2.2.2.2.2.2.2.2.2.1
theorem dX10_nearest_48 : decode cX10_nearest 48 = .ok (.invokevirtual 240, 3) := dg_cX10_nearest_57.2.2.2.2.2.2.2.2.2.2.1
theorem dX10_nearest_51 : decode cX10_nearest 51 = .ok (.aload_n 0, 1) := dg_cX10_nearest_57.2.2.2.2.2.2.2.2.2.2.2.1
theorem dX10_nearest_52 : decode cX10_nearest 52 = .ok (.getfield 65, 3) := dg_cX10_nearest_57.2.2.2.2.2.2.2.2.2.2.2.2.1
theorem dX10_nearest_55 : decode cX10_nearest 55 = .ok (.getfield 243, 3) := dg_cX10_nearest_57.2.2.2.2.2.2.2.2.2.2.2.2.2.1
theorem dX10_nearest_58 : decode cX10_nearest 58 = .ok (.ldc 246, 2) := dg_cX10_nearest_57.2.2.2.2.2.2.2.2.2.2.2.2.2.2.1
theorem dX10_nearest_60 : decode cX10_nearest 60 = .ok (.if_icmp .ne 6, 3) := dg_cX10_nearest_57.2.2.2.2.2.2.2.2.2.2.2.2.2.2.2
set_option maxRecDepth 100000 in
theorem dg_cX10_nearest_58 : (decode cX10_nearest 63 = .ok (.bipush (-4), 2)) ∧ (decode cX10_nearest 65 = .ok (.ireturn, 1)) ∧ (decode cX10_nearest 66 = .ok (.iload_n 3, 1)) ∧ (decode cX10_nearest 67 = .ok (.ifCond .ne 13, 3)) ∧ (decode cX10_nearest 70 = .ok (.aload_n 0, 1)) ∧ (decode cX10_nearest 71 = .ok (.getfield 65, 3)) ∧ (decode cX10_nearest 74 = .ok (.getfield 243, 3)) ∧ (decode cX10_nearest 77 = .ok (.goto 15, 3)) ∧ (decode cX10_nearest 80 = .ok (.aload_n 0, 1)) ∧ (decode cX10_nearest 81 = .ok (.getfield 65, 3)) ∧ (decode cX10_nearest 84 = .ok (.getfield 247, 3)) ∧ (decode cX10_nearest 87 = .ok (.iload_n 3, 1)) ∧ (decode cX10_nearest 88 = .ok (.bipush 10, 2)) ∧ (decode cX10_nearest 90 = .ok (.isub, 1)) ∧ (decode cX10_nearest 91 = .ok (.iaload, 1)) ∧ (decode cX10_nearest 92 = .ok (.ireturn, 1)) := by decide +kernel
theorem dX10_nearest_63 : decode cX10_nearest 63 = .ok (.bipush (-4), 2) := dg_cX10_nearest_58.1
theorem dX10_nearest_65 : decode cX10_nearest 65 = .ok (.ireturn, 1) := dg_cX10_nearest_58.2.1
theorem dX10_nearest_66 : decode cX10_nearest 66 = .ok (.iload_n 3, 1) := dg_cX10_nearest_58.2.2.1
theorem dX10_nearest_67 : decode cX10_nearest 67 = .ok (.ifCond .ne 13, 3) := dg_cX10_nearest_58.2.2.2.1
theorem dX10_nearest_70 : decode cX10_nearest 70 = .ok (.aload_n 0, 1) := dg_cX10_nearest_58.2.2.2.2.1
theorem dX10_nearest_71 : decode cX10_nearest 71 = .ok (.getfield 65, 3) := dg_cX10_nearest_58.2.2.2.2.2.1
theorem dX10_nearest_74 : decode cX10_nearest 74 = .ok (.getfield 243, 3) := dg_cX10_nearest_58.2.2.2.2.2.2.1
theorem dX10_nearest_77 : decode cX10_nearest 77 = .ok (.goto 15, 3) := dg_cX10_nearest_58.2.2.2.2.2.2.2.1
theorem dX10_nearest_80 : decode cX10_nearest 80 = .ok (.aload_n 0, 1) := dg_cX10_nearest_58.2.2.2.2.2.2.2.2.1
theorem dX10_nearest_81 : decode cX10_nearest 81 = .ok (.getfield 65, 3) := dg_cX10_nearest_58.2.2.2.2.2.2.2.2.2.1
theorem dX10_nearest_84 : decode cX10_nearest 84 = .ok (.getfield 247, 3) := dg_cX10_nearest_58.2.2.2.2.2.2.2.2.2.2.1
theorem dX10_nearest_87 : decode cX10_nearest 87 = .ok (.iload_n 3, 1) := dg_cX10_nearest_58.2.2.2.2.2.2.2.2.2.2.2.1
theorem dX10_nearest_88 : decode cX10_nearest 88 = .ok (.bipush 10, 2) := dg_cX10_nearest_58.2.2.2.2.2.2.2.2.2.2.2.2.1
theorem dX10_nearest_90 : decode cX10_nearest 90 = .ok (.isub, 1) := dg_cX10_nearest_58.2.2.2.2.2.2.2.2.2.2.2.2.2.1
theorem dX10_nearest_91 : decode cX10_nearest 91 = .ok (.iaload, 1) := dg_cX10_nearest_58.2.2.2.2.2.2.2.2.2.2.2.2.2.2.1
theorem dX10_nearest_92 : decode cX10_nearest 92 = .ok (.ireturn, 1) := dg_cX10_nearest_58.2.2.2.2.2.2.2.2.2.2.2.2.2.2.2
set_option maxRecDepth 100000 in
theorem dg_cX10_dear_59 : (decode cX10_dear 0 = .ok (.aload_n 0, 1)) ∧ (decode cX10_dear 1 = .ok (.getfield 28, 3)) ∧ (decode cX10_dear 4 = .ok (.iload_n 1, 1)) ∧ (decode cX10_dear 5 = .ok (.invokevirtual 147, 3)) ∧ (decode cX10_dear 8 = .ok (.ifCond .ne 5, 3)) ∧ (decode cX10_dear 11 = .ok (.iconst (-1), 1)) ∧ (decode cX10_dear 12 = .ok (.ireturn, 1)) ∧ (decode cX10_dear 13 = .ok (.bipush (-4), 2)) ∧ (decode cX10_dear 15 = .ok (.istore_n 2, 1)) ∧ (decode cX10_dear 16 = .ok (.iconst (-1), 1)) ∧ (decode cX10_dear 17 = .ok (.istore_n 3, 1)) ∧ (decode cX10_dear 18 = .ok (.iconst 0, 1)) ∧ (decode cX10_dear 19 = .ok (.istore 4, 2)) ∧ (decode cX10_dear 21 = .ok (.iload 4, 2)) ∧ (decode cX10_dear 23 = .ok (.aload_n 0, 1)) ∧ (decode cX10_dear 24 = .ok (.getfield 36, 3)) := by decide +kernel
theorem dX10_dear_0 : decode cX10_dear 0 = .ok (.aload_n 0, 1) := dg_cX10_dear_59.1
theorem dX10_dear_1 : decode cX10_dear 1 = .ok (.getfield 28, 3) := dg_cX10_dear_59.2.1
theorem dX10_dear_4 : decode cX10_dear 4 = .ok (.iload_n 1, 1) := dg_cX10_dear_59.2.2.1
theorem dX10_dear_5 : decode cX10_dear 5 = .ok (.invokevirtual 147, 3) := dg_cX10_dear_59.2.2.2.1
theorem dX10_dear_8 : decode cX10_dear 8 = .ok (.ifCond .ne 5, 3) := dg_cX10_dear_59.2.2.2.2.1
theorem dX10_dear_11 : decode cX10_dear 11 = .ok (.iconst (-1), 1) := dg_cX10_dear_59.2.2.2.2.2.1
theorem dX10_dear_12 : decode cX10_dear 12 = .ok (.ireturn, 1) := dg_cX10_dear_59.2.2.2.2.2.2.1
theorem dX10_dear_13 : decode cX10_dear 13 = .ok (.bipush (-4), 2) := dg_cX10_dear_59.2.2.2.2.2.2.2.1
theorem dX10_dear_15 : decode cX10_dear 15 = .ok (.istore_n 2, 1) := dg_cX10_dear_59.2.2.2.2.2.2.2.2.1
theorem dX10_dear_16 : decode cX10_dear 16 = .ok (.iconst (-1), 1) := dg_cX10_dear_59.2.2.2.2.2.2.2.2.2.1
theorem dX10_dear_17 : decode cX10_dear 17 = .ok (.istore_n 3, 1) := dg_cX10_dear_59.2.2.2.2.2.2.2.2.2.2.1
theorem dX10_dear_18 : decode cX10_dear 18 = .ok (.iconst 0, 1) := dg_cX10_dear_59.2.2.2.2.2.2.2.2.2.2.2.1
theorem dX10_dear_19 : decode cX10_dear 19 = .ok (.istore 4, 2) := dg_cX10_dear_59.2.2.2.2.2.2.2.2.2.2.2.2.1
theorem dX10_dear_21 : decode cX10_dear 21 = .ok (.iload 4, 2) := dg_cX10_dear_59.2.2.2.2.2.2.2.2.2.2.2.2.2.1
theorem dX10_dear_23 : decode cX10_dear 23 = .ok (.aload_n 0, 1) := dg_cX10_dear_59.2.2.2.2.2.2.2.2.2.2.2.2.2.2.1
theorem dX10_dear_24 : decode cX10_dear 24 = .ok (.getfield 36, 3) := dg_cX10_dear_59.2.2.2.2.2.2.2.2.2.2.2.2.2.2.2
set_option maxRecDepth 100000 in
theorem dg_cX10_dear_60 : (decode cX10_dear 27 = .ok (.getfield 250, 3)) ∧ (decode cX10_dear 30 = .ok (.if_icmp .ge 41, 3)) ∧ (decode cX10_dear 33 = .ok (.aload_n 0, 1)) ∧ (decode cX10_dear 34 = .ok (.getfield 65, 3)) ∧ (decode cX10_dear 37 = .ok (.iload_n 1, 1)) ∧ (decode cX10_dear 38 = .ok (.iload 4, 2)) ∧ (decode cX10_dear 40 = .ok (.invokevirtual 240, 3)) ∧ (decode cX10_dear 43 = .ok (.aload_n 0, 1)) ∧ (decode cX10_dear 44 = .ok (.getfield 65, 3)) ∧ (decode cX10_dear 47 = .ok (.getfield 243, 3)) ∧ (decode cX10_dear 50 = .ok (.iload_n 3, 1)) ∧ (decode cX10_dear 51 = .ok (.if_icmp .le 14, 3)) ∧ (decode cX10_dear 54 = .ok (.aload_n 0, 1)) ∧ (decode cX10_dear 55 = .ok (.getfield 65, 3)) ∧ (decode cX10_dear 58 = .ok (.getfield 243, 3)) ∧ (decode cX10_dear 61 = .ok (.istore_n 3, 1)) := by decide +kernel
theorem dX10_dear_27 : decode cX10_dear 27 = .ok (.getfield 250, 3) := dg_cX10_dear_60.1
theorem dX10_dear_30 : decode cX10_dear 30 = .ok (.if_icmp .ge 41, 3) := dg_cX10_dear_60.2.1
theorem dX10_dear_33 : decode cX10_dear 33 = .ok (.aload_n 0, 1) := dg_cX10_dear_60.2.2.1
theorem dX10_dear_34 : decode cX10_dear 34 = .ok (.getfield 65, 3) := dg_cX10_dear_60.2.2.2.1
theorem dX10_dear_37 : decode cX10_dear 37 = .ok (.iload_n 1, 1) := dg_cX10_dear_60.2.2.2.2.1
theorem dX10_dear_38 : decode cX10_dear 38 = .ok (.iload 4, 2) := dg_cX10_dear_60.2.2.2.2.2.1
theorem dX10_dear_40 : decode cX10_dear 40 = .ok (.invokevirtual 240, 3) := dg_cX10_dear_60.2.2.2.2.2.2.1
theorem dX10_dear_43 : decode cX10_dear 43 = .ok (.aload_n 0, 1) := dg_cX10_dear_60.2.2.2.2.2.2.2.1
theorem dX10_dear_44 : decode cX10_dear 44 = .ok (.getfield 65, 3) := dg_cX10_dear_60.2.2.2.2.2.2.2.2.1
theorem dX10_dear_47 : decode cX10_dear 47 = .ok (.getfield 243, 3) := dg_cX10_dear_60.2.2.2.2.2.2.2.2.2.1
theorem dX10_dear_50 : decode cX10_dear 50 = .ok (.iload_n 3, 1) := dg_cX10_dear_60.2.2.2.2.2.2.2.2.2.2.1
theorem dX10_dear_51 : decode cX10_dear 51 = .ok (.if_icmp .le 14, 3) := dg_cX10_dear_60.2.2.2.2.2.2.2.2.2.2.2.1
theorem dX10_dear_54 : decode cX10_dear 54 = .ok (.aload_n 0, 1) := dg_cX10_dear_60.2.2.2.2.2.2.2.2.2.2.2.2.1
theorem dX10_dear_55 : decode cX10_dear 55 = .ok (.getfield 65, 3) := dg_cX10_dear_60.2.2.2.2.2.2.2.2.2.2.2.2.2.1
theorem dX10_dear_58 : decode cX10_dear 58 = .ok (.getfield 243, 3) := dg_cX10_dear_60.2.2.2.2.2.2.2.2.2.2.2.2.2.2.1
theorem dX10_dear_61 : decode cX10_dear 61 = .ok (.istore_n 3, 1) := dg_cX10_dear_60.2.2.2.2.2.2.2.2.2.2.2.2.2.2.2
set_option maxRecDepth 100000 in
theorem dg_cX10_dear_61 : (decode cX10_dear 62 = .ok (.iload 4, 2)) ∧ (decode cX10_dear 64 = .ok (.istore_n 2, 1)) ∧ (decode cX10_dear 65 = .ok (.iinc 4 1, 3)) ∧ (decode cX10_dear 68 = .ok (.goto (-47), 3)) ∧ (decode cX10_dear 71 = .ok (.iload_n 2, 1)) ∧ (decode cX10_dear 72 = .ok (.ireturn, 1)) := by decide +kernel
theorem dX10_dear_62 : decode cX10_dear 62 = .ok (.iload 4, 2) := dg_cX10_dear_61.1
theorem dX10_dear_64 : decode cX10_dear 64 = .ok (.istore_n 2, 1) := dg_cX10_dear_61.2.1
theorem dX10_dear_65 : decode cX10_dear 65 = .ok (.iinc 4 1, 3) := dg_cX10_dear_61.2.2.1
theorem dX10_dear_68 : decode cX10_dear 68 = .ok (.goto (-47), 3) := dg_cX10_dear_61.2.2.2.1
theorem dX10_dear_71 : decode cX10_dear 71 = .ok (.iload_n 2, 1) := dg_cX10_dear_61.2.2.2.2.1
theorem dX10_dear_72 : decode cX10_dear 72 = .ok (.ireturn, 1) := dg_cX10_dear_61.2.2.2.2.2
set_option maxRecDepth 100000 in
theorem dg_cX10_storm_62 : (decode cX10_storm 0 = .ok (.aload_n 0, 1)) ∧ (decode cX10_storm 1 = .ok (.getfield 28, 3)) ∧ (decode cX10_storm 4 = .ok (.iload_n 1, 1)) ∧ (decode cX10_storm 5 = .ok (.invokevirtual 163, 3)) ∧ (decode cX10_storm 8 = .ok (.ifCond .eq 12, 3)) ∧ (decode cX10_storm 11 = .ok (.iload_n 2, 1)) ∧ (decode cX10_storm 12 = .ok (.ifCond .lt 8, 3)) ∧ (decode cX10_storm 15 = .ok (.iload_n 2, 1)) ∧ (decode cX10_storm 16 = .ok (.iconst 1, 1)) ∧ (decode cX10_storm 17 = .ok (.if_icmp .le 5, 3)) ∧ (decode cX10_storm 20 = .ok (.iconst (-1), 1)) ∧ (decode cX10_storm 21 = .ok (.ireturn, 1)) ∧ (decode cX10_storm 22 = .ok (.iconst 0, 1)) ∧ (decode cX10_storm 23 = .ok (.istore_n 3, 1)) ∧ (decode cX10_storm 24 = .ok (.iconst 0, 1)) ∧ (decode cX10_storm 25 = .ok (.istore 4, 2)) := by decide +kernel
theorem dX10_storm_0 : decode cX10_storm 0 = .ok (.aload_n 0, 1) := dg_cX10_storm_62.1
theorem dX10_storm_1 : decode cX10_storm 1 = .ok (.getfield 28, 3) := dg_cX10_storm_62.2.1
theorem dX10_storm_4 : decode cX10_storm 4 = .ok (.iload_n 1, 1) := dg_cX10_storm_62.2.2.1
theorem dX10_storm_5 : decode cX10_storm 5 = .ok (.invokevirtual 163, 3) := dg_cX10_storm_62.2.2.2.1
theorem dX10_storm_8 : decode cX10_storm 8 = .ok (.ifCond .eq 12, 3) := dg_cX10_storm_62.2.2.2.2.1
theorem dX10_storm_11 : decode cX10_storm 11 = .ok (.iload_n 2, 1) := dg_cX10_storm_62.2.2.2.2.2.1
theorem dX10_storm_12 : decode cX10_storm 12 = .ok (.ifCond .lt 8, 3) := dg_cX10_storm_62.2.2.2.2.2.2.1
theorem dX10_storm_15 : decode cX10_storm 15 = .ok (.iload_n 2, 1) := dg_cX10_storm_62.2.2.2.2.2.2.2.1
theorem dX10_storm_16 : decode cX10_storm 16 = .ok (.iconst 1, 1) := dg_cX10_storm_62.2.2.2.2.2.2.2.2.1
theorem dX10_storm_17 : decode cX10_storm 17 = .ok (.if_icmp .le 5, 3) := dg_cX10_storm_62.2.2.2.2.2.2.2.2.2.1
theorem dX10_storm_20 : decode cX10_storm 20 = .ok (.iconst (-1), 1) := dg_cX10_storm_62.2.2.2.2.2.2.2.2.2.2.1
theorem dX10_storm_21 : decode cX10_storm 21 = .ok (.ireturn, 1) := dg_cX10_storm_62.2.2.2.2.2.2.2.2.2.2.2.1
theorem dX10_storm_22 : decode cX10_storm 22 = .ok (.iconst 0, 1) := dg_cX10_storm_62.2.2.2.2.2.2.2.2.2.2.2.2.1
theorem dX10_storm_23 : decode cX10_storm 23 = .ok (.istore_n 3, 1) := dg_cX10_storm_62.2.2.2.2.2.2.2.2.2.2.2.2.2.1
theorem dX10_storm_24 : decode cX10_storm 24 = .ok (.iconst 0, 1) := dg_cX10_storm_62.2.2.2.2.2.2.2.2.2.2.2.2.2.2.1
theorem dX10_storm_25 : decode cX10_storm 25 = .ok (.istore 4, 2) := dg_cX10_storm_62.2.2.2.2.2.2.2.2.2.2.2.2.2.2.2
set_option maxRecDepth 100000 in
theorem dg_cX10_storm_63 : (decode cX10_storm 27 = .ok (.iconst 0, 1)) ∧ (decode cX10_storm 28 = .ok (.istore 5, 2)) ∧ (decode cX10_storm 30 = .ok (.iconst 0, 1)) ∧ (decode cX10_storm 31 = .ok (.istore 6, 2)) ∧ (decode cX10_storm 33 = .ok (.iload 6, 2)) ∧ (decode cX10_storm 35 = .ok (.aload_n 0, 1)) ∧ (decode cX10_storm 36 = .ok (.getfield 36, 3)) ∧ (decode cX10_storm 39 = .ok (.getfield 250, 3)) ∧ (decode cX10_storm 42 = .ok (.if_icmp .ge 63, 3)) ∧ (decode cX10_storm 45 = .ok (.iload_n 3, 1)) ∧ (decode cX10_storm 46 = .ok (.aload_n 0, 1)) ∧ (decode cX10_storm 47 = .ok (.getfield 36, 3)) ∧ (decode cX10_storm 50 = .ok (.iload_n 1, 1)) ∧ (decode cX10_storm 51 = .ok (.iload 6, 2)) ∧ (decode cX10_storm 53 = .ok (.invokevirtual 253, 3)) ∧ (decode cX10_storm 56 = .ok (.iadd, 1)) := by decide +kernel
theorem dX10_storm_27 : decode cX10_storm 27 = .ok (.iconst 0, 1) := dg_cX10_storm_63.1
theorem dX10_storm_28 : decode cX10_storm 28 = .ok (.istore 5, 2) := dg_cX10_storm_63.2.1
theorem dX10_storm_30 : decode cX10_storm 30 = .ok (.iconst 0, 1) := dg_cX10_storm_63.2.2.1
theorem dX10_storm_31 : decode cX10_storm 31 = .ok (.istore 6, 2) := dg_cX10_storm_63.2.2.2.1
theorem dX10_storm_33 : decode cX10_storm 33 = .ok (.iload 6, 2) := dg_cX10_storm_63.2.2.2.2.1
theorem dX10_storm_35 : decode cX10_storm 35 = .ok (.aload_n 0, 1) := dg_cX10_storm_63.2.2.2.2.2.1
theorem dX10_storm_36 : decode cX10_storm 36 = .ok (.getfield 36, 3) := dg_cX10_storm_63.2.2.2.2.2.2.1
theorem dX10_storm_39 : decode cX10_storm 39 = .ok (.getfield 250, 3) := dg_cX10_storm_63.2.2.2.2.2.2.2.1
theorem dX10_storm_42 : decode cX10_storm 42 = .ok (.if_icmp .ge 63, 3) := dg_cX10_storm_63.2.2.2.2.2.2.2.2.1
theorem dX10_storm_45 : decode cX10_storm 45 = .ok (.iload_n 3, 1) := dg_cX10_storm_63.2.2.2.2.2.2.2.2.2.1
theorem dX10_storm_46 : decode cX10_storm 46 = .ok (.aload_n 0, 1) := dg_cX10_storm_63.2.2.2.2.2.2.2.2.2.2.1
theorem dX10_storm_47 : decode cX10_storm 47 = .ok (.getfield 36, 3) := dg_cX10_storm_63.2.2.2.2.2.2.2.2.2.2.2.1
theorem dX10_storm_50 : decode cX10_storm 50 = .ok (.iload_n 1, 1) := dg_cX10_storm_63.2.2.2.2.2.2.2.2.2.2.2.2.1
theorem dX10_storm_51 : decode cX10_storm 51 = .ok (.iload 6, 2) := dg_cX10_storm_63.2.2.2.2.2.2.2.2.2.2.2.2.2.1
theorem dX10_storm_53 : decode cX10_storm 53 = .ok (.invokevirtual 253, 3) := dg_cX10_storm_63.2.2.2.2.2.2.2.2.2.2.2.2.2.2.1
theorem dX10_storm_56 : decode cX10_storm 56 = .ok (.iadd, 1) := dg_cX10_storm_63.2.2.2.2.2.2.2.2.2.2.2.2.2.2.2
set_option maxRecDepth 100000 in
theorem dg_cX10_storm_64 : (decode cX10_storm 57 = .ok (.istore_n 3, 1)) ∧ (decode cX10_storm 58 = .ok (.iload 4, 2)) ∧ (decode cX10_storm 60 = .ok (.aload_n 0, 1)) ∧ (decode cX10_storm 61 = .ok (.getfield 36, 3)) ∧ (decode cX10_storm 64 = .ok (.getfield 131, 3)) ∧ (decode cX10_storm 67 = .ok (.iload 6, 2)) ∧ (decode cX10_storm 69 = .ok (.iaload, 1)) ∧ (decode cX10_storm 70 = .ok (.iload_n 1, 1)) ∧ (decode cX10_storm 71 = .ok (.if_icmp .ne 7, 3)) ∧ (decode cX10_storm 74 = .ok (.iconst 1, 1)) ∧ (decode cX10_storm 75 = .ok (.goto 4, 3)) ∧ (decode cX10_storm 78 = .ok (.iconst 0, 1)) ∧ (decode cX10_storm 79 = .ok (.iadd, 1)) ∧ (decode cX10_storm 80 = .ok (.istore 4, 2)) ∧ (decode cX10_storm 82 = .ok (.iload 5, 2)) ∧ (decode cX10_storm 84 = .ok (.iconst 2, 1)) := by decide +kernel
theorem dX10_storm_57 : decode cX10_storm 57 = .ok (.istore_n 3, 1) := dg_cX10_storm_64.1
theorem dX10_storm_58 : decode cX10_storm 58 = .ok (.iload 4, 2) := dg_cX10_storm_64.2.1
theorem dX10_storm_60 : decode cX10_storm 60 = .ok (.aload_n 0, 1) := dg_cX10_storm_64.2.2.1
theorem dX10_storm_61 : decode cX10_storm 61 = .ok (.getfield 36, 3) := dg_cX10_storm_64.2.2.2.1
theorem dX10_storm_64 : decode cX10_storm 64 = .ok (.getfield 131, 3) := dg_cX10_storm_64.2.2.2.2.1
theorem dX10_storm_67 : decode cX10_storm 67 = .ok (.iload 6, 2) := dg_cX10_storm_64.2.2.2.2.2.1
theorem dX10_storm_69 : decode cX10_storm 69 = .ok (.iaload, 1) := dg_cX10_storm_64.2.2.2.2.2.2.1
theorem dX10_storm_70 : decode cX10_storm 70 = .ok (.iload_n 1, 1) := dg_cX10_storm_64.2.2.2.2.2.2.2.1
theorem dX10_storm_71 : decode cX10_storm 71 = .ok (.if_icmp .ne 7, 3) := dg_cX10_storm_64.2.2.2.2.2.2.2.2.1
theorem dX10_storm_74 : decode cX10_storm 74 = .ok (.iconst 1, 1) := dg_cX10_storm_64.2.2.2.2.2.2.2.2.2.1
theorem dX10_storm_75 : decode cX10_storm 75 = .ok (.goto 4, 3) := dg_cX10_storm_64.2.2.2.2.2.2.2.2.2.2.1
theorem dX10_storm_78 : decode cX10_storm 78 = .ok (.iconst 0, 1) := dg_cX10_storm_64.2.2.2.2.2.2.2.2.2.2.2.1
theorem dX10_storm_79 : decode cX10_storm 79 = .ok (.iadd, 1) := dg_cX10_storm_64.2.2.2.2.2.2.2.2.2.2.2.2.1
theorem dX10_storm_80 : decode cX10_storm 80 = .ok (.istore 4, 2) := dg_cX10_storm_64.2.2.2.2.2.2.2.2.2.2.2.2.2.1
theorem dX10_storm_82 : decode cX10_storm 82 = .ok (.iload 5, 2) := dg_cX10_storm_64.2.2.2.2.2.2.2.2.2.2.2.2.2.2.1
theorem dX10_storm_84 : decode cX10_storm 84 = .ok (.iconst 2, 1) := dg_cX10_storm_64.2.2.2.2.2.2.2.2.2.2.2.2.2.2.2
set_option maxRecDepth 100000 in
theorem dg_cX10_storm_65 : (decode cX10_storm 85 = .ok (.aload_n 0, 1)) ∧ (decode cX10_storm 86 = .ok (.getfield 36, 3)) ∧ (decode cX10_storm 89 = .ok (.getfield 135, 3)) ∧ (decode cX10_storm 92 = .ok (.iload 6, 2)) ∧ (decode cX10_storm 94 = .ok (.iaload, 1)) ∧ (decode cX10_storm 95 = .ok (.imul, 1)) ∧ (decode cX10_storm 96 = .ok (.iadd, 1)) ∧ (decode cX10_storm 97 = .ok (.istore 5, 2)) ∧ (decode cX10_storm 99 = .ok (.iinc 6 1, 3)) ∧ (decode cX10_storm 102 = .ok (.goto (-69), 3)) ∧ (decode cX10_storm 105 = .ok (.iload_n 2, 1)) ∧ (decode cX10_storm 106 = .ok (.ifCond .ne 7, 3)) ∧ (decode cX10_storm 109 = .ok (.iload_n 3, 1)) ∧ (decode cX10_storm 110 = .ok (.goto 21, 3)) ∧ (decode cX10_storm 113 = .ok (.aload_n 0, 1)) ∧ (decode cX10_storm 114 = .ok (.getfield 36, 3)) := by decide +kernel
theorem dX10_storm_85 : decode cX10_storm 85 = .ok (.aload_n 0, 1) := dg_cX10_storm_65.1
theorem dX10_storm_86 : decode cX10_storm 86 = .ok (.getfield 36, 3) := dg_cX10_storm_65.2.1
theorem dX10_storm_89 : decode cX10_storm 89 = .ok (.getfield 135, 3) := dg_cX10_storm_65.2.2.1
theorem dX10_storm_92 : decode cX10_storm 92 = .ok (.iload 6, 2) := dg_cX10_storm_65.2.2.2.1
theorem dX10_storm_94 : decode cX10_storm 94 = .ok (.iaload, 1) := dg_cX10_storm_65.2.2.2.2.1
theorem dX10_storm_95 : decode cX10_storm 95 = .ok (.imul, 1) := dg_cX10_storm_65.2.2.2.2.2.1
theorem dX10_storm_96 : decode cX10_storm 96 = .ok (.iadd, 1) := dg_cX10_storm_65.2.2.2.2.2.2.1
theorem dX10_storm_97 : decode cX10_storm 97 = .ok (.istore 5, 2) := dg_cX10_storm_65.2.2.2.2.2.2.2.1
theorem dX10_storm_99 : decode cX10_storm 99 = .ok (.iinc 6 1, 3) := dg_cX10_storm_65.2.2.2.2.2.2.2.2.1
theorem dX10_storm_102 : decode cX10_storm 102 = .ok (.goto (-69), 3) := dg_cX10_storm_65.2.2.2.2.2.2.2.2.2.1
theorem dX10_storm_105 : decode cX10_storm 105 = .ok (.iload_n 2, 1) := dg_cX10_storm_65.2.2.2.2.2.2.2.2.2.2.1
theorem dX10_storm_106 : decode cX10_storm 106 = .ok (.ifCond .ne 7, 3) := dg_cX10_storm_65.2.2.2.2.2.2.2.2.2.2.2.1
theorem dX10_storm_109 : decode cX10_storm 109 = .ok (.iload_n 3, 1) := dg_cX10_storm_65.2.2.2.2.2.2.2.2.2.2.2.2.1
theorem dX10_storm_110 : decode cX10_storm 110 = .ok (.goto 21, 3) := dg_cX10_storm_65.2.2.2.2.2.2.2.2.2.2.2.2.2.1
theorem dX10_storm_113 : decode cX10_storm 113 = .ok (.aload_n 0, 1) := dg_cX10_storm_65.2.2.2.2.2.2.2.2.2.2.2.2.2.2.1
theorem dX10_storm_114 : decode cX10_storm 114 = .ok (.getfield 36, 3) := dg_cX10_storm_65.2.2.2.2.2.2.2.2.2.2.2.2.2.2.2
set_option maxRecDepth 100000 in
theorem dg_cX10_storm_66 : (decode cX10_storm 117 = .ok (.getfield 250, 3)) ∧ (decode cX10_storm 120 = .ok (.iload_n 3, 1)) ∧ (decode cX10_storm 121 = .ok (.imul, 1)) ∧ (decode cX10_storm 122 = .ok (.iload 5, 2)) ∧ (decode cX10_storm 124 = .ok (.iload 4, 2)) ∧ (decode cX10_storm 126 = .ok (.imul, 1)) ∧ (decode cX10_storm 127 = .ok (.isub, 1)) ∧ (decode cX10_storm 128 = .ok (.ldc 254, 2)) ∧ (decode cX10_storm 130 = .ok (.iadd, 1)) ∧ (decode cX10_storm 131 = .ok (.ireturn, 1)) := by decide +kernel
theorem dX10_storm_117 : decode cX10_storm 117 = .ok (.getfield 250, 3) := dg_cX10_storm_66.1
theorem dX10_storm_120 : decode cX10_storm 120 = .ok (.iload_n 3, 1) := dg_cX10_storm_66.2.1
theorem dX10_storm_121 : decode cX10_storm 121 = .ok (.imul, 1) := dg_cX10_storm_66.2.2.1
theorem dX10_storm_122 : decode cX10_storm 122 = .ok (.iload 5, 2) := dg_cX10_storm_66.2.2.2.1
theorem dX10_storm_124 : decode cX10_storm 124 = .ok (.iload 4, 2) := dg_cX10_storm_66.2.2.2.2.1
theorem dX10_storm_126 : decode cX10_storm 126 = .ok (.imul, 1) := dg_cX10_storm_66.2.2.2.2.2.1
theorem dX10_storm_127 : decode cX10_storm 127 = .ok (.isub, 1) := dg_cX10_storm_66.2.2.2.2.2.2.1
theorem dX10_storm_128 : decode cX10_storm 128 = .ok (.ldc 254, 2) := dg_cX10_storm_66.2.2.2.2.2.2.2.1
theorem dX10_storm_130 : decode cX10_storm 130 = .ok (.iadd, 1) := dg_cX10_storm_66.2.2.2.2.2.2.2.2.1
theorem dX10_storm_131 : decode cX10_storm 131 = .ok (.ireturn, 1) := dg_cX10_storm_66.2.2.2.2.2.2.2.2.2
set_option maxRecDepth 100000 in
theorem dg_cX10_wine_67 : (decode cX10_wine 0 = .ok (.iload_n 1, 1)) ∧ (decode cX10_wine 1 = .ok (.ifCond .lt 21, 3)) ∧ (decode cX10_wine 4 = .ok (.iload_n 1, 1)) ∧ (decode cX10_wine 5 = .ok (.sipush 999, 3)) ∧ (decode cX10_wine 8 = .ok (.if_icmp .gt 14, 3)) ∧ (decode cX10_wine 11 = .ok (.aload_n 0, 1)) ∧ (decode cX10_wine 12 = .ok (.getfield 28, 3)) ∧ (decode cX10_wine 15 = .ok (.iload_n 2, 1)) ∧ (decode cX10_wine 16 = .ok (.invokevirtual 163, 3)) ∧ (decode cX10_wine 19 = .ok (.ifCond .ne 5, 3)) ∧ (decode cX10_wine 22 = .ok (.iconst (-1), 1)) ∧ (decode cX10_wine 23 = .ok (.ireturn, 1)) ∧ (decode cX10_wine 24 = .ok (.aload_n 0, 1)) ∧ (decode cX10_wine 25 = .ok (.getfield 58, 3)) ∧ (decode cX10_wine 28 = .ok (.invokevirtual 255, 3)) ∧ (decode cX10_wine 31 = .ok (.iconst 0, 1)) := by decide +kernel
theorem dX10_wine_0 : decode cX10_wine 0 = .ok (.iload_n 1, 1) := dg_cX10_wine_67.1
theorem dX10_wine_1 : decode cX10_wine 1 = .ok (.ifCond .lt 21, 3) := dg_cX10_wine_67.2.1
theorem dX10_wine_4 : decode cX10_wine 4 = .ok (.iload_n 1, 1) := dg_cX10_wine_67.2.2.1
theorem dX10_wine_5 : decode cX10_wine 5 = .ok (.sipush 999, 3) := dg_cX10_wine_67.2.2.2.1
theorem dX10_wine_8 : decode cX10_wine 8 = .ok (.if_icmp .gt 14, 3) := dg_cX10_wine_67.2.2.2.2.1
theorem dX10_wine_11 : decode cX10_wine 11 = .ok (.aload_n 0, 1) := dg_cX10_wine_67.2.2.2.2.2.1
theorem dX10_wine_12 : decode cX10_wine 12 = .ok (.getfield 28, 3) := dg_cX10_wine_67.2.2.2.2.2.2.1
theorem dX10_wine_15 : decode cX10_wine 15 = .ok (.iload_n 2, 1) := dg_cX10_wine_67.2.2.2.2.2.2.2.1
theorem dX10_wine_16 : decode cX10_wine 16 = .ok (.invokevirtual 163, 3) := dg_cX10_wine_67.2.2.2.2.2.2.2.2.1
theorem dX10_wine_19 : decode cX10_wine 19 = .ok (.ifCond .ne 5, 3) := dg_cX10_wine_67.2.2.2.2.2.2.2.2.2.1
theorem dX10_wine_22 : decode cX10_wine 22 = .ok (.iconst (-1), 1) := dg_cX10_wine_67.2.2.2.2.2.2.2.2.2.2.1
theorem dX10_wine_23 : decode cX10_wine 23 = .ok (.ireturn, 1) := dg_cX10_wine_67.2.2.2.2.2.2.2.2.2.2.2.1
theorem dX10_wine_24 : decode cX10_wine 24 = .ok (.aload_n 0, 1) := dg_cX10_wine_67.2.2.2.2.2.2.2.2.2.2.2.2.1
theorem dX10_wine_25 : decode cX10_wine 25 = .ok (.getfield 58, 3) := dg_cX10_wine_67.2.2.2.2.2.2.2.2.2.2.2.2.2.1
theorem dX10_wine_28 : decode cX10_wine 28 = .ok (.invokevirtual 255, 3) := dg_cX10_wine_67.2.2.2.2.2.2.2.2.2.2.2.2.2.2.1
theorem dX10_wine_31 : decode cX10_wine 31 = .ok (.iconst 0, 1) := dg_cX10_wine_67.2.2.2.2.2.2.2.2.2.2.2.2.2.2.2
set_option maxRecDepth 100000 in
theorem dg_cX10_wine_68 : (decode cX10_wine 32 = .ok (.istore_n 3, 1)) ∧ (decode cX10_wine 33 = .ok (.iconst 0, 1)) ∧ (decode cX10_wine 34 = .ok (.istore 4, 2)) ∧ (decode cX10_wine 36 = .ok (.iload 4, 2)) ∧ (decode cX10_wine 38 = .ok (.aload_n 0, 1)) ∧ (decode cX10_wine 39 = .ok (.getfield 28, 3)) ∧ (decode cX10_wine 42 = .ok (.getfield 121, 3)) ∧ (decode cX10_wine 45 = .ok (.if_icmp .ge 21, 3)) ∧ (decode cX10_wine 48 = .ok (.iload_n 3, 1)) ∧ (decode cX10_wine 49 = .ok (.aload_n 0, 1)) ∧ (decode cX10_wine 50 = .ok (.getfield 58, 3)) ∧ (decode cX10_wine 53 = .ok (.iload 4, 2)) ∧ (decode cX10_wine 55 = .ok (.invokevirtual 258, 3)) ∧ (decode cX10_wine 58 = .ok (.iadd, 1)) ∧ (decode cX10_wine 59 = .ok (.istore_n 3, 1)) ∧ (decode cX10_wine 60 = .ok (.iinc 4 1, 3)) := by decide +kernel
theorem dX10_wine_32 : decode cX10_wine 32 = .ok (.istore_n 3, 1) := dg_cX10_wine_68.1
theorem dX10_wine_33 : decode cX10_wine 33 = .ok (.iconst 0, 1) := dg_cX10_wine_68.2.1
theorem dX10_wine_34 : decode cX10_wine 34 = .ok (.istore 4, 2) := dg_cX10_wine_68.2.2.1
theorem dX10_wine_36 : decode cX10_wine 36 = .ok (.iload 4, 2) := dg_cX10_wine_68.2.2.2.1
theorem dX10_wine_38 : decode cX10_wine 38 = .ok (.aload_n 0, 1) := dg_cX10_wine_68.2.2.2.2.1
theorem dX10_wine_39 : decode cX10_wine 39 = .ok (.getfield 28, 3) := dg_cX10_wine_68.2.2.2.2.2.1
theorem dX10_wine_42 : decode cX10_wine 42 = .ok (.getfield 121, 3) := dg_cX10_wine_68.2.2.2.2.2.2.1
theorem dX10_wine_45 : decode cX10_wine 45 = .ok (.if_icmp .ge 21, 3) := dg_cX10_wine_68.2.2.2.2.2.2.2.1
theorem dX10_wine_48 : decode cX10_wine 48 = .ok (.iload_n 3, 1) := dg_cX10_wine_68.2.2.2.2.2.2.2.2.1
theorem dX10_wine_49 : decode cX10_wine 49 = .ok (.aload_n 0, 1) := dg_cX10_wine_68.2.2.2.2.2.2.2.2.2.1
theorem dX10_wine_50 : decode cX10_wine 50 = .ok (.getfield 58, 3) := dg_cX10_wine_68.2.2.2.2.2.2.2.2.2.2.1
theorem dX10_wine_53 : decode cX10_wine 53 = .ok (.iload 4, 2) := dg_cX10_wine_68.2.2.2.2.2.2.2.2.2.2.2.1
theorem dX10_wine_55 : decode cX10_wine 55 = .ok (.invokevirtual 258, 3) := dg_cX10_wine_68.2.2.2.2.2.2.2.2.2.2.2.2.1
theorem dX10_wine_58 : decode cX10_wine 58 = .ok (.iadd, 1) := dg_cX10_wine_68.2.2.2.2.2.2.2.2.2.2.2.2.2.1
theorem dX10_wine_59 : decode cX10_wine 59 = .ok (.istore_n 3, 1) := dg_cX10_wine_68.2.2.2.2.2.2.2.2.2.2.2.2.2.2.1
theorem dX10_wine_60 : decode cX10_wine 60 = .ok (.iinc 4 1, 3) := dg_cX10_wine_68.2.2.2.2.2.2.2.2.2.2.2.2.2.2.2
set_option maxRecDepth 100000 in
theorem dg_cX10_wine_69 : (decode cX10_wine 63 = .ok (.goto (-27), 3)) ∧ (decode cX10_wine 66 = .ok (.iload_n 3, 1)) ∧ (decode cX10_wine 67 = .ok (.ifCond .ne 8, 3)) ∧ (decode cX10_wine 70 = .ok (.bipush (-4), 2)) ∧ (decode cX10_wine 72 = .ok (.goto 10, 3)) ∧ (decode cX10_wine 75 = .ok (.aload_n 0, 1)) ∧ (decode cX10_wine 76 = .ok (.iload_n 1, 1)) ∧ (decode cX10_wine 77 = .ok (.iload_n 2, 1)) ∧ (decode cX10_wine 78 = .ok (.iload_n 3, 1)) ∧ (decode cX10_wine 79 = .ok (.invokevirtual 261, 3)) ∧ (decode cX10_wine 82 = .ok (.ireturn, 1)) := by decide +kernel
theorem dX10_wine_63 : decode cX10_wine 63 = .ok (.goto (-27), 3) := dg_cX10_wine_69.1
theorem dX10_wine_66 : decode cX10_wine 66 = .ok (.iload_n 3, 1) := dg_cX10_wine_69.2.1
theorem dX10_wine_67 : decode cX10_wine 67 = .ok (.ifCond .ne 8, 3) := dg_cX10_wine_69.2.2.1
theorem dX10_wine_70 : decode cX10_wine 70 = .ok (.bipush (-4), 2) := dg_cX10_wine_69.2.2.2.1
theorem dX10_wine_72 : decode cX10_wine 72 = .ok (.goto 10, 3) := dg_cX10_wine_69.2.2.2.2.1
theorem dX10_wine_75 : decode cX10_wine 75 = .ok (.aload_n 0, 1) := dg_cX10_wine_69.2.2.2.2.2.1
theorem dX10_wine_76 : decode cX10_wine 76 = .ok (.iload_n 1, 1) := dg_cX10_wine_69.2.2.2.2.2.2.1
theorem dX10_wine_77 : decode cX10_wine 77 = .ok (.iload_n 2, 1) := dg_cX10_wine_69.2.2.2.2.2.2.2.1
theorem dX10_wine_78 : decode cX10_wine 78 = .ok (.iload_n 3, 1) := dg_cX10_wine_69.2.2.2.2.2.2.2.2.1
theorem dX10_wine_79 : decode cX10_wine 79 = .ok (.invokevirtual 261, 3) := dg_cX10_wine_69.2.2.2.2.2.2.2.2.2.1
theorem dX10_wine_82 : decode cX10_wine 82 = .ok (.ireturn, 1) := dg_cX10_wine_69.2.2.2.2.2.2.2.2.2.2
set_option maxRecDepth 100000 in
theorem dg_cX10_hear_70 : (decode cX10_hear 0 = .ok (.aload_n 0, 1)) ∧ (decode cX10_hear 1 = .ok (.getfield 36, 3)) ∧ (decode cX10_hear 4 = .ok (.iload_n 1, 1)) ∧ (decode cX10_hear 5 = .ok (.invokevirtual 264, 3)) ∧ (decode cX10_hear 8 = .ok (.ifCond .ne 5, 3)) ∧ (decode cX10_hear 11 = .ok (.iconst (-1), 1)) ∧ (decode cX10_hear 12 = .ok (.ireturn, 1)) ∧ (decode cX10_hear 13 = .ok (.aload_n 0, 1)) ∧ (decode cX10_hear 14 = .ok (.getfield 36, 3)) ∧ (decode cX10_hear 17 = .ok (.getfield 267, 3)) ∧ (decode cX10_hear 20 = .ok (.bipush 12, 2)) ∧ (decode cX10_hear 22 = .ok (.if_icmp .lt 6, 3)) ∧ (decode cX10_hear 25 = .ok (.bipush (-3), 2)) ∧ (decode cX10_hear 27 = .ok (.ireturn, 1)) ∧ (decode cX10_hear 28 = .ok (.aload_n 0, 1)) ∧ (decode cX10_hear 29 = .ok (.getfield 36, 3)) := by decide +kernel
theorem dX10_hear_0 : decode cX10_hear 0 = .ok (.aload_n 0, 1) := dg_cX10_hear_70.1
theorem dX10_hear_1 : decode cX10_hear 1 = .ok (.getfield 36, 3) := dg_cX10_hear_70.2.1
theorem dX10_hear_4 : decode cX10_hear 4 = .ok (.iload_n 1, 1) := dg_cX10_hear_70.2.2.1
theorem dX10_hear_5 : decode cX10_hear 5 = .ok (.invokevirtual 264, 3) := dg_cX10_hear_70.2.2.2.1
theorem dX10_hear_8 : decode cX10_hear 8 = .ok (.ifCond .ne 5, 3) := dg_cX10_hear_70.2.2.2.2.1
theorem dX10_hear_11 : decode cX10_hear 11 = .ok (.iconst (-1), 1) := dg_cX10_hear_70.2.2.2.2.2.1
theorem dX10_hear_12 : decode cX10_hear 12 = .ok (.ireturn, 1) := dg_cX10_hear_70.2.2.2.2.2.2.1
theorem dX10_hear_13 : decode cX10_hear 13 = .ok (.aload_n 0, 1) := dg_cX10_hear_70.2.2.2.2.2.2.2.1
theorem dX10_hear_14 : decode cX10_hear 14 = .ok (.getfield 36, 3) := dg_cX10_hear_70.2.2.2.2.2.2.2.2.1
theorem dX10_hear_17 : decode cX10_hear 17 = .ok (.getfield 267, 3) := dg_cX10_hear_70.2.2.2.2.2.2.2.2.2.1
theorem dX10_hear_20 : decode cX10_hear 20 = .ok (.bipush 12, 2) := dg_cX10_hear_70.2.2.2.2.2.2.2.2.2.2.1
theorem dX10_hear_22 : decode cX10_hear 22 = .ok (.if_icmp .lt 6, 3) := dg_cX10_hear_70.2.2.2.2.2.2.2.2.2.2.2.1
theorem dX10_hear_25 : decode cX10_hear 25 = .ok (.bipush (-3), 2) := dg_cX10_hear_70.2.2.2.2.2.2.2.2.2.2.2.2.1
theorem dX10_hear_27 : decode cX10_hear 27 = .ok (.ireturn, 1) := dg_cX10_hear_70.2.2.2.2.2.2.2.2.2.2.2.2.2.1
theorem dX10_hear_28 : decode cX10_hear 28 = .ok (.aload_n 0, 1) := dg_cX10_hear_70.2.2.2.2.2.2.2.2.2.2.2.2.2.2.1
theorem dX10_hear_29 : decode cX10_hear 29 = .ok (.getfield 36, 3) := dg_cX10_hear_70.2.2.2.2.2.2.2.2.2.2.2.2.2.2.2
set_option maxRecDepth 100000 in
theorem dg_cX10_hear_71 : (decode cX10_hear 32 = .ok (.iload_n 1, 1)) ∧ (decode cX10_hear 33 = .ok (.invokevirtual 270, 3)) ∧ (decode cX10_hear 36 = .ok (.aload_n 0, 1)) ∧ (decode cX10_hear 37 = .ok (.getfield 36, 3)) ∧ (decode cX10_hear 40 = .ok (.getfield 267, 3)) ∧ (decode cX10_hear 43 = .ok (.ireturn, 1)) := by decide +kernel
theorem dX10_hear_32 : decode cX10_hear 32 = .ok (.iload_n 1, 1) := dg_cX10_hear_71.1
theorem dX10_hear_33 : decode cX10_hear 33 = .ok (.invokevirtual 270, 3) := dg_cX10_hear_71.2.1
theorem dX10_hear_36 : decode cX10_hear 36 = .ok (.aload_n 0, 1) := dg_cX10_hear_71.2.2.1
theorem dX10_hear_37 : decode cX10_hear 37 = .ok (.getfield 36, 3) := dg_cX10_hear_71.2.2.2.1
theorem dX10_hear_40 : decode cX10_hear 40 = .ok (.getfield 267, 3) := dg_cX10_hear_71.2.2.2.2.1
theorem dX10_hear_43 : decode cX10_hear 43 = .ok (.ireturn, 1) := dg_cX10_hear_71.2.2.2.2.2
set_option maxRecDepth 100000 in
theorem dg_cX10_hush_72 : (decode cX10_hush 0 = .ok (.aload_n 0, 1)) ∧ (decode cX10_hush 1 = .ok (.getfield 36, 3)) ∧ (decode cX10_hush 4 = .ok (.getfield 267, 3)) ∧ (decode cX10_hush 7 = .ok (.istore_n 1, 1)) ∧ (decode cX10_hush 8 = .ok (.aload_n 0, 1)) ∧ (decode cX10_hush 9 = .ok (.getfield 36, 3)) ∧ (decode cX10_hush 12 = .ok (.iconst 0, 1)) ∧ (decode cX10_hush 13 = .ok (.putfield 267, 3)) ∧ (decode cX10_hush 16 = .ok (.iload_n 1, 1)) ∧ (decode cX10_hush 17 = .ok (.ireturn, 1)) := by decide +kernel
theorem dX10_hush_0 : decode cX10_hush 0 = .ok (.aload_n 0, 1) := dg_cX10_hush_72.1
theorem dX10_hush_1 : decode cX10_hush 1 = .ok (.getfield 36, 3) := dg_cX10_hush_72.2.1
theorem dX10_hush_4 : decode cX10_hush 4 = .ok (.getfield 267, 3) := dg_cX10_hush_72.2.2.1
theorem dX10_hush_7 : decode cX10_hush 7 = .ok (.istore_n 1, 1) := dg_cX10_hush_72.2.2.2.1
theorem dX10_hush_8 : decode cX10_hush 8 = .ok (.aload_n 0, 1) := dg_cX10_hush_72.2.2.2.2.1
theorem dX10_hush_9 : decode cX10_hush 9 = .ok (.getfield 36, 3) := dg_cX10_hush_72.2.2.2.2.2.1
theorem dX10_hush_12 : decode cX10_hush 12 = .ok (.iconst 0, 1) := dg_cX10_hush_72.2.2.2.2.2.2.1
theorem dX10_hush_13 : decode cX10_hush 13 = .ok (.putfield 267, 3) := dg_cX10_hush_72.2.2.2.2.2.2.2.1
theorem dX10_hush_16 : decode cX10_hush 16 = .ok (.iload_n 1, 1) := dg_cX10_hush_72.2.2.2.2.2.2.2.2.1
theorem dX10_hush_17 : decode cX10_hush 17 = .ok (.ireturn, 1) := dg_cX10_hush_72.2.2.2.2.2.2.2.2.2
set_option maxRecDepth 100000 in
theorem dg_cX10_fits_73 : (decode cX10_fits 0 = .ok (.aload_n 0, 1)) ∧ (decode cX10_fits 1 = .ok (.getfield 28, 3)) ∧ (decode cX10_fits 4 = .ok (.iload_n 1, 1)) ∧ (decode cX10_fits 5 = .ok (.invokevirtual 147, 3)) ∧ (decode cX10_fits 8 = .ok (.ifCond .ne 5, 3)) ∧ (decode cX10_fits 11 = .ok (.iconst (-1), 1)) ∧ (decode cX10_fits 12 = .ok (.ireturn, 1)) ∧ (decode cX10_fits 13 = .ok (.aload_n 0, 1)) ∧ (decode cX10_fits 14 = .ok (.getfield 36, 3)) ∧ (decode cX10_fits 17 = .ok (.getfield 267, 3)) ∧ (decode cX10_fits 20 = .ok (.ifCond .ne 6, 3)) ∧ (decode cX10_fits 23 = .ok (.bipush (-2), 2)) ∧ (decode cX10_fits 25 = .ok (.ireturn, 1)) ∧ (decode cX10_fits 26 = .ok (.aload_n 0, 1)) ∧ (decode cX10_fits 27 = .ok (.getfield 72, 3)) ∧ (decode cX10_fits 30 = .ok (.iload_n 1, 1)) := by decide +kernel
theorem dX10_fits_0 : decode cX10_fits 0 = .ok (.aload_n 0, 1) := dg_cX10_fits_73.1
theorem dX10_fits_1 : decode cX10_fits 1 = .ok (.getfield 28, 3) := dg_cX10_fits_73.2.1
theorem dX10_fits_4 : decode cX10_fits 4 = .ok (.iload_n 1, 1) := dg_cX10_fits_73.2.2.1
theorem dX10_fits_5 : decode cX10_fits 5 = .ok (.invokevirtual 147, 3) := dg_cX10_fits_73.2.2.2.1
theorem dX10_fits_8 : decode cX10_fits 8 = .ok (.ifCond .ne 5, 3) := dg_cX10_fits_73.2.2.2.2.1
theorem dX10_fits_11 : decode cX10_fits 11 = .ok (.iconst (-1), 1) := dg_cX10_fits_73.2.2.2.2.2.1
theorem dX10_fits_12 : decode cX10_fits 12 = .ok (.ireturn, 1) := dg_cX10_fits_73.2.2.2.2.2.2.1
theorem dX10_fits_13 : decode cX10_fits 13 = .ok (.aload_n 0, 1) := dg_cX10_fits_73.2.2.2.2.2.2.2.1
theorem dX10_fits_14 : decode cX10_fits 14 = .ok (.getfield 36, 3) := dg_cX10_fits_73.2.2.2.2.2.2.2.2.1
theorem dX10_fits_17 : decode cX10_fits 17 = .ok (.getfield 267, 3) := dg_cX10_fits_73.2.2.2.2.2.2.2.2.2.1
theorem dX10_fits_20 : decode cX10_fits 20 = .ok (.ifCond .ne 6, 3) := dg_cX10_fits_73.2.2.2.2.2.2.2.2.2.2.1
theorem dX10_fits_23 : decode cX10_fits 23 = .ok (.bipush (-2), 2) := dg_cX10_fits_73.2.2.2.2.2.2.2.2.2.2.2.1
theorem dX10_fits_25 : decode cX10_fits 25 = .ok (.ireturn, 1) := dg_cX10_fits_73.2.2.2.2.2.2.2.2.2.2.2.2.1
theorem dX10_fits_26 : decode cX10_fits 26 = .ok (.aload_n 0, 1) := dg_cX10_fits_73.2.2.2.2.2.2.2.2.2.2.2.2.2.1
theorem dX10_fits_27 : decode cX10_fits 27 = .ok (.getfield 72, 3) := dg_cX10_fits_73.2.2.2.2.2.2.2.2.2.2.2.2.2.2.1
theorem dX10_fits_30 : decode cX10_fits 30 = .ok (.iload_n 1, 1) := dg_cX10_fits_73.2.2.2.2.2.2.2.2.2.2.2.2.2.2.2
set_option maxRecDepth 100000 in
theorem dg_cX10_fits_74 : (decode cX10_fits 31 = .ok (.invokevirtual 273, 3)) ∧ (decode cX10_fits 34 = .ok (.ifCond .eq 7, 3)) ∧ (decode cX10_fits 37 = .ok (.iconst 1, 1)) ∧ (decode cX10_fits 38 = .ok (.goto 4, 3)) ∧ (decode cX10_fits 41 = .ok (.iconst 0, 1)) ∧ (decode cX10_fits 42 = .ok (.ireturn, 1)) := by decide +kernel
theorem dX10_fits_31 : decode cX10_fits 31 = .ok (.invokevirtual 273, 3) := dg_cX10_fits_74.1
theorem dX10_fits_34 : decode cX10_fits 34 = .ok (.ifCond .eq 7, 3) := dg_cX10_fits_74.2.1
theorem dX10_fits_37 : decode cX10_fits 37 = .ok (.iconst 1, 1) := dg_cX10_fits_74.2.2.1
theorem dX10_fits_38 : decode cX10_fits 38 = .ok (.goto 4, 3) := dg_cX10_fits_74.2.2.2.1
theorem dX10_fits_41 : decode cX10_fits 41 = .ok (.iconst 0, 1) := dg_cX10_fits_74.2.2.2.2.1
theorem dX10_fits_42 : decode cX10_fits 42 = .ok (.ireturn, 1) := dg_cX10_fits_74.2.2.2.2.2
set_option maxRecDepth 100000 in
theorem dg_cX10_which_75 : (decode cX10_which 0 = .ok (.iload_n 1, 1)) ∧ (decode cX10_which 1 = .ok (.ifCond .lt 8, 3)) ∧ (decode cX10_which 4 = .ok (.iload_n 1, 1)) ∧ (decode cX10_which 5 = .ok (.iconst 3, 1)) ∧ (decode cX10_which 6 = .ok (.if_icmp .le 5, 3)) ∧ (decode cX10_which 9 = .ok (.iconst (-1), 1)) ∧ (decode cX10_which 10 = .ok (.ireturn, 1)) ∧ (decode cX10_which 11 = .ok (.aload_n 0, 1)) ∧ (decode cX10_which 12 = .ok (.getfield 36, 3)) ∧ (decode cX10_which 15 = .ok (.getfield 267, 3)) ∧ (decode cX10_which 18 = .ok (.ifCond .ne 6, 3)) ∧ (decode cX10_which 21 = .ok (.bipush (-2), 2)) ∧ (decode cX10_which 23 = .ok (.ireturn, 1)) ∧ (decode cX10_which 24 = .ok (.aload_n 0, 1)) ∧ (decode cX10_which 25 = .ok (.getfield 72, 3)) ∧ (decode cX10_which 28 = .ok (.invokevirtual 276, 3)) := by decide +kernel
theorem dX10_which_0 : decode cX10_which 0 = .ok (.iload_n 1, 1) := dg_cX10_which_75.1
theorem dX10_which_1 : decode cX10_which 1 = .ok (.ifCond .lt 8, 3) := dg_cX10_which_75.2.1
theorem dX10_which_4 : decode cX10_which 4 = .ok (.iload_n 1, 1) := dg_cX10_which_75.2.2.1
theorem dX10_which_5 : decode cX10_which 5 = .ok (.iconst 3, 1) := dg_cX10_which_75.2.2.2.1
theorem dX10_which_6 : decode cX10_which 6 = .ok (.if_icmp .le 5, 3) := dg_cX10_which_75.2.2.2.2.1
theorem dX10_which_9 : decode cX10_which 9 = .ok (.iconst (-1), 1) := dg_cX10_which_75.2.2.2.2.2.1
theorem dX10_which_10 : decode cX10_which 10 = .ok (.ireturn, 1) := dg_cX10_which_75.2.2.2.2.2.2.1
theorem dX10_which_11 : decode cX10_which 11 = .ok (.aload_n 0, 1) := dg_cX10_which_75.2.2.2.2.2.2.2.1
theorem dX10_which_12 : decode cX10_which 12 = .ok (.getfield 36, 3) := dg_cX10_which_75.2.2.2.2.2.2.2.2.1
theorem dX10_which_15 : decode cX10_which 15 = .ok (.getfield 267, 3) := dg_cX10_which_75.2.2.2.2.2.2.2.2.2.1
theorem dX10_which_18 : decode cX10_which 18 = .ok (.ifCond .ne 6, 3) := dg_cX10_which_75.2.2.2.2.2.2.2.2.2.2.1
theorem dX10_which_21 : decode cX10_which 21 = .ok (.bipush (-2), 2) := dg_cX10_which_75.2.2.2.2.2.2.2.2.2.2.2.1
theorem dX10_which_23 : decode cX10_which 23 = .ok (.ireturn, 1) := dg_cX10_which_75.2.2.2.2.2.2.2.2.2.2.2.2.1
theorem dX10_which_24 : decode cX10_which 24 = .ok (.aload_n 0, 1) := dg_cX10_which_75.2.2.2.2.2.2.2.2.2.2.2.2.2.1
theorem dX10_which_25 : decode cX10_which 25 = .ok (.getfield 72, 3) := dg_cX10_which_75.2.2.2.2.2.2.2.2.2.2.2.2.2.2.1
theorem dX10_which_28 : decode cX10_which 28 = .ok (.invokevirtual 276, 3) := dg_cX10_which_75.2.2.2.2.2.2.2.2.2.2.2.2.2.2.2
set_option maxRecDepth 100000 in
theorem dg_cX10_which_76 : (decode cX10_which 31 = .ok (.iload_n 1, 1)) ∧ (decode cX10_which 32 = .ok (.ifCond .ne 11, 3)) ∧ (decode cX10_which 35 = .ok (.aload_n 0, 1)) ∧ (decode cX10_which 36 = .ok (.getfield 72, 3)) ∧ (decode cX10_which 39 = .ok (.getfield 279, 3)) ∧ (decode cX10_which 42 = .ok (.ireturn, 1)) ∧ (decode cX10_which 43 = .ok (.aload_n 0, 1)) ∧ (decode cX10_which 44 = .ok (.getfield 72, 3)) ∧ (decode cX10_which 47 = .ok (.getfield 279, 3)) ∧ (decode cX10_which 50 = .ok (.ifCond .ne 6, 3)) ∧ (decode cX10_which 53 = .ok (.bipush (-4), 2)) ∧ (decode cX10_which 55 = .ok (.ireturn, 1)) ∧ (decode cX10_which 56 = .ok (.iload_n 1, 1)) ∧ (decode cX10_which 57 = .ok (.iconst 1, 1)) ∧ (decode cX10_which 58 = .ok (.if_icmp .ne 11, 3)) ∧ (decode cX10_which 61 = .ok (.aload_n 0, 1)) := by decide +kernel
theorem dX10_which_31 : decode cX10_which 31 = .ok (.iload_n 1, 1) := dg_cX10_which_76.1
theorem dX10_which_32 : decode cX10_which 32 = .ok (.ifCond .ne 11, 3) := dg_cX10_which_76.2.1
theorem dX10_which_35 : decode cX10_which 35 = .ok (.aload_n 0, 1) := dg_cX10_which_76.2.2.1
theorem dX10_which_36 : decode cX10_which 36 = .ok (.getfield 72, 3) := dg_cX10_which_76.2.2.2.1
theorem dX10_which_39 : decode cX10_which 39 = .ok (.getfield 279, 3) := dg_cX10_which_76.2.2.2.2.1
theorem dX10_which_42 : decode cX10_which 42 = .ok (.ireturn, 1) := dg_cX10_which_76.2.2.2.2.2.1
theorem dX10_which_43 : decode cX10_which 43 = .ok (.aload_n 0, 1) := dg_cX10_which_76.2.2.2.2.2.2.1
theorem dX10_which_44 : decode cX10_which 44 = .ok (.getfield 72, 3) := dg_cX10_which_76.2.2.2.2.2.2.2.1
theorem dX10_which_47 : decode cX10_which 47 = .ok (.getfield 279, 3) := dg_cX10_which_76.2.2.2.2.2.2.2.2.1
theorem dX10_which_50 : decode cX10_which 50 = .ok (.ifCond .ne 6, 3) := dg_cX10_which_76.2.2.2.2.2.2.2.2.2.1
theorem dX10_which_53 : decode cX10_which 53 = .ok (.bipush (-4), 2) := dg_cX10_which_76.2.2.2.2.2.2.2.2.2.2.1
theorem dX10_which_55 : decode cX10_which 55 = .ok (.ireturn, 1) := dg_cX10_which_76.2.2.2.2.2.2.2.2.2.2.2.1
theorem dX10_which_56 : decode cX10_which 56 = .ok (.iload_n 1, 1) := dg_cX10_which_76.2.2.2.2.2.2.2.2.2.2.2.2.1
theorem dX10_which_57 : decode cX10_which 57 = .ok (.iconst 1, 1) := dg_cX10_which_76.2.2.2.2.2.2.2.2.2.2.2.2.2.1
theorem dX10_which_58 : decode cX10_which 58 = .ok (.if_icmp .ne 11, 3) := dg_cX10_which_76.2.2.2.2.2.2.2.2.2.2.2.2.2.2.1
theorem dX10_which_61 : decode cX10_which 61 = .ok (.aload_n 0, 1) := dg_cX10_which_76.2.2.2.2.2.2.2.2.2.2.2.2.2.2.2
set_option maxRecDepth 100000 in
theorem dg_cX10_which_77 : (decode cX10_which 62 = .ok (.getfield 72, 3)) ∧ (decode cX10_which 65 = .ok (.getfield 282, 3)) ∧ (decode cX10_which 68 = .ok (.ireturn, 1)) ∧ (decode cX10_which 69 = .ok (.iload_n 1, 1)) ∧ (decode cX10_which 70 = .ok (.iconst 2, 1)) ∧ (decode cX10_which 71 = .ok (.if_icmp .ne 13, 3)) ∧ (decode cX10_which 74 = .ok (.aload_n 0, 1)) ∧ (decode cX10_which 75 = .ok (.getfield 72, 3)) ∧ (decode cX10_which 78 = .ok (.getfield 285, 3)) ∧ (decode cX10_which 81 = .ok (.goto 10, 3)) ∧ (decode cX10_which 84 = .ok (.aload_n 0, 1)) ∧ (decode cX10_which 85 = .ok (.getfield 72, 3)) ∧ (decode cX10_which 88 = .ok (.getfield 288, 3)) ∧ (decode cX10_which 91 = .ok (.ireturn, 1)) := by decide +kernel
theorem dX10_which_62 : decode cX10_which 62 = .ok (.getfield 72, 3) := dg_cX10_which_77.1
theorem dX10_which_65 : decode cX10_which 65 = .ok (.getfield 282, 3) := dg_cX10_which_77.2.1
theorem dX10_which_68 : decode cX10_which 68 = .ok (.ireturn, 1) := dg_cX10_which_77.2.2.1
theorem dX10_which_69 : decode cX10_which 69 = .ok (.iload_n 1, 1) := dg_cX10_which_77.2.2.2.1
theorem dX10_which_70 : decode cX10_which 70 = .ok (.iconst 2, 1) := dg_cX10_which_77.2.2.2.2.1
theorem dX10_which_71 : decode cX10_which 71 = .ok (.if_icmp .ne 13, 3) := dg_cX10_which_77.2.2.2.2.2.1
theorem dX10_which_74 : decode cX10_which 74 = .ok (.aload_n 0, 1) := dg_cX10_which_77.2.2.2.2.2.2.1
theorem dX10_which_75 : decode cX10_which 75 = .ok (.getfield 72, 3) := dg_cX10_which_77.2.2.2.2.2.2.2.1
theorem dX10_which_78 : decode cX10_which 78 = .ok (.getfield 285, 3) := dg_cX10_which_77.2.2.2.2.2.2.2.2.1
theorem dX10_which_81 : decode cX10_which 81 = .ok (.goto 10, 3) := dg_cX10_which_77.2.2.2.2.2.2.2.2.2.1
theorem dX10_which_84 : decode cX10_which 84 = .ok (.aload_n 0, 1) := dg_cX10_which_77.2.2.2.2.2.2.2.2.2.2.1
theorem dX10_which_85 : decode cX10_which 85 = .ok (.getfield 72, 3) := dg_cX10_which_77.2.2.2.2.2.2.2.2.2.2.2.1
theorem dX10_which_88 : decode cX10_which 88 = .ok (.getfield 288, 3) := dg_cX10_which_77.2.2.2.2.2.2.2.2.2.2.2.2.1
theorem dX10_which_91 : decode cX10_which 91 = .ok (.ireturn, 1) := dg_cX10_which_77.2.2.2.2.2.2.2.2.2.2.2.2.2
set_option maxRecDepth 100000 in
theorem dg_cX10_keep_78 : (decode cX10_keep 0 = .ok (.iload_n 1, 1)) ∧ (decode cX10_keep 1 = .ok (.invokestatic 291, 3)) ∧ (decode cX10_keep 4 = .ok (.ifCond .ne 5, 3)) ∧ (decode cX10_keep 7 = .ok (.iconst (-1), 1)) ∧ (decode cX10_keep 8 = .ok (.ireturn, 1)) ∧ (decode cX10_keep 9 = .ok (.aload_n 0, 1)) ∧ (decode cX10_keep 10 = .ok (.getfield 82, 3)) ∧ (decode cX10_keep 13 = .ok (.iload_n 1, 1)) ∧ (decode cX10_keep 14 = .ok (.baload, 1)) ∧ (decode cX10_keep 15 = .ok (.ifCond .eq 7, 3)) ∧ (decode cX10_keep 18 = .ok (.iconst 1, 1)) ∧ (decode cX10_keep 19 = .ok (.goto 4, 3)) ∧ (decode cX10_keep 22 = .ok (.iconst 0, 1)) ∧ (decode cX10_keep 23 = .ok (.istore_n 2, 1)) ∧ (decode cX10_keep 24 = .ok (.aload_n 0, 1)) ∧ (decode cX10_keep 25 = .ok (.getfield 78, 3)) := by decide +kernel
theorem dX10_keep_0 : decode cX10_keep 0 = .ok (.iload_n 1, 1) := dg_cX10_keep_78.1
theorem dX10_keep_1 : decode cX10_keep 1 = .ok (.invokestatic 291, 3) := dg_cX10_keep_78.2.1
theorem dX10_keep_4 : decode cX10_keep 4 = .ok (.ifCond .ne 5, 3) := dg_cX10_keep_78.2.2.1
theorem dX10_keep_7 : decode cX10_keep 7 = .ok (.iconst (-1), 1) := dg_cX10_keep_78.2.2.2.1
theorem dX10_keep_8 : decode cX10_keep 8 = .ok (.ireturn, 1) := dg_cX10_keep_78.2.2.2.2.1
theorem dX10_keep_9 : decode cX10_keep 9 = .ok (.aload_n 0, 1) := dg_cX10_keep_78.2.2.2.2.2.1
theorem dX10_keep_10 : decode cX10_keep 10 = .ok (.getfield 82, 3) := dg_cX10_keep_78.2.2.2.2.2.2.1
theorem dX10_keep_13 : decode cX10_keep 13 = .ok (.iload_n 1, 1) := dg_cX10_keep_78.2.2.2.2.2.2.2.1
theorem dX10_keep_14 : decode cX10_keep 14 = .ok (.baload, 1) := dg_cX10_keep_78.2.2.2.2.2.2.2.2.1
theorem dX10_keep_15 : decode cX10_keep 15 = .ok (.ifCond .eq 7, 3) := dg_cX10_keep_78.2.2.2.2.2.2.2.2.2.1
theorem dX10_keep_18 : decode cX10_keep 18 = .ok (.iconst 1, 1) := dg_cX10_keep_78.2.2.2.2.2.2.2.2.2.2.1
theorem dX10_keep_19 : decode cX10_keep 19 = .ok (.goto 4, 3) := dg_cX10_keep_78.2.2.2.2.2.2.2.2.2.2.2.1
theorem dX10_keep_22 : decode cX10_keep 22 = .ok (.iconst 0, 1) := dg_cX10_keep_78.2.2.2.2.2.2.2.2.2.2.2.2.1
theorem dX10_keep_23 : decode cX10_keep 23 = .ok (.istore_n 2, 1) := dg_cX10_keep_78.2.2.2.2.2.2.2.2.2.2.2.2.2.1
theorem dX10_keep_24 : decode cX10_keep 24 = .ok (.aload_n 0, 1) := dg_cX10_keep_78.2.2.2.2.2.2.2.2.2.2.2.2.2.2.1
theorem dX10_keep_25 : decode cX10_keep 25 = .ok (.getfield 78, 3) := dg_cX10_keep_78.2.2.2.2.2.2.2.2.2.2.2.2.2.2.2
set_option maxRecDepth 100000 in
theorem dg_cX10_keep_79 : (decode cX10_keep 28 = .ok (.iload_n 1, 1)) ∧ (decode cX10_keep 29 = .ok (.aaload, 1)) ∧ (decode cX10_keep 30 = .ok (.aload_n 0, 1)) ∧ (decode cX10_keep 31 = .ok (.getfield 36, 3)) ∧ (decode cX10_keep 34 = .ok (.invokevirtual 294, 3)) ∧ (decode cX10_keep 37 = .ok (.aload_n 0, 1)) ∧ (decode cX10_keep 38 = .ok (.getfield 82, 3)) ∧ (decode cX10_keep 41 = .ok (.iload_n 1, 1)) ∧ (decode cX10_keep 42 = .ok (.iconst 1, 1)) ∧ (decode cX10_keep 43 = .ok (.bastore, 1)) ∧ (decode cX10_keep 44 = .ok (.iload_n 2, 1)) ∧ (decode cX10_keep 45 = .ok (.ireturn, 1)) := by decide +kernel
theorem dX10_keep_28 : decode cX10_keep 28 = .ok (.iload_n 1, 1) := dg_cX10_keep_79.1
theorem dX10_keep_29 : decode cX10_keep 29 = .ok (.aaload, 1) := dg_cX10_keep_79.2.1
theorem dX10_keep_30 : decode cX10_keep 30 = .ok (.aload_n 0, 1) := dg_cX10_keep_79.2.2.1
theorem dX10_keep_31 : decode cX10_keep 31 = .ok (.getfield 36, 3) := dg_cX10_keep_79.2.2.2.1
theorem dX10_keep_34 : decode cX10_keep 34 = .ok (.invokevirtual 294, 3) := dg_cX10_keep_79.2.2.2.2.1
theorem dX10_keep_37 : decode cX10_keep 37 = .ok (.aload_n 0, 1) := dg_cX10_keep_79.2.2.2.2.2.1
theorem dX10_keep_38 : decode cX10_keep 38 = .ok (.getfield 82, 3) := dg_cX10_keep_79.2.2.2.2.2.2.1
theorem dX10_keep_41 : decode cX10_keep 41 = .ok (.iload_n 1, 1) := dg_cX10_keep_79.2.2.2.2.2.2.2.1
theorem dX10_keep_42 : decode cX10_keep 42 = .ok (.iconst 1, 1) := dg_cX10_keep_79.2.2.2.2.2.2.2.2.1
theorem dX10_keep_43 : decode cX10_keep 43 = .ok (.bastore, 1) := dg_cX10_keep_79.2.2.2.2.2.2.2.2.2.1
theorem dX10_keep_44 : decode cX10_keep 44 = .ok (.iload_n 2, 1) := dg_cX10_keep_79.2.2.2.2.2.2.2.2.2.2.1
theorem dX10_keep_45 : decode cX10_keep 45 = .ok (.ireturn, 1) := dg_cX10_keep_79.2.2.2.2.2.2.2.2.2.2.2
set_option maxRecDepth 100000 in
theorem dg_cX10_back_80 : (decode cX10_back 0 = .ok (.iload_n 1, 1)) ∧ (decode cX10_back 1 = .ok (.invokestatic 291, 3)) ∧ (decode cX10_back 4 = .ok (.ifCond .ne 5, 3)) ∧ (decode cX10_back 7 = .ok (.iconst (-1), 1)) ∧ (decode cX10_back 8 = .ok (.ireturn, 1)) ∧ (decode cX10_back 9 = .ok (.aload_n 0, 1)) ∧ (decode cX10_back 10 = .ok (.getfield 82, 3)) ∧ (decode cX10_back 13 = .ok (.iload_n 1, 1)) ∧ (decode cX10_back 14 = .ok (.baload, 1)) ∧ (decode cX10_back 15 = .ok (.ifCond .ne 6, 3)) ∧ (decode cX10_back 18 = .ok (.bipush (-2), 2)) ∧ (decode cX10_back 20 = .ok (.ireturn, 1)) ∧ (decode cX10_back 21 = .ok (.aload_n 0, 1)) ∧ (decode cX10_back 22 = .ok (.getfield 36, 3)) ∧ (decode cX10_back 25 = .ok (.aload_n 0, 1)) ∧ (decode cX10_back 26 = .ok (.getfield 78, 3)) := by decide +kernel
theorem dX10_back_0 : decode cX10_back 0 = .ok (.iload_n 1, 1) := dg_cX10_back_80.1
theorem dX10_back_1 : decode cX10_back 1 = .ok (.invokestatic 291, 3) := dg_cX10_back_80.2.1
theorem dX10_back_4 : decode cX10_back 4 = .ok (.ifCond .ne 5, 3) := dg_cX10_back_80.2.2.1
theorem dX10_back_7 : decode cX10_back 7 = .ok (.iconst (-1), 1) := dg_cX10_back_80.2.2.2.1
theorem dX10_back_8 : decode cX10_back 8 = .ok (.ireturn, 1) := dg_cX10_back_80.2.2.2.2.1
theorem dX10_back_9 : decode cX10_back 9 = .ok (.aload_n 0, 1) := dg_cX10_back_80.2.2.2.2.2.1
theorem dX10_back_10 : decode cX10_back 10 = .ok (.getfield 82, 3) := dg_cX10_back_80.2.2.2.2.2.2.1
theorem dX10_back_13 : decode cX10_back 13 = .ok (.iload_n 1, 1) := dg_cX10_back_80.2.2.2.2.2.2.2.1
theorem dX10_back_14 : decode cX10_back 14 = .ok (.baload, 1) := dg_cX10_back_80.2.2.2.2.2.2.2.2.1
theorem dX10_back_15 : decode cX10_back 15 = .ok (.ifCond .ne 6, 3) := dg_cX10_back_80.2.2.2.2.2.2.2.2.2.1
theorem dX10_back_18 : decode cX10_back 18 = .ok (.bipush (-2), 2) := dg_cX10_back_80.2.2.2.2.2.2.2.2.2.2.1
theorem dX10_back_20 : decode cX10_back 20 = .ok (.ireturn, 1) := dg_cX10_back_80.2.2.2.2.2.2.2.2.2.2.2.1
theorem dX10_back_21 : decode cX10_back 21 = .ok (.aload_n 0, 1) := dg_cX10_back_80.2.2.2.2.2.2.2.2.2.2.2.2.1
theorem dX10_back_22 : decode cX10_back 22 = .ok (.getfield 36, 3) := dg_cX10_back_80.2.2.2.2.2.2.2.2.2.2.2.2.2.1
theorem dX10_back_25 : decode cX10_back 25 = .ok (.aload_n 0, 1) := dg_cX10_back_80.2.2.2.2.2.2.2.2.2.2.2.2.2.2.1
theorem dX10_back_26 : decode cX10_back 26 = .ok (.getfield 78, 3) := dg_cX10_back_80.2.2.2.2.2.2.2.2.2.2.2.2.2.2.2
set_option maxRecDepth 100000 in
theorem dg_cX10_back_81 : (decode cX10_back 29 = .ok (.iload_n 1, 1)) ∧ (decode cX10_back 30 = .ok (.aaload, 1)) ∧ (decode cX10_back 31 = .ok (.invokevirtual 294, 3)) ∧ (decode cX10_back 34 = .ok (.aload_n 0, 1)) ∧ (decode cX10_back 35 = .ok (.getfield 42, 3)) ∧ (decode cX10_back 38 = .ok (.invokevirtual 196, 3)) ∧ (decode cX10_back 41 = .ok (.ireturn, 1)) := by decide +kernel
theorem dX10_back_29 : decode cX10_back 29 = .ok (.iload_n 1, 1) := dg_cX10_back_81.1
theorem dX10_back_30 : decode cX10_back 30 = .ok (.aaload, 1) := dg_cX10_back_81.2.1
theorem dX10_back_31 : decode cX10_back 31 = .ok (.invokevirtual 294, 3) := dg_cX10_back_81.2.2.1
theorem dX10_back_34 : decode cX10_back 34 = .ok (.aload_n 0, 1) := dg_cX10_back_81.2.2.2.1
theorem dX10_back_35 : decode cX10_back 35 = .ok (.getfield 42, 3) := dg_cX10_back_81.2.2.2.2.1
theorem dX10_back_38 : decode cX10_back 38 = .ok (.invokevirtual 196, 3) := dg_cX10_back_81.2.2.2.2.2.1
theorem dX10_back_41 : decode cX10_back 41 = .ok (.ireturn, 1) := dg_cX10_back_81.2.2.2.2.2.2
set_option maxRecDepth 100000 in
theorem dg_cX10_sheet_82 : (decode cX10_sheet 0 = .ok (.iload_n 1, 1)) ∧ (decode cX10_sheet 1 = .ok (.invokestatic 297, 3)) ∧ (decode cX10_sheet 4 = .ok (.ifCond .eq 16, 3)) ∧ (decode cX10_sheet 7 = .ok (.iload_n 2, 1)) ∧ (decode cX10_sheet 8 = .ok (.invokestatic 300, 3)) ∧ (decode cX10_sheet 11 = .ok (.ifCond .eq 9, 3)) ∧ (decode cX10_sheet 14 = .ok (.iload_n 3, 1)) ∧ (decode cX10_sheet 15 = .ok (.bipush 40, 2)) ∧ (decode cX10_sheet 17 = .ok (.if_icmp .le 5, 3)) ∧ (decode cX10_sheet 20 = .ok (.iconst (-1), 1)) ∧ (decode cX10_sheet 21 = .ok (.ireturn, 1)) ∧ (decode cX10_sheet 22 = .ok (.iload_n 3, 1)) ∧ (decode cX10_sheet 23 = .ok (.ifCond .ge 6, 3)) ∧ (decode cX10_sheet 26 = .ok (.bipush (-14), 2)) ∧ (decode cX10_sheet 28 = .ok (.ireturn, 1)) ∧ (decode cX10_sheet 29 = .ok (.aload_n 0, 1)) := by decide +kernel
theorem dX10_sheet_0 : decode cX10_sheet 0 = .ok (.iload_n 1, 1) := dg_cX10_sheet_82.1
theorem dX10_sheet_1 : decode cX10_sheet 1 = .ok (.invokestatic 297, 3) := dg_cX10_sheet_82.2.1
theorem dX10_sheet_4 : decode cX10_sheet 4 = .ok (.ifCond .eq 16, 3) := dg_cX10_sheet_82.2.2.1
theorem dX10_sheet_7 : decode cX10_sheet 7 = .ok (.iload_n 2, 1) := dg_cX10_sheet_82.2.2.2.1
theorem dX10_sheet_8 : decode cX10_sheet 8 = .ok (.invokestatic 300, 3) := dg_cX10_sheet_82.2.2.2.2.1
theorem dX10_sheet_11 : decode cX10_sheet 11 = .ok (.ifCond .eq 9, 3) := dg_cX10_sheet_82.2.2.2.2.2.1
theorem dX10_sheet_14 : decode cX10_sheet 14 = .ok (.iload_n 3, 1) := dg_cX10_sheet_82.2.2.2.2.2.2.1
theorem dX10_sheet_15 : decode cX10_sheet 15 = .ok (.bipush 40, 2) := dg_cX10_sheet_82.2.2.2.2.2.2.2.1
theorem dX10_sheet_17 : decode cX10_sheet 17 = .ok (.if_icmp .le 5, 3) := dg_cX10_sheet_82.2.2.2.2.2.2.2.2.1
theorem dX10_sheet_20 : decode cX10_sheet 20 = .ok (.iconst (-1), 1) := dg_cX10_sheet_82.2.2.2.2.2.2.2.2.2.1
theorem dX10_sheet_21 : decode cX10_sheet 21 = .ok (.ireturn, 1) := dg_cX10_sheet_82.2.2.2.2.2.2.2.2.2.2.1
theorem dX10_sheet_22 : decode cX10_sheet 22 = .ok (.iload_n 3, 1) := dg_cX10_sheet_82.2.2.2.2.2.2.2.2.2.2.2.1
theorem dX10_sheet_23 : decode cX10_sheet 23 = .ok (.ifCond .ge 6, 3) := dg_cX10_sheet_82.2.2.2.2.2.2.2.2.2.2.2.2.1
theorem dX10_sheet_26 : decode cX10_sheet 26 = .ok (.bipush (-14), 2) := dg_cX10_sheet_82.2.2.2.2.2.2.2.2.2.2.2.2.2.1
theorem dX10_sheet_28 : decode cX10_sheet 28 = .ok (.ireturn, 1) := dg_cX10_sheet_82.2.2.2.2.2.2.2.2.2.2.2.2.2.2.1
theorem dX10_sheet_29 : decode cX10_sheet 29 = .ok (.aload_n 0, 1) := dg_cX10_sheet_82.2.2.2.2.2.2.2.2.2.2.2.2.2.2.2
set_option maxRecDepth 100000 in
theorem dg_cX10_sheet_83 : (decode cX10_sheet 30 = .ok (.getfield 88, 3)) ∧ (decode cX10_sheet 33 = .ok (.iload_n 1, 1)) ∧ (decode cX10_sheet 34 = .ok (.aaload, 1)) ∧ (decode cX10_sheet 35 = .ok (.iload_n 2, 1)) ∧ (decode cX10_sheet 36 = .ok (.iload_n 3, 1)) ∧ (decode cX10_sheet 37 = .ok (.invokevirtual 303, 3)) ∧ (decode cX10_sheet 40 = .ok (.iconst 1, 1)) ∧ (decode cX10_sheet 41 = .ok (.ireturn, 1)) := by decide +kernel
theorem dX10_sheet_30 : decode cX10_sheet 30 = .ok (.getfield 88, 3) := dg_cX10_sheet_83.1
theorem dX10_sheet_33 : decode cX10_sheet 33 = .ok (.iload_n 1, 1) := dg_cX10_sheet_83.2.1
theorem dX10_sheet_34 : decode cX10_sheet 34 = .ok (.aaload, 1) := dg_cX10_sheet_83.2.2.1
theorem dX10_sheet_35 : decode cX10_sheet 35 = .ok (.iload_n 2, 1) := dg_cX10_sheet_83.2.2.2.1
theorem dX10_sheet_36 : decode cX10_sheet 36 = .ok (.iload_n 3, 1) := dg_cX10_sheet_83.2.2.2.2.1
theorem dX10_sheet_37 : decode cX10_sheet 37 = .ok (.invokevirtual 303, 3) := dg_cX10_sheet_83.2.2.2.2.2.1
theorem dX10_sheet_40 : decode cX10_sheet 40 = .ok (.iconst 1, 1) := dg_cX10_sheet_83.2.2.2.2.2.2.1
theorem dX10_sheet_41 : decode cX10_sheet 41 = .ok (.ireturn, 1) := dg_cX10_sheet_83.2.2.2.2.2.2.2
set_option maxRecDepth 100000 in
theorem dg_cX10_lay_84 : (decode cX10_lay 0 = .ok (.iload_n 1, 1)) ∧ (decode cX10_lay 1 = .ok (.invokestatic 297, 3)) ∧ (decode cX10_lay 4 = .ok (.ifCond .ne 5, 3)) ∧ (decode cX10_lay 7 = .ok (.iconst (-1), 1)) ∧ (decode cX10_lay 8 = .ok (.ireturn, 1)) ∧ (decode cX10_lay 9 = .ok (.aload_n 0, 1)) ∧ (decode cX10_lay 10 = .ok (.getfield 88, 3)) ∧ (decode cX10_lay 13 = .ok (.iload_n 1, 1)) ∧ (decode cX10_lay 14 = .ok (.aaload, 1)) ∧ (decode cX10_lay 15 = .ok (.astore 4, 2)) ∧ (decode cX10_lay 17 = .ok (.aload 4, 2)) ∧ (decode cX10_lay 19 = .ok (.aload 4, 2)) ∧ (decode cX10_lay 21 = .ok (.getfield 306, 3)) ∧ (decode cX10_lay 24 = .ok (.iload_n 2, 1)) ∧ (decode cX10_lay 25 = .ok (.invokevirtual 309, 3)) ∧ (decode cX10_lay 28 = .ok (.istore 5, 2)) := by decide +kernel
theorem dX10_lay_0 : decode cX10_lay 0 = .ok (.iload_n 1, 1) := dg_cX10_lay_84.1
theorem dX10_lay_1 : decode cX10_lay 1 = .ok (.invokestatic 297, 3) := dg_cX10_lay_84.2.1
theorem dX10_lay_4 : decode cX10_lay 4 = .ok (.ifCond .ne 5, 3) := dg_cX10_lay_84.2.2.1
theorem dX10_lay_7 : decode cX10_lay 7 = .ok (.iconst (-1), 1) := dg_cX10_lay_84.2.2.2.1
theorem dX10_lay_8 : decode cX10_lay 8 = .ok (.ireturn, 1) := dg_cX10_lay_84.2.2.2.2.1
theorem dX10_lay_9 : decode cX10_lay 9 = .ok (.aload_n 0, 1) := dg_cX10_lay_84.2.2.2.2.2.1
theorem dX10_lay_10 : decode cX10_lay 10 = .ok (.getfield 88, 3) := dg_cX10_lay_84.2.2.2.2.2.2.1
theorem dX10_lay_13 : decode cX10_lay 13 = .ok (.iload_n 1, 1) := dg_cX10_lay_84.2.2.2.2.2.2.2.1
theorem dX10_lay_14 : decode cX10_lay 14 = .ok (.aaload, 1) := dg_cX10_lay_84.2.2.2.2.2.2.2.2.1
theorem dX10_lay_15 : decode cX10_lay 15 = .ok (.astore 4, 2) := dg_cX10_lay_84.2.2.2.2.2.2.2.2.2.1
theorem dX10_lay_17 : decode cX10_lay 17 = .ok (.aload 4, 2) := dg_cX10_lay_84.2.2.2.2.2.2.2.2.2.2.1
theorem dX10_lay_19 : decode cX10_lay 19 = .ok (.aload 4, 2) := dg_cX10_lay_84.2.2.2.2.2.2.2.2.2.2.2.1
theorem dX10_lay_21 : decode cX10_lay 21 = .ok (.getfield 306, 3) := dg_cX10_lay_84.2.2.2.2.2.2.2.2.2.2.2.2.1
theorem dX10_lay_24 : decode cX10_lay 24 = .ok (.iload_n 2, 1) := dg_cX10_lay_84.2.2.2.2.2.2.2.2.2.2.2.2.2.1
theorem dX10_lay_25 : decode cX10_lay 25 = .ok (.invokevirtual 309, 3) := dg_cX10_lay_84.2.2.2.2.2.2.2.2.2.2.2.2.2.2.1
theorem dX10_lay_28 : decode cX10_lay 28 = .ok (.istore 5, 2) := dg_cX10_lay_84.2.2.2.2.2.2.2.2.2.2.2.2.2.2.2
set_option maxRecDepth 100000 in
theorem dg_cX10_lay_85 : (decode cX10_lay 30 = .ok (.iload 5, 2)) ∧ (decode cX10_lay 32 = .ok (.ifCond .eq 9, 3)) ∧ (decode cX10_lay 35 = .ok (.bipush (-10), 2)) ∧ (decode cX10_lay 37 = .ok (.iload 5, 2)) ∧ (decode cX10_lay 39 = .ok (.isub, 1)) ∧ (decode cX10_lay 40 = .ok (.ireturn, 1)) ∧ (decode cX10_lay 41 = .ok (.aload 4, 2)) ∧ (decode cX10_lay 43 = .ok (.iload_n 2, 1)) ∧ (decode cX10_lay 44 = .ok (.iload_n 3, 1)) ∧ (decode cX10_lay 45 = .ok (.invokevirtual 312, 3)) ∧ (decode cX10_lay 48 = .ok (.iconst 1, 1)) ∧ (decode cX10_lay 49 = .ok (.ireturn, 1)) := by decide +kernel
theorem dX10_lay_30 : decode cX10_lay 30 = .ok (.iload 5, 2) := dg_cX10_lay_85.1
theorem dX10_lay_32 : decode cX10_lay 32 = .ok (.ifCond .eq 9, 3) := dg_cX10_lay_85.2.1
theorem dX10_lay_35 : decode cX10_lay 35 = .ok (.bipush (-10), 2) := dg_cX10_lay_85.2.2.1
theorem dX10_lay_37 : decode cX10_lay 37 = .ok (.iload 5, 2) := dg_cX10_lay_85.2.2.2.1
theorem dX10_lay_39 : decode cX10_lay 39 = .ok (.isub, 1) := dg_cX10_lay_85.2.2.2.2.1
theorem dX10_lay_40 : decode cX10_lay 40 = .ok (.ireturn, 1) := dg_cX10_lay_85.2.2.2.2.2.1
theorem dX10_lay_41 : decode cX10_lay 41 = .ok (.aload 4, 2) := dg_cX10_lay_85.2.2.2.2.2.2.1
theorem dX10_lay_43 : decode cX10_lay 43 = .ok (.iload_n 2, 1) := dg_cX10_lay_85.2.2.2.2.2.2.2.1
theorem dX10_lay_44 : decode cX10_lay 44 = .ok (.iload_n 3, 1) := dg_cX10_lay_85.2.2.2.2.2.2.2.2.1
theorem dX10_lay_45 : decode cX10_lay 45 = .ok (.invokevirtual 312, 3) := dg_cX10_lay_85.2.2.2.2.2.2.2.2.2.1
theorem dX10_lay_48 : decode cX10_lay 48 = .ok (.iconst 1, 1) := dg_cX10_lay_85.2.2.2.2.2.2.2.2.2.2.1
theorem dX10_lay_49 : decode cX10_lay 49 = .ok (.ireturn, 1) := dg_cX10_lay_85.2.2.2.2.2.2.2.2.2.2.2
set_option maxRecDepth 100000 in
theorem dg_cX10_read_86 : (decode cX10_read 0 = .ok (.iload_n 1, 1)) ∧ (decode cX10_read 1 = .ok (.invokestatic 297, 3)) ∧ (decode cX10_read 4 = .ok (.ifCond .eq 22, 3)) ∧ (decode cX10_read 7 = .ok (.iload_n 2, 1)) ∧ (decode cX10_read 8 = .ok (.invokestatic 300, 3)) ∧ (decode cX10_read 11 = .ok (.ifCond .eq 15, 3)) ∧ (decode cX10_read 14 = .ok (.iload 4, 2)) ∧ (decode cX10_read 16 = .ok (.ifCond .lt 10, 3)) ∧ (decode cX10_read 19 = .ok (.iload 4, 2)) ∧ (decode cX10_read 21 = .ok (.bipush 12, 2)) ∧ (decode cX10_read 23 = .ok (.if_icmp .le 5, 3)) ∧ (decode cX10_read 26 = .ok (.iconst (-1), 1)) ∧ (decode cX10_read 27 = .ok (.ireturn, 1)) ∧ (decode cX10_read 28 = .ok (.aload_n 0, 1)) ∧ (decode cX10_read 29 = .ok (.getfield 88, 3)) ∧ (decode cX10_read 32 = .ok (.iload_n 1, 1)) := by decide +kernel
theorem dX10_read_0 : decode cX10_read 0 = .ok (.iload_n 1, 1) := dg_cX10_read_86.1
theorem dX10_read_1 : decode cX10_read 1 = .ok (.invokestatic 297, 3) := dg_cX10_read_86.2.1
theorem dX10_read_4 : decode cX10_read 4 = .ok (.ifCond .eq 22, 3) := dg_cX10_read_86.2.2.1
theorem dX10_read_7 : decode cX10_read 7 = .ok (.iload_n 2, 1) := dg_cX10_read_86.2.2.2.1
theorem dX10_read_8 : decode cX10_read 8 = .ok (.invokestatic 300, 3) := dg_cX10_read_86.2.2.2.2.1
theorem dX10_read_11 : decode cX10_read 11 = .ok (.ifCond .eq 15, 3) := dg_cX10_read_86.2.2.2.2.2.1
theorem dX10_read_14 : decode cX10_read 14 = .ok (.iload 4, 2) := dg_cX10_read_86.2.2.2.2.2.2.1
theorem dX10_read_16 : decode cX10_read 16 = .ok (.ifCond .lt 10, 3) := dg_cX10_read_86.2.2.2.2.2.2.2.1
theorem dX10_read_19 : decode cX10_read 19 = .ok (.iload 4, 2) := dg_cX10_read_86.2.2.2.2.2.2.2.2.1
theorem dX10_read_21 : decode cX10_read 21 = .ok (.bipush 12, 2) := dg_cX10_read_86.2.2.2.2.2.2.2.2.2.1
theorem dX10_read_23 : decode cX10_read 23 = .ok (.if_icmp .le 5, 3) := dg_cX10_read_86.2.2.2.2.2.2.2.2.2.2.1
theorem dX10_read_26 : decode cX10_read 26 = .ok (.iconst (-1), 1) := dg_cX10_read_86.2.2.2.2.2.2.2.2.2.2.2.1
theorem dX10_read_27 : decode cX10_read 27 = .ok (.ireturn, 1) := dg_cX10_read_86.2.2.2.2.2.2.2.2.2.2.2.2.1
theorem dX10_read_28 : decode cX10_read 28 = .ok (.aload_n 0, 1) := dg_cX10_read_86.2.2.2.2.2.2.2.2.2.2.2.2.2.1
theorem dX10_read_29 : decode cX10_read 29 = .ok (.getfield 88, 3) := dg_cX10_read_86.2.2.2.2.2.2.2.2.2.2.2.2.2.2.1
theorem dX10_read_32 : decode cX10_read 32 = .ok (.iload_n 1, 1) := dg_cX10_read_86.2.2.2.2.2.2.2.2.2.2.2.2.2.2.2
set_option maxRecDepth 100000 in
theorem dg_cX10_read_87 : (decode cX10_read 33 = .ok (.aaload, 1)) ∧ (decode cX10_read 34 = .ok (.astore 5, 2)) ∧ (decode cX10_read 36 = .ok (.iconst 0, 1)) ∧ (decode cX10_read 37 = .ok (.istore 6, 2)) ∧ (decode cX10_read 39 = .ok (.iconst 0, 1)) ∧ (decode cX10_read 40 = .ok (.istore 7, 2)) ∧ (decode cX10_read 42 = .ok (.iconst 0, 1)) ∧ (decode cX10_read 43 = .ok (.istore 8, 2)) ∧ (decode cX10_read 45 = .ok (.iload 8, 2)) ∧ (decode cX10_read 47 = .ok (.iload 4, 2)) ∧ (decode cX10_read 49 = .ok (.if_icmp .ge 76, 3)) ∧ (decode cX10_read 52 = .ok (.aload 5, 2)) ∧ (decode cX10_read 54 = .ok (.iload_n 2, 1)) ∧ (decode cX10_read 55 = .ok (.iload_n 3, 1)) ∧ (decode cX10_read 56 = .ok (.iload 8, 2)) ∧ (decode cX10_read 58 = .ok (.iadd, 1)) := by decide +kernel
theorem dX10_read_33 : decode cX10_read 33 = .ok (.aaload, 1) := dg_cX10_read_87.1
theorem dX10_read_34 : decode cX10_read 34 = .ok (.astore 5, 2) := dg_cX10_read_87.2.1
theorem dX10_read_36 : decode cX10_read 36 = .ok (.iconst 0, 1) := dg_cX10_read_87.2.2.1
theorem dX10_read_37 : decode cX10_read 37 = .ok (.istore 6, 2) := dg_cX10_read_87.2.2.2.1
theorem dX10_read_39 : decode cX10_read 39 = .ok (.iconst 0, 1) := dg_cX10_read_87.2.2.2.2.1
theorem dX10_read_40 : decode cX10_read 40 = .ok (.istore 7, 2) := dg_cX10_read_87.2.2.2.2.2.1
theorem dX10_read_42 : decode cX10_read 42 = .ok (.iconst 0, 1) := dg_cX10_read_87.2.2.2.2.2.2.1
theorem dX10_read_43 : decode cX10_read 43 = .ok (.istore 8, 2) := dg_cX10_read_87.2.2.2.2.2.2.2.1
theorem dX10_read_45 : decode cX10_read 45 = .ok (.iload 8, 2) := dg_cX10_read_87.2.2.2.2.2.2.2.2.1
theorem dX10_read_47 : decode cX10_read 47 = .ok (.iload 4, 2) := dg_cX10_read_87.2.2.2.2.2.2.2.2.2.1
theorem dX10_read_49 : decode cX10_read 49 = .ok (.if_icmp .ge 76, 3) := dg_cX10_read_87.2.2.2.2.2.2.2.2.2.2.1
theorem dX10_read_52 : decode cX10_read 52 = .ok (.aload 5, 2) := dg_cX10_read_87.2.2.2.2.2.2.2.2.2.2.2.1
theorem dX10_read_54 : decode cX10_read 54 = .ok (.iload_n 2, 1) := dg_cX10_read_87.2.2.2.2.2.2.2.2.2.2.2.2.1
theorem dX10_read_55 : decode cX10_read 55 = .ok (.iload_n 3, 1) := dg_cX10_read_87.2.2.2.2.2.2.2.2.2.2.2.2.2.1
theorem dX10_read_56 : decode cX10_read 56 = .ok (.iload 8, 2) := dg_cX10_read_87.2.2.2.2.2.2.2.2.2.2.2.2.2.2.1
theorem dX10_read_58 : decode cX10_read 58 = .ok (.iadd, 1) := dg_cX10_read_87.2.2.2.2.2.2.2.2.2.2.2.2.2.2.2
set_option maxRecDepth 100000 in
theorem dg_cX10_read_88 : (decode cX10_read 59 = .ok (.invokevirtual 309, 3)) ∧ (decode cX10_read 62 = .ok (.istore 6, 2)) ∧ (decode cX10_read 64 = .ok (.iload 6, 2)) ∧ (decode cX10_read 66 = .ok (.ifCond .eq 6, 3)) ∧ (decode cX10_read 69 = .ok (.goto 56, 3)) ∧ (decode cX10_read 72 = .ok (.aload_n 0, 1)) ∧ (decode cX10_read 73 = .ok (.getfield 36, 3)) ∧ (decode cX10_read 76 = .ok (.aload 5, 2)) ∧ (decode cX10_read 78 = .ok (.getfield 315, 3)) ∧ (decode cX10_read 81 = .ok (.iload_n 3, 1)) ∧ (decode cX10_read 82 = .ok (.iload 8, 2)) ∧ (decode cX10_read 84 = .ok (.iadd, 1)) ∧ (decode cX10_read 85 = .ok (.iaload, 1)) ∧ (decode cX10_read 86 = .ok (.invokevirtual 264, 3)) ∧ (decode cX10_read 89 = .ok (.ifCond .ne 9, 3)) ∧ (decode cX10_read 92 = .ok (.bipush (-20), 2)) := by decide +kernel
theorem dX10_read_59 : decode cX10_read 59 = .ok (.invokevirtual 309, 3) := dg_cX10_read_88.1
theorem dX10_read_62 : decode cX10_read 62 = .ok (.istore 6, 2) := dg_cX10_read_88.2.1
theorem dX10_read_64 : decode cX10_read 64 = .ok (.iload 6, 2) := dg_cX10_read_88.2.2.1
theorem dX10_read_66 : decode cX10_read 66 = .ok (.ifCond .eq 6, 3) := dg_cX10_read_88.2.2.2.1
theorem dX10_read_69 : decode cX10_read 69 = .ok (.goto 56, 3) := dg_cX10_read_88.2.2.2.2.1
theorem dX10_read_72 : decode cX10_read 72 = .ok (.aload_n 0, 1) := dg_cX10_read_88.2.2.2.2.2.1
theorem dX10_read_73 : decode cX10_read 73 = .ok (.getfield 36, 3) := dg_cX10_read_88.2.2.2.2.2.2.1
theorem dX10_read_76 : decode cX10_read 76 = .ok (.aload 5, 2) := dg_cX10_read_88.2.2.2.2.2.2.2.1
theorem dX10_read_78 : decode cX10_read 78 = .ok (.getfield 315, 3) := dg_cX10_read_88.2.2.2.2.2.2.2.2.1
theorem dX10_read_81 : decode cX10_read 81 = .ok (.iload_n 3, 1) := dg_cX10_read_88.2.2.2.2.2.2.2.2.2.1
theorem dX10_read_82 : decode cX10_read 82 = .ok (.iload 8, 2) := dg_cX10_read_88.2.2.2.2.2.2.2.2.2.2.1
theorem dX10_read_84 : decode cX10_read 84 = .ok (.iadd, 1) := dg_cX10_read_88.2.2.2.2.2.2.2.2.2.2.2.1
theorem dX10_read_85 : decode cX10_read 85 = .ok (.iaload, 1) := dg_cX10_read_88.2.2.2.2.2.2.2.2.2.2.2.2.1
theorem dX10_read_86 : decode cX10_read 86 = .ok (.invokevirtual 264, 3) := dg_cX10_read_88.2.2.2.2.2.2.2.2.2.2.2.2.2.1
theorem dX10_read_89 : decode cX10_read 89 = .ok (.ifCond .ne 9, 3) := dg_cX10_read_88.2.2.2.2.2.2.2.2.2.2.2.2.2.2.1
theorem dX10_read_92 : decode cX10_read 92 = .ok (.bipush (-20), 2) := dg_cX10_read_88.2.2.2.2.2.2.2.2.2.2.2.2.2.2.2
set_option maxRecDepth 100000 in
theorem dg_cX10_read_89 : (decode cX10_read 94 = .ok (.iload 8, 2)) ∧ (decode cX10_read 96 = .ok (.isub, 1)) ∧ (decode cX10_read 97 = .ok (.ireturn, 1)) ∧ (decode cX10_read 98 = .ok (.aload_n 0, 1)) ∧ (decode cX10_read 99 = .ok (.getfield 36, 3)) ∧ (decode cX10_read 102 = .ok (.getfield 267, 3)) ∧ (decode cX10_read 105 = .ok (.iload 8, 2)) ∧ (decode cX10_read 107 = .ok (.iadd, 1)) ∧ (decode cX10_read 108 = .ok (.bipush 12, 2)) ∧ (decode cX10_read 110 = .ok (.if_icmp .lt 6, 3)) ∧ (decode cX10_read 113 = .ok (.bipush (-3), 2)) ∧ (decode cX10_read 115 = .ok (.ireturn, 1)) ∧ (decode cX10_read 116 = .ok (.iinc 7 1, 3)) ∧ (decode cX10_read 119 = .ok (.iinc 8 1, 3)) ∧ (decode cX10_read 122 = .ok (.goto (-77), 3)) ∧ (decode cX10_read 125 = .ok (.iconst 0, 1)) := by decide +kernel
theorem dX10_read_94 : decode cX10_read 94 = .ok (.iload 8, 2) := dg_cX10_read_89.1
theorem dX10_read_96 : decode cX10_read 96 = .ok (.isub, 1) := dg_cX10_read_89.2.1
theorem dX10_read_97 : decode cX10_read 97 = .ok (.ireturn, 1) := dg_cX10_read_89.2.2.1
theorem dX10_read_98 : decode cX10_read 98 = .ok (.aload_n 0, 1) := dg_cX10_read_89.2.2.2.1
theorem dX10_read_99 : decode cX10_read 99 = .ok (.getfield 36, 3) := dg_cX10_read_89.2.2.2.2.1
theorem dX10_read_102 : decode cX10_read 102 = .ok (.getfield 267, 3) := dg_cX10_read_89.2.2.2.2.2.1
theorem dX10_read_105 : decode cX10_read 105 = .ok (.iload 8, 2) := dg_cX10_read_89.2.2.2.2.2.2.1
theorem dX10_read_107 : decode cX10_read 107 = .ok (.iadd, 1) := dg_cX10_read_89.2.2.2.2.2.2.2.1
theorem dX10_read_108 : decode cX10_read 108 = .ok (.bipush 12, 2) := dg_cX10_read_89.2.2.2.2.2.2.2.2.1
theorem dX10_read_110 : decode cX10_read 110 = .ok (.if_icmp .lt 6, 3) := dg_cX10_read_89.2.2.2.2.2.2.2.2.2.1
theorem dX10_read_113 : decode cX10_read 113 = .ok (.bipush (-3), 2) := dg_cX10_read_89.2.2.2.2.2.2.2.2.2.2.1
theorem dX10_read_115 : decode cX10_read 115 = .ok (.ireturn, 1) := dg_cX10_read_89.2.2.2.2.2.2.2.2.2.2.2.1
theorem dX10_read_116 : decode cX10_read 116 = .ok (.iinc 7 1, 3) := dg_cX10_read_89.2.2.2.2.2.2.2.2.2.2.2.2.1
theorem dX10_read_119 : decode cX10_read 119 = .ok (.iinc 8 1, 3) := dg_cX10_read_89.2.2.2.2.2.2.2.2.2.2.2.2.2.1
theorem dX10_read_122 : decode cX10_read 122 = .ok (.goto (-77), 3) := dg_cX10_read_89.2.2.2.2.2.2.2.2.2.2.2.2.2.2.1
theorem dX10_read_125 : decode cX10_read 125 = .ok (.iconst 0, 1) := dg_cX10_read_89.2.2.2.2.2.2.2.2.2.2.2.2.2.2.2
set_option maxRecDepth 100000 in
theorem dg_cX10_read_90 : (decode cX10_read 126 = .ok (.istore 8, 2)) ∧ (decode cX10_read 128 = .ok (.iload 8, 2)) ∧ (decode cX10_read 130 = .ok (.iload 7, 2)) ∧ (decode cX10_read 132 = .ok (.if_icmp .ge 26, 3)) ∧ (decode cX10_read 135 = .ok (.aload_n 0, 1)) ∧ (decode cX10_read 136 = .ok (.getfield 36, 3)) ∧ (decode cX10_read 139 = .ok (.aload 5, 2)) ∧ (decode cX10_read 141 = .ok (.getfield 315, 3)) ∧ (decode cX10_read 144 = .ok (.iload_n 3, 1)) ∧ (decode cX10_read 145 = .ok (.iload 8, 2)) ∧ (decode cX10_read 147 = .ok (.iadd, 1)) ∧ (decode cX10_read 148 = .ok (.iaload, 1)) ∧ (decode cX10_read 149 = .ok (.invokevirtual 270, 3)) ∧ (decode cX10_read 152 = .ok (.iinc 8 1, 3)) ∧ (decode cX10_read 155 = .ok (.goto (-27), 3)) ∧ (decode cX10_read 158 = .ok (.aload_n 0, 1)) := by decide +kernel
theorem dX10_read_126 : decode cX10_read 126 = .ok (.istore 8, 2) := dg_cX10_read_90.1
theorem dX10_read_128 : decode cX10_read 128 = .ok (.iload 8, 2) := dg_cX10_read_90.2.1
theorem dX10_read_130 : decode cX10_read 130 = .ok (.iload 7, 2) := dg_cX10_read_90.2.2.1
theorem dX10_read_132 : decode cX10_read 132 = .ok (.if_icmp .ge 26, 3) := dg_cX10_read_90.2.2.2.1
theorem dX10_read_135 : decode cX10_read 135 = .ok (.aload_n 0, 1) := dg_cX10_read_90.2.2.2.2.1
theorem dX10_read_136 : decode cX10_read 136 = .ok (.getfield 36, 3) := dg_cX10_read_90.2.2.2.2.2.1
theorem dX10_read_139 : decode cX10_read 139 = .ok (.aload 5, 2) := dg_cX10_read_90.2.2.2.2.2.2.1
theorem dX10_read_141 : decode cX10_read 141 = .ok (.getfield 315, 3) := dg_cX10_read_90.2.2.2.2.2.2.2.1
theorem dX10_read_144 : decode cX10_read 144 = .ok (.iload_n 3, 1) := dg_cX10_read_90.2.2.2.2.2.2.2.2.1
theorem dX10_read_145 : decode cX10_read 145 = .ok (.iload 8, 2) := dg_cX10_read_90.2.2.2.2.2.2.2.2.2.1
theorem dX10_read_147 : decode cX10_read 147 = .ok (.iadd, 1) := dg_cX10_read_90.2.2.2.2.2.2.2.2.2.2.1
theorem dX10_read_148 : decode cX10_read 148 = .ok (.iaload, 1) := dg_cX10_read_90.2.2.2.2.2.2.2.2.2.2.2.1
theorem dX10_read_149 : decode cX10_read 149 = .ok (.invokevirtual 270, 3) := dg_cX10_read_90.2.2.2.2.2.2.2.2.2.2.2.2.1
theorem dX10_read_152 : decode cX10_read 152 = .ok (.iinc 8 1, 3) := dg_cX10_read_90.2.2.2.2.2.2.2.2.2.2.2.2.2.1
theorem dX10_read_155 : decode cX10_read 155 = .ok (.goto (-27), 3) := dg_cX10_read_90.2.2.2.2.2.2.2.2.2.2.2.2.2.2.1
theorem dX10_read_158 : decode cX10_read 158 = .ok (.aload_n 0, 1) := dg_cX10_read_90.2.2.2.2.2.2.2.2.2.2.2.2.2.2.2
set_option maxRecDepth 100000 in
theorem dg_cX10_read_91 : (decode cX10_read 159 = .ok (.iload 6, 2)) ∧ (decode cX10_read 161 = .ok (.putfield 318, 3)) ∧ (decode cX10_read 164 = .ok (.iload 7, 2)) ∧ (decode cX10_read 166 = .ok (.ireturn, 1)) := by decide +kernel
theorem dX10_read_159 : decode cX10_read 159 = .ok (.iload 6, 2) := dg_cX10_read_91.1
theorem dX10_read_161 : decode cX10_read 161 = .ok (.putfield 318, 3) := dg_cX10_read_91.2.1
theorem dX10_read_164 : decode cX10_read 164 = .ok (.iload 7, 2) := dg_cX10_read_91.2.2.1
theorem dX10_read_166 : decode cX10_read 166 = .ok (.ireturn, 1) := dg_cX10_read_91.2.2.2
set_option maxRecDepth 100000 in
theorem dg_cX10_torn_92 : (decode cX10_torn 0 = .ok (.aload_n 0, 1)) ∧ (decode cX10_torn 1 = .ok (.getfield 318, 3)) ∧ (decode cX10_torn 4 = .ok (.ireturn, 1)) := by decide +kernel
theorem dX10_torn_0 : decode cX10_torn 0 = .ok (.aload_n 0, 1) := dg_cX10_torn_92.1
theorem dX10_torn_1 : decode cX10_torn 1 = .ok (.getfield 318, 3) := dg_cX10_torn_92.2.1
theorem dX10_torn_4 : decode cX10_torn 4 = .ok (.ireturn, 1) := dg_cX10_torn_92.2.2
set_option maxRecDepth 100000 in
theorem dg_cX10_count_93 : (decode cX10_count 0 = .ok (.iload_n 1, 1)) ∧ (decode cX10_count 1 = .ok (.tableswitch 140 0 6 #[43, 51, 59, 67, 75, 105, 113], 43)) ∧ (decode cX10_count 44 = .ok (.aload_n 0, 1)) ∧ (decode cX10_count 45 = .ok (.getfield 36, 3)) ∧ (decode cX10_count 48 = .ok (.getfield 250, 3)) ∧ (decode cX10_count 51 = .ok (.ireturn, 1)) ∧ (decode cX10_count 52 = .ok (.aload_n 0, 1)) ∧ (decode cX10_count 53 = .ok (.getfield 28, 3)) ∧ (decode cX10_count 56 = .ok (.getfield 321, 3)) ∧ (decode cX10_count 59 = .ok (.ireturn, 1)) ∧ (decode cX10_count 60 = .ok (.aload_n 0, 1)) ∧ (decode cX10_count 61 = .ok (.getfield 36, 3)) ∧ (decode cX10_count 64 = .ok (.invokevirtual 322, 3)) ∧ (decode cX10_count 67 = .ok (.ireturn, 1)) ∧ (decode cX10_count 68 = .ok (.aload_n 0, 1)) ∧ (decode cX10_count 69 = .ok (.getfield 36, 3)) := by decide +kernel
theorem dX10_count_0 : decode cX10_count 0 = .ok (.iload_n 1, 1) := dg_cX10_count_93.1
theorem dX10_count_1 : decode cX10_count 1 = .ok (.tableswitch 140 0 6 #[43, 51, 59, 67, 75, 105, 113], 43) := dg_cX10_count_93.2.1
theorem dX10_count_44 : decode cX10_count 44 = .ok (.aload_n 0, 1) := dg_cX10_count_93.2.2.1
theorem dX10_count_45 : decode cX10_count 45 = .ok (.getfield 36, 3) := dg_cX10_count_93.2.2.2.1
theorem dX10_count_48 : decode cX10_count 48 = .ok (.getfield 250, 3) := dg_cX10_count_93.2.2.2.2.1
theorem dX10_count_51 : decode cX10_count 51 = .ok (.ireturn, 1) := dg_cX10_count_93.2.2.2.2.2.1
theorem dX10_count_52 : decode cX10_count 52 = .ok (.aload_n 0, 1) := dg_cX10_count_93.2.2.2.2.2.2.1
theorem dX10_count_53 : decode cX10_count 53 = .ok (.getfield 28, 3) := dg_cX10_count_93.2.2.2.2.2.2.2.1
theorem dX10_count_56 : decode cX10_count 56 = .ok (.getfield 321, 3) := dg_cX10_count_93.2.2.2.2.2.2.2.2.1
theorem dX10_count_59 : decode cX10_count 59 = .ok (.ireturn, 1) := dg_cX10_count_93.2.2.2.2.2.2.2.2.2.1
theorem dX10_count_60 : decode cX10_count 60 = .ok (.aload_n 0, 1) := dg_cX10_count_93.2.2.2.2.2.2.2.2.2.2.1
theorem dX10_count_61 : decode cX10_count 61 = .ok (.getfield 36, 3) := dg_cX10_count_93.2.2.2.2.2.2.2.2.2.2.2.1
theorem dX10_count_64 : decode cX10_count 64 = .ok (.invokevirtual 322, 3) := dg_cX10_count_93.2.2.2.2.2.2.2.2.2.2.2.2.1
theorem dX10_count_67 : decode cX10_count 67 = .ok (.ireturn, 1) := dg_cX10_count_93.2.2.2.2.2.2.2.2.2.2.2.2.2.1
theorem dX10_count_68 : decode cX10_count 68 = .ok (.aload_n 0, 1) := dg_cX10_count_93.2.2.2.2.2.2.2.2.2.2.2.2.2.2.1
theorem dX10_count_69 : decode cX10_count 69 = .ok (.getfield 36, 3) := dg_cX10_count_93.2.2.2.2.2.2.2.2.2.2.2.2.2.2.2
set_option maxRecDepth 100000 in
theorem dg_cX10_count_94 : (decode cX10_count 72 = .ok (.getfield 267, 3)) ∧ (decode cX10_count 75 = .ok (.ireturn, 1)) ∧ (decode cX10_count 76 = .ok (.aload_n 0, 1)) ∧ (decode cX10_count 77 = .ok (.getfield 82, 3)) ∧ (decode cX10_count 80 = .ok (.iconst 0, 1)) ∧ (decode cX10_count 81 = .ok (.baload, 1)) ∧ (decode cX10_count 82 = .ok (.ifCond .eq 7, 3)) ∧ (decode cX10_count 85 = .ok (.iconst 1, 1)) ∧ (decode cX10_count 86 = .ok (.goto 4, 3)) ∧ (decode cX10_count 89 = .ok (.iconst 0, 1)) ∧ (decode cX10_count 90 = .ok (.aload_n 0, 1)) ∧ (decode cX10_count 91 = .ok (.getfield 82, 3)) ∧ (decode cX10_count 94 = .ok (.iconst 1, 1)) ∧ (decode cX10_count 95 = .ok (.baload, 1)) ∧ (decode cX10_count 96 = .ok (.ifCond .eq 7, 3)) ∧ (decode cX10_count 99 = .ok (.iconst 1, 1)) := by decide +kernel
theorem dX10_count_72 : decode cX10_count 72 = .ok (.getfield 267, 3) := dg_cX10_count_94.1
theorem dX10_count_75 : decode cX10_count 75 = .ok (.ireturn, 1) := dg_cX10_count_94.2.1
theorem dX10_count_76 : decode cX10_count 76 = .ok (.aload_n 0, 1) := dg_cX10_count_94.2.2.1
theorem dX10_count_77 : decode cX10_count 77 = .ok (.getfield 82, 3) := dg_cX10_count_94.2.2.2.1
theorem dX10_count_80 : decode cX10_count 80 = .ok (.iconst 0, 1) := dg_cX10_count_94.2.2.2.2.1
theorem dX10_count_81 : decode cX10_count 81 = .ok (.baload, 1) := dg_cX10_count_94.2.2.2.2.2.1
theorem dX10_count_82 : decode cX10_count 82 = .ok (.ifCond .eq 7, 3) := dg_cX10_count_94.2.2.2.2.2.2.1
theorem dX10_count_85 : decode cX10_count 85 = .ok (.iconst 1, 1) := dg_cX10_count_94.2.2.2.2.2.2.2.1
theorem dX10_count_86 : decode cX10_count 86 = .ok (.goto 4, 3) := dg_cX10_count_94.2.2.2.2.2.2.2.2.1
theorem dX10_count_89 : decode cX10_count 89 = .ok (.iconst 0, 1) := dg_cX10_count_94.2.2.2.2.2.2.2.2.2.1
theorem dX10_count_90 : decode cX10_count 90 = .ok (.aload_n 0, 1) := dg_cX10_count_94.2.2.2.2.2.2.2.2.2.2.1
theorem dX10_count_91 : decode cX10_count 91 = .ok (.getfield 82, 3) := dg_cX10_count_94.2.2.2.2.2.2.2.2.2.2.2.1
theorem dX10_count_94 : decode cX10_count 94 = .ok (.iconst 1, 1) := dg_cX10_count_94.2.2.2.2.2.2.2.2.2.2.2.2.1
theorem dX10_count_95 : decode cX10_count 95 = .ok (.baload, 1) := dg_cX10_count_94.2.2.2.2.2.2.2.2.2.2.2.2.2.1
theorem dX10_count_96 : decode cX10_count 96 = .ok (.ifCond .eq 7, 3) := dg_cX10_count_94.2.2.2.2.2.2.2.2.2.2.2.2.2.2.1
theorem dX10_count_99 : decode cX10_count 99 = .ok (.iconst 1, 1) := dg_cX10_count_94.2.2.2.2.2.2.2.2.2.2.2.2.2.2.2
set_option maxRecDepth 100000 in
theorem dg_cX10_count_95 : (decode cX10_count 100 = .ok (.goto 4, 3)) ∧ (decode cX10_count 103 = .ok (.iconst 0, 1)) ∧ (decode cX10_count 104 = .ok (.iadd, 1)) ∧ (decode cX10_count 105 = .ok (.ireturn, 1)) ∧ (decode cX10_count 106 = .ok (.aload_n 0, 1)) ∧ (decode cX10_count 107 = .ok (.getfield 12, 3)) ∧ (decode cX10_count 110 = .ok (.getfield 94, 3)) ∧ (decode cX10_count 113 = .ok (.ireturn, 1)) ∧ (decode cX10_count 114 = .ok (.aload_n 0, 1)) ∧ (decode cX10_count 115 = .ok (.getfield 88, 3)) ∧ (decode cX10_count 118 = .ok (.iconst 0, 1)) ∧ (decode cX10_count 119 = .ok (.aaload, 1)) ∧ (decode cX10_count 120 = .ok (.invokevirtual 325, 3)) ∧ (decode cX10_count 123 = .ok (.ifCond .eq 8, 3)) ∧ (decode cX10_count 126 = .ok (.bipush (-4), 2)) ∧ (decode cX10_count 128 = .ok (.goto 12, 3)) := by decide +kernel
theorem dX10_count_100 : decode cX10_count 100 = .ok (.goto 4, 3) := dg_cX10_count_95.1
theorem dX10_count_103 : decode cX10_count 103 = .ok (.iconst 0, 1) := dg_cX10_count_95.2.1
theorem dX10_count_104 : decode cX10_count 104 = .ok (.iadd, 1) := dg_cX10_count_95.2.2.1
theorem dX10_count_105 : decode cX10_count 105 = .ok (.ireturn, 1) := dg_cX10_count_95.2.2.2.1
theorem dX10_count_106 : decode cX10_count 106 = .ok (.aload_n 0, 1) := dg_cX10_count_95.2.2.2.2.1
theorem dX10_count_107 : decode cX10_count 107 = .ok (.getfield 12, 3) := dg_cX10_count_95.2.2.2.2.2.1
theorem dX10_count_110 : decode cX10_count 110 = .ok (.getfield 94, 3) := dg_cX10_count_95.2.2.2.2.2.2.1
theorem dX10_count_113 : decode cX10_count 113 = .ok (.ireturn, 1) := dg_cX10_count_95.2.2.2.2.2.2.2.1
theorem dX10_count_114 : decode cX10_count 114 = .ok (.aload_n 0, 1) := dg_cX10_count_95.2.2.2.2.2.2.2.2.1
theorem dX10_count_115 : decode cX10_count 115 = .ok (.getfield 88, 3) := dg_cX10_count_95.2.2.2.2.2.2.2.2.2.1
theorem dX10_count_118 : decode cX10_count 118 = .ok (.iconst 0, 1) := dg_cX10_count_95.2.2.2.2.2.2.2.2.2.2.1
theorem dX10_count_119 : decode cX10_count 119 = .ok (.aaload, 1) := dg_cX10_count_95.2.2.2.2.2.2.2.2.2.2.2.1
theorem dX10_count_120 : decode cX10_count 120 = .ok (.invokevirtual 325, 3) := dg_cX10_count_95.2.2.2.2.2.2.2.2.2.2.2.2.1
theorem dX10_count_123 : decode cX10_count 123 = .ok (.ifCond .eq 8, 3) := dg_cX10_count_95.2.2.2.2.2.2.2.2.2.2.2.2.2.1
theorem dX10_count_126 : decode cX10_count 126 = .ok (.bipush (-4), 2) := dg_cX10_count_95.2.2.2.2.2.2.2.2.2.2.2.2.2.2.1
theorem dX10_count_128 : decode cX10_count 128 = .ok (.goto 12, 3) := dg_cX10_count_95.2.2.2.2.2.2.2.2.2.2.2.2.2.2.2
set_option maxRecDepth 100000 in
theorem dg_cX10_count_96 : (decode cX10_count 131 = .ok (.aload_n 0, 1)) ∧ (decode cX10_count 132 = .ok (.getfield 88, 3)) ∧ (decode cX10_count 135 = .ok (.iconst 0, 1)) ∧ (decode cX10_count 136 = .ok (.aaload, 1)) ∧ (decode cX10_count 137 = .ok (.getfield 328, 3)) ∧ (decode cX10_count 140 = .ok (.ireturn, 1)) ∧ (decode cX10_count 141 = .ok (.iconst (-1), 1)) ∧ (decode cX10_count 142 = .ok (.ireturn, 1)) := by decide +kernel
theorem dX10_count_131 : decode cX10_count 131 = .ok (.aload_n 0, 1) := dg_cX10_count_96.1
theorem dX10_count_132 : decode cX10_count 132 = .ok (.getfield 88, 3) := dg_cX10_count_96.2.1
theorem dX10_count_135 : decode cX10_count 135 = .ok (.iconst 0, 1) := dg_cX10_count_96.2.2.1
theorem dX10_count_136 : decode cX10_count 136 = .ok (.aaload, 1) := dg_cX10_count_96.2.2.2.1
theorem dX10_count_137 : decode cX10_count 137 = .ok (.getfield 328, 3) := dg_cX10_count_96.2.2.2.2.1
theorem dX10_count_140 : decode cX10_count 140 = .ok (.ireturn, 1) := dg_cX10_count_96.2.2.2.2.2.1
theorem dX10_count_141 : decode cX10_count 141 = .ok (.iconst (-1), 1) := dg_cX10_count_96.2.2.2.2.2.2.1
theorem dX10_count_142 : decode cX10_count 142 = .ok (.ireturn, 1) := dg_cX10_count_96.2.2.2.2.2.2.2
set_option maxRecDepth 100000 in
theorem dg_cX10_isFee_97 : (decode cX10_isFee 0 = .ok (.iload_n 0, 1)) ∧ (decode cX10_isFee 1 = .ok (.ifCond .lt 13, 3)) ∧ (decode cX10_isFee 4 = .ok (.iload_n 0, 1)) ∧ (decode cX10_isFee 5 = .ok (.bipush 20, 2)) ∧ (decode cX10_isFee 7 = .ok (.if_icmp .gt 7, 3)) ∧ (decode cX10_isFee 10 = .ok (.iconst 1, 1)) ∧ (decode cX10_isFee 11 = .ok (.goto 4, 3)) ∧ (decode cX10_isFee 14 = .ok (.iconst 0, 1)) ∧ (decode cX10_isFee 15 = .ok (.ireturn, 1)) := by decide +kernel
theorem dX10_isFee_0 : decode cX10_isFee 0 = .ok (.iload_n 0, 1) := dg_cX10_isFee_97.1
theorem dX10_isFee_1 : decode cX10_isFee 1 = .ok (.ifCond .lt 13, 3) := dg_cX10_isFee_97.2.1
theorem dX10_isFee_4 : decode cX10_isFee 4 = .ok (.iload_n 0, 1) := dg_cX10_isFee_97.2.2.1
theorem dX10_isFee_5 : decode cX10_isFee 5 = .ok (.bipush 20, 2) := dg_cX10_isFee_97.2.2.2.1
theorem dX10_isFee_7 : decode cX10_isFee 7 = .ok (.if_icmp .gt 7, 3) := dg_cX10_isFee_97.2.2.2.2.1
theorem dX10_isFee_10 : decode cX10_isFee 10 = .ok (.iconst 1, 1) := dg_cX10_isFee_97.2.2.2.2.2.1
theorem dX10_isFee_11 : decode cX10_isFee 11 = .ok (.goto 4, 3) := dg_cX10_isFee_97.2.2.2.2.2.2.1
theorem dX10_isFee_14 : decode cX10_isFee 14 = .ok (.iconst 0, 1) := dg_cX10_isFee_97.2.2.2.2.2.2.2.1
theorem dX10_isFee_15 : decode cX10_isFee 15 = .ok (.ireturn, 1) := dg_cX10_isFee_97.2.2.2.2.2.2.2.2
set_option maxRecDepth 100000 in
theorem dg_cX10_isImage_98 : (decode cX10_isImage 0 = .ok (.iload_n 0, 1)) ∧ (decode cX10_isImage 1 = .ok (.ifCond .lt 12, 3)) ∧ (decode cX10_isImage 4 = .ok (.iload_n 0, 1)) ∧ (decode cX10_isImage 5 = .ok (.iconst 2, 1)) ∧ (decode cX10_isImage 6 = .ok (.if_icmp .ge 7, 3)) ∧ (decode cX10_isImage 9 = .ok (.iconst 1, 1)) ∧ (decode cX10_isImage 10 = .ok (.goto 4, 3)) ∧ (decode cX10_isImage 13 = .ok (.iconst 0, 1)) ∧ (decode cX10_isImage 14 = .ok (.ireturn, 1)) := by decide +kernel
theorem dX10_isImage_0 : decode cX10_isImage 0 = .ok (.iload_n 0, 1) := dg_cX10_isImage_98.1
theorem dX10_isImage_1 : decode cX10_isImage 1 = .ok (.ifCond .lt 12, 3) := dg_cX10_isImage_98.2.1
theorem dX10_isImage_4 : decode cX10_isImage 4 = .ok (.iload_n 0, 1) := dg_cX10_isImage_98.2.2.1
theorem dX10_isImage_5 : decode cX10_isImage 5 = .ok (.iconst 2, 1) := dg_cX10_isImage_98.2.2.2.1
theorem dX10_isImage_6 : decode cX10_isImage 6 = .ok (.if_icmp .ge 7, 3) := dg_cX10_isImage_98.2.2.2.2.1
theorem dX10_isImage_9 : decode cX10_isImage 9 = .ok (.iconst 1, 1) := dg_cX10_isImage_98.2.2.2.2.2.1
theorem dX10_isImage_10 : decode cX10_isImage 10 = .ok (.goto 4, 3) := dg_cX10_isImage_98.2.2.2.2.2.2.1
theorem dX10_isImage_13 : decode cX10_isImage 13 = .ok (.iconst 0, 1) := dg_cX10_isImage_98.2.2.2.2.2.2.2.1
theorem dX10_isImage_14 : decode cX10_isImage 14 = .ok (.ireturn, 1) := dg_cX10_isImage_98.2.2.2.2.2.2.2.2
set_option maxRecDepth 100000 in
theorem dg_cX10_isSheet_99 : (decode cX10_isSheet 0 = .ok (.iload_n 0, 1)) ∧ (decode cX10_isSheet 1 = .ok (.ifCond .lt 12, 3)) ∧ (decode cX10_isSheet 4 = .ok (.iload_n 0, 1)) ∧ (decode cX10_isSheet 5 = .ok (.iconst 4, 1)) ∧ (decode cX10_isSheet 6 = .ok (.if_icmp .ge 7, 3)) ∧ (decode cX10_isSheet 9 = .ok (.iconst 1, 1)) ∧ (decode cX10_isSheet 10 = .ok (.goto 4, 3)) ∧ (decode cX10_isSheet 13 = .ok (.iconst 0, 1)) ∧ (decode cX10_isSheet 14 = .ok (.ireturn, 1)) := by decide +kernel
theorem dX10_isSheet_0 : decode cX10_isSheet 0 = .ok (.iload_n 0, 1) := dg_cX10_isSheet_99.1
theorem dX10_isSheet_1 : decode cX10_isSheet 1 = .ok (.ifCond .lt 12, 3) := dg_cX10_isSheet_99.2.1
theorem dX10_isSheet_4 : decode cX10_isSheet 4 = .ok (.iload_n 0, 1) := dg_cX10_isSheet_99.2.2.1
theorem dX10_isSheet_5 : decode cX10_isSheet 5 = .ok (.iconst 4, 1) := dg_cX10_isSheet_99.2.2.2.1
theorem dX10_isSheet_6 : decode cX10_isSheet 6 = .ok (.if_icmp .ge 7, 3) := dg_cX10_isSheet_99.2.2.2.2.1
theorem dX10_isSheet_9 : decode cX10_isSheet 9 = .ok (.iconst 1, 1) := dg_cX10_isSheet_99.2.2.2.2.2.1
theorem dX10_isSheet_10 : decode cX10_isSheet 10 = .ok (.goto 4, 3) := dg_cX10_isSheet_99.2.2.2.2.2.2.1
theorem dX10_isSheet_13 : decode cX10_isSheet 13 = .ok (.iconst 0, 1) := dg_cX10_isSheet_99.2.2.2.2.2.2.2.1
theorem dX10_isSheet_14 : decode cX10_isSheet 14 = .ok (.ireturn, 1) := dg_cX10_isSheet_99.2.2.2.2.2.2.2.2
set_option maxRecDepth 100000 in
theorem dg_cX10_isLane_100 : (decode cX10_isLane 0 = .ok (.iload_n 0, 1)) ∧ (decode cX10_isLane 1 = .ok (.ifCond .lt 12, 3)) ∧ (decode cX10_isLane 4 = .ok (.iload_n 0, 1)) ∧ (decode cX10_isLane 5 = .ok (.iconst 3, 1)) ∧ (decode cX10_isLane 6 = .ok (.if_icmp .ge 7, 3)) ∧ (decode cX10_isLane 9 = .ok (.iconst 1, 1)) ∧ (decode cX10_isLane 10 = .ok (.goto 4, 3)) ∧ (decode cX10_isLane 13 = .ok (.iconst 0, 1)) ∧ (decode cX10_isLane 14 = .ok (.ireturn, 1)) := by decide +kernel
theorem dX10_isLane_0 : decode cX10_isLane 0 = .ok (.iload_n 0, 1) := dg_cX10_isLane_100.1
theorem dX10_isLane_1 : decode cX10_isLane 1 = .ok (.ifCond .lt 12, 3) := dg_cX10_isLane_100.2.1
theorem dX10_isLane_4 : decode cX10_isLane 4 = .ok (.iload_n 0, 1) := dg_cX10_isLane_100.2.2.1
theorem dX10_isLane_5 : decode cX10_isLane 5 = .ok (.iconst 3, 1) := dg_cX10_isLane_100.2.2.2.1
theorem dX10_isLane_6 : decode cX10_isLane 6 = .ok (.if_icmp .ge 7, 3) := dg_cX10_isLane_100.2.2.2.2.1
theorem dX10_isLane_9 : decode cX10_isLane 9 = .ok (.iconst 1, 1) := dg_cX10_isLane_100.2.2.2.2.2.1
theorem dX10_isLane_10 : decode cX10_isLane 10 = .ok (.goto 4, 3) := dg_cX10_isLane_100.2.2.2.2.2.2.1
theorem dX10_isLane_13 : decode cX10_isLane 13 = .ok (.iconst 0, 1) := dg_cX10_isLane_100.2.2.2.2.2.2.2.1
theorem dX10_isLane_14 : decode cX10_isLane 14 = .ok (.ireturn, 1) := dg_cX10_isLane_100.2.2.2.2.2.2.2.2
set_option maxRecDepth 100000 in
theorem dg_cX10_pour_101 : (decode cX10_pour 0 = .ok (.iload_n 1, 1)) ∧ (decode cX10_pour 1 = .ok (.aload_n 0, 1)) ∧ (decode cX10_pour 2 = .ok (.getfield 58, 3)) ∧ (decode cX10_pour 5 = .ok (.iload_n 2, 1)) ∧ (decode cX10_pour 6 = .ok (.invokevirtual 258, 3)) ∧ (decode cX10_pour 9 = .ok (.imul, 1)) ∧ (decode cX10_pour 10 = .ok (.istore 4, 2)) ∧ (decode cX10_pour 12 = .ok (.iload 4, 2)) ∧ (decode cX10_pour 14 = .ok (.iload_n 3, 1)) ∧ (decode cX10_pour 15 = .ok (.irem, 1)) ∧ (decode cX10_pour 16 = .ok (.istore 5, 2)) ∧ (decode cX10_pour 18 = .ok (.iload_n 1, 1)) ∧ (decode cX10_pour 19 = .ok (.istore 6, 2)) ∧ (decode cX10_pour 21 = .ok (.iconst 0, 1)) ∧ (decode cX10_pour 22 = .ok (.istore 7, 2)) ∧ (decode cX10_pour 24 = .ok (.iconst 0, 1)) := by decide +kernel
theorem dX10_pour_0 : decode cX10_pour 0 = .ok (.iload_n 1, 1) := dg_cX10_pour_101.1
theorem dX10_pour_1 : decode cX10_pour 1 = .ok (.aload_n 0, 1) := dg_cX10_pour_101.2.1
theorem dX10_pour_2 : decode cX10_pour 2 = .ok (.getfield 58, 3) := dg_cX10_pour_101.2.2.1
theorem dX10_pour_5 : decode cX10_pour 5 = .ok (.iload_n 2, 1) := dg_cX10_pour_101.2.2.2.1
theorem dX10_pour_6 : decode cX10_pour 6 = .ok (.invokevirtual 258, 3) := dg_cX10_pour_101.2.2.2.2.1
theorem dX10_pour_9 : decode cX10_pour 9 = .ok (.imul, 1) := dg_cX10_pour_101.2.2.2.2.2.1
theorem dX10_pour_10 : decode cX10_pour 10 = .ok (.istore 4, 2) := dg_cX10_pour_101.2.2.2.2.2.2.1
theorem dX10_pour_12 : decode cX10_pour 12 = .ok (.iload 4, 2) := dg_cX10_pour_101.2.2.2.2.2.2.2.1
theorem dX10_pour_14 : decode cX10_pour 14 = .ok (.iload_n 3, 1) := dg_cX10_pour_101.2.2.2.2.2.2.2.2.1
theorem dX10_pour_15 : decode cX10_pour 15 = .ok (.irem, 1) := dg_cX10_pour_101.2.2.2.2.2.2.2.2.2.1
theorem dX10_pour_16 : decode cX10_pour 16 = .ok (.istore 5, 2) := dg_cX10_pour_101.2.2.2.2.2.2.2.2.2.2.1
theorem dX10_pour_18 : decode cX10_pour 18 = .ok (.iload_n 1, 1) := dg_cX10_pour_101.2.2.2.2.2.2.2.2.2.2.2.1
theorem dX10_pour_19 : decode cX10_pour 19 = .ok (.istore 6, 2) := dg_cX10_pour_101.2.2.2.2.2.2.2.2.2.2.2.2.1
theorem dX10_pour_21 : decode cX10_pour 21 = .ok (.iconst 0, 1) := dg_cX10_pour_101.2.2.2.2.2.2.2.2.2.2.2.2.2.1
theorem dX10_pour_22 : decode cX10_pour 22 = .ok (.istore 7, 2) := dg_cX10_pour_101.2.2.2.2.2.2.2.2.2.2.2.2.2.2.1
theorem dX10_pour_24 : decode cX10_pour 24 = .ok (.iconst 0, 1) := dg_cX10_pour_101.2.2.2.2.2.2.2.2.2.2.2.2.2.2.2
set_option maxRecDepth 100000 in
theorem dg_cX10_pour_102 : (decode cX10_pour 25 = .ok (.istore 8, 2)) ∧ (decode cX10_pour 27 = .ok (.iload 8, 2)) ∧ (decode cX10_pour 29 = .ok (.aload_n 0, 1)) ∧ (decode cX10_pour 30 = .ok (.getfield 28, 3)) ∧ (decode cX10_pour 33 = .ok (.getfield 121, 3)) ∧ (decode cX10_pour 36 = .ok (.if_icmp .ge 60, 3)) ∧ (decode cX10_pour 39 = .ok (.iload_n 1, 1)) ∧ (decode cX10_pour 40 = .ok (.aload_n 0, 1)) ∧ (decode cX10_pour 41 = .ok (.getfield 58, 3)) ∧ (decode cX10_pour 44 = .ok (.iload 8, 2)) ∧ (decode cX10_pour 46 = .ok (.invokevirtual 258, 3)) ∧ (decode cX10_pour 49 = .ok (.imul, 1)) ∧ (decode cX10_pour 50 = .ok (.istore 9, 2)) ∧ (decode cX10_pour 52 = .ok (.iload 6, 2)) ∧ (decode cX10_pour 54 = .ok (.iload 9, 2)) ∧ (decode cX10_pour 56 = .ok (.iload_n 3, 1)) := by decide +kernel
theorem dX10_pour_25 : decode cX10_pour 25 = .ok (.istore 8, 2) := dg_cX10_pour_102.1
theorem dX10_pour_27 : decode cX10_pour 27 = .ok (.iload 8, 2) := dg_cX10_pour_102.2.1
theorem dX10_pour_29 : decode cX10_pour 29 = .ok (.aload_n 0, 1) := dg_cX10_pour_102.2.2.1
theorem dX10_pour_30 : decode cX10_pour 30 = .ok (.getfield 28, 3) := dg_cX10_pour_102.2.2.2.1
theorem dX10_pour_33 : decode cX10_pour 33 = .ok (.getfield 121, 3) := dg_cX10_pour_102.2.2.2.2.1
theorem dX10_pour_36 : decode cX10_pour 36 = .ok (.if_icmp .ge 60, 3) := dg_cX10_pour_102.2.2.2.2.2.1
theorem dX10_pour_39 : decode cX10_pour 39 = .ok (.iload_n 1, 1) := dg_cX10_pour_102.2.2.2.2.2.2.1
theorem dX10_pour_40 : decode cX10_pour 40 = .ok (.aload_n 0, 1) := dg_cX10_pour_102.2.2.2.2.2.2.2.1
theorem dX10_pour_41 : decode cX10_pour 41 = .ok (.getfield 58, 3) := dg_cX10_pour_102.2.2.2.2.2.2.2.2.1
theorem dX10_pour_44 : decode cX10_pour 44 = .ok (.iload 8, 2) := dg_cX10_pour_102.2.2.2.2.2.2.2.2.2.1
theorem dX10_pour_46 : decode cX10_pour 46 = .ok (.invokevirtual 258, 3) := dg_cX10_pour_102.2.2.2.2.2.2.2.2.2.2.1
theorem dX10_pour_49 : decode cX10_pour 49 = .ok (.imul, 1) := dg_cX10_pour_102.2.2.2.2.2.2.2.2.2.2.2.1
theorem dX10_pour_50 : decode cX10_pour 50 = .ok (.istore 9, 2) := dg_cX10_pour_102.2.2.2.2.2.2.2.2.2.2.2.2.1
theorem dX10_pour_52 : decode cX10_pour 52 = .ok (.iload 6, 2) := dg_cX10_pour_102.2.2.2.2.2.2.2.2.2.2.2.2.2.1
theorem dX10_pour_54 : decode cX10_pour 54 = .ok (.iload 9, 2) := dg_cX10_pour_102.2.2.2.2.2.2.2.2.2.2.2.2.2.2.1
theorem dX10_pour_56 : decode cX10_pour 56 = .ok (.iload_n 3, 1) := dg_cX10_pour_102.2.2.2.2.2.2.2.2.2.2.2.2.2.2.2
set_option maxRecDepth 100000 in
theorem dg_cX10_pour_103 : (decode cX10_pour 57 = .ok (.idiv, 1)) ∧ (decode cX10_pour 58 = .ok (.isub, 1)) ∧ (decode cX10_pour 59 = .ok (.istore 6, 2)) ∧ (decode cX10_pour 61 = .ok (.iload 9, 2)) ∧ (decode cX10_pour 63 = .ok (.iload_n 3, 1)) ∧ (decode cX10_pour 64 = .ok (.irem, 1)) ∧ (decode cX10_pour 65 = .ok (.istore 10, 2)) ∧ (decode cX10_pour 67 = .ok (.iload 10, 2)) ∧ (decode cX10_pour 69 = .ok (.iload 5, 2)) ∧ (decode cX10_pour 71 = .ok (.if_icmp .gt 16, 3)) ∧ (decode cX10_pour 74 = .ok (.iload 10, 2)) ∧ (decode cX10_pour 76 = .ok (.iload 5, 2)) ∧ (decode cX10_pour 78 = .ok (.if_icmp .ne 12, 3)) ∧ (decode cX10_pour 81 = .ok (.iload 8, 2)) ∧ (decode cX10_pour 83 = .ok (.iload_n 2, 1)) ∧ (decode cX10_pour 84 = .ok (.if_icmp .ge 6, 3)) := by decide +kernel
theorem dX10_pour_57 : decode cX10_pour 57 = .ok (.idiv, 1) := dg_cX10_pour_103.1
theorem dX10_pour_58 : decode cX10_pour 58 = .ok (.isub, 1) := dg_cX10_pour_103.2.1
theorem dX10_pour_59 : decode cX10_pour 59 = .ok (.istore 6, 2) := dg_cX10_pour_103.2.2.1
theorem dX10_pour_61 : decode cX10_pour 61 = .ok (.iload 9, 2) := dg_cX10_pour_103.2.2.2.1
theorem dX10_pour_63 : decode cX10_pour 63 = .ok (.iload_n 3, 1) := dg_cX10_pour_103.2.2.2.2.1
theorem dX10_pour_64 : decode cX10_pour 64 = .ok (.irem, 1) := dg_cX10_pour_103.2.2.2.2.2.1
theorem dX10_pour_65 : decode cX10_pour 65 = .ok (.istore 10, 2) := dg_cX10_pour_103.2.2.2.2.2.2.1
theorem dX10_pour_67 : decode cX10_pour 67 = .ok (.iload 10, 2) := dg_cX10_pour_103.2.2.2.2.2.2.2.1
theorem dX10_pour_69 : decode cX10_pour 69 = .ok (.iload 5, 2) := dg_cX10_pour_103.2.2.2.2.2.2.2.2.1
theorem dX10_pour_71 : decode cX10_pour 71 = .ok (.if_icmp .gt 16, 3) := dg_cX10_pour_103.2.2.2.2.2.2.2.2.2.1
theorem dX10_pour_74 : decode cX10_pour 74 = .ok (.iload 10, 2) := dg_cX10_pour_103.2.2.2.2.2.2.2.2.2.2.1
theorem dX10_pour_76 : decode cX10_pour 76 = .ok (.iload 5, 2) := dg_cX10_pour_103.2.2.2.2.2.2.2.2.2.2.2.1
theorem dX10_pour_78 : decode cX10_pour 78 = .ok (.if_icmp .ne 12, 3) := dg_cX10_pour_103.2.2.2.2.2.2.2.2.2.2.2.2.1
theorem dX10_pour_81 : decode cX10_pour 81 = .ok (.iload 8, 2) := dg_cX10_pour_103.2.2.2.2.2.2.2.2.2.2.2.2.2.1
theorem dX10_pour_83 : decode cX10_pour 83 = .ok (.iload_n 2, 1) := dg_cX10_pour_103.2.2.2.2.2.2.2.2.2.2.2.2.2.2.1
theorem dX10_pour_84 : decode cX10_pour 84 = .ok (.if_icmp .ge 6, 3) := dg_cX10_pour_103.2.2.2.2.2.2.2.2.2.2.2.2.2.2.2
set_option maxRecDepth 100000 in
theorem dg_cX10_pour_104 : (decode cX10_pour 87 = .ok (.iinc 7 1, 3)) ∧ (decode cX10_pour 90 = .ok (.iinc 8 1, 3)) ∧ (decode cX10_pour 93 = .ok (.goto (-66), 3)) ∧ (decode cX10_pour 96 = .ok (.iload 4, 2)) ∧ (decode cX10_pour 98 = .ok (.iload_n 3, 1)) ∧ (decode cX10_pour 99 = .ok (.idiv, 1)) ∧ (decode cX10_pour 100 = .ok (.iload 7, 2)) ∧ (decode cX10_pour 102 = .ok (.iload 6, 2)) ∧ (decode cX10_pour 104 = .ok (.if_icmp .ge 7, 3)) ∧ (decode cX10_pour 107 = .ok (.iconst 1, 1)) ∧ (decode cX10_pour 108 = .ok (.goto 4, 3)) ∧ (decode cX10_pour 111 = .ok (.iconst 0, 1)) ∧ (decode cX10_pour 112 = .ok (.iadd, 1)) ∧ (decode cX10_pour 113 = .ok (.ireturn, 1)) := by decide +kernel
theorem dX10_pour_87 : decode cX10_pour 87 = .ok (.iinc 7 1, 3) := dg_cX10_pour_104.1
theorem dX10_pour_90 : decode cX10_pour 90 = .ok (.iinc 8 1, 3) := dg_cX10_pour_104.2.1
theorem dX10_pour_93 : decode cX10_pour 93 = .ok (.goto (-66), 3) := dg_cX10_pour_104.2.2.1
theorem dX10_pour_96 : decode cX10_pour 96 = .ok (.iload 4, 2) := dg_cX10_pour_104.2.2.2.1
theorem dX10_pour_98 : decode cX10_pour 98 = .ok (.iload_n 3, 1) := dg_cX10_pour_104.2.2.2.2.1
theorem dX10_pour_99 : decode cX10_pour 99 = .ok (.idiv, 1) := dg_cX10_pour_104.2.2.2.2.2.1
theorem dX10_pour_100 : decode cX10_pour 100 = .ok (.iload 7, 2) := dg_cX10_pour_104.2.2.2.2.2.2.1
theorem dX10_pour_102 : decode cX10_pour 102 = .ok (.iload 6, 2) := dg_cX10_pour_104.2.2.2.2.2.2.2.1
theorem dX10_pour_104 : decode cX10_pour 104 = .ok (.if_icmp .ge 7, 3) := dg_cX10_pour_104.2.2.2.2.2.2.2.2.1
theorem dX10_pour_107 : decode cX10_pour 107 = .ok (.iconst 1, 1) := dg_cX10_pour_104.2.2.2.2.2.2.2.2.2.1
theorem dX10_pour_108 : decode cX10_pour 108 = .ok (.goto 4, 3) := dg_cX10_pour_104.2.2.2.2.2.2.2.2.2.2.1
theorem dX10_pour_111 : decode cX10_pour 111 = .ok (.iconst 0, 1) := dg_cX10_pour_104.2.2.2.2.2.2.2.2.2.2.2.1
theorem dX10_pour_112 : decode cX10_pour 112 = .ok (.iadd, 1) := dg_cX10_pour_104.2.2.2.2.2.2.2.2.2.2.2.2.1
theorem dX10_pour_113 : decode cX10_pour 113 = .ok (.ireturn, 1) := dg_cX10_pour_104.2.2.2.2.2.2.2.2.2.2.2.2.2
