set_option maxRecDepth 100000 in
theorem dg_cX0_init_0 : (decode cX0_init 0 = .ok (.aload_n 0, 1)) ∧ (decode cX0_init 1 = .ok (.invokespecial 3, 3)) ∧ (decode cX0_init 4 = .ok (.aload_n 0, 1)) ∧ (decode cX0_init 5 = .ok (.bipush 6, 2)) ∧ (decode cX0_init 7 = .ok (.newarray .int, 2)) ∧ (decode cX0_init 9 = .ok (.putfield 9, 3)) ∧ (decode cX0_init 12 = .ok (.aload_n 0, 1)) ∧ (decode cX0_init 13 = .ok (.bipush 6, 2)) ∧ (decode cX0_init 15 = .ok (.newarray .int, 2)) ∧ (decode cX0_init 17 = .ok (.putfield 15, 3)) ∧ (decode cX0_init 20 = .ok (.aload_n 0, 1)) ∧ (decode cX0_init 21 = .ok (.bipush 6, 2)) ∧ (decode cX0_init 23 = .ok (.newarray .int, 2)) ∧ (decode cX0_init 25 = .ok (.putfield 18, 3)) ∧ (decode cX0_init 28 = .ok (.aload_n 0, 1)) ∧ (decode cX0_init 29 = .ok (.bipush 6, 2)) := by decide +kernel
theorem dX0_init_0 : decode cX0_init 0 = .ok (.aload_n 0, 1) := dg_cX0_init_0.1
theorem dX0_init_1 : decode cX0_init 1 = .ok (.invokespecial 3, 3) := dg_cX0_init_0.2.1
theorem dX0_init_4 : decode cX0_init 4 = .ok (.aload_n 0, 1) := dg_cX0_init_0.2.2.1
theorem dX0_init_5 : decode cX0_init 5 = .ok (.bipush 6, 2) := dg_cX0_init_0.2.2.2.1
theorem dX0_init_7 : decode cX0_init 7 = .ok (.newarray .int, 2) := dg_cX0_init_0.2.2.2.2.1
theorem dX0_init_9 : decode cX0_init 9 = .ok (.putfield 9, 3) := dg_cX0_init_0.2.2.2.2.2.1
theorem dX0_init_12 : decode cX0_init 12 = .ok (.aload_n 0, 1) := dg_cX0_init_0.2.2.2.2.2.2.1
theorem dX0_init_13 : decode cX0_init 13 = .ok (.bipush 6, 2) := dg_cX0_init_0.2.2.2.2.2.2.2.1
theorem dX0_init_15 : decode cX0_init 15 = .ok (.newarray .int, 2) := dg_cX0_init_0.2.2.2.2.2.2.2.2.1
theorem dX0_init_17 : decode cX0_init 17 = .ok (.putfield 15, 3) := dg_cX0_init_0.2.2.2.2.2.2.2.2.2.1
theorem dX0_init_20 : decode cX0_init 20 = .ok (.aload_n 0, 1) := dg_cX0_init_0.2.2.2.2.2.2.2.2.2.2.1
theorem dX0_init_21 : decode cX0_init 21 = .ok (.bipush 6, 2) := dg_cX0_init_0.2.2.2.2.2.2.2.2.2.2.2.1
theorem dX0_init_23 : decode cX0_init 23 = .ok (.newarray .int, 2) := dg_cX0_init_0.2.2.2.2.2.2.2.2.2.2.2.2.1
theorem dX0_init_25 : decode cX0_init 25 = .ok (.putfield 18, 3) := dg_cX0_init_0.2.2.2.2.2.2.2.2.2.2.2.2.2.1
theorem dX0_init_28 : decode cX0_init 28 = .ok (.aload_n 0, 1) := dg_cX0_init_0.2.2.2.2.2.2.2.2.2.2.2.2.2.2.1
theorem dX0_init_29 : decode cX0_init 29 = .ok (.bipush 6, 2) := dg_cX0_init_0.2.2.2.2.2.2.2.2.2.2.2.2.2.2.2
set_option maxRecDepth 100000 in
theorem dg_cX0_init_1 : (decode cX0_init 31 = .ok (.newarray .int, 2)) ∧ (decode cX0_init 33 = .ok (.putfield 21, 3)) ∧ (decode cX0_init 36 = .ok (.aload_n 0, 1)) ∧ (decode cX0_init 37 = .ok (.aload_n 1, 1)) ∧ (decode cX0_init 38 = .ok (.putfield 24, 3)) ∧ (decode cX0_init 41 = .ok (.aload_n 0, 1)) ∧ (decode cX0_init 42 = .ok (.aload_n 1, 1)) ∧ (decode cX0_init 43 = .ok (.getfield 28, 3)) ∧ (decode cX0_init 46 = .ok (.putfield 34, 3)) ∧ (decode cX0_init 49 = .ok (.aload_n 0, 1)) ∧ (decode cX0_init 50 = .ok (.aload_n 2, 1)) ∧ (decode cX0_init 51 = .ok (.putfield 35, 3)) ∧ (decode cX0_init 54 = .ok (.return_, 1)) := by decide +kernel
theorem dX0_init_31 : decode cX0_init 31 = .ok (.newarray .int, 2) := dg_cX0_init_1.1
theorem dX0_init_33 : decode cX0_init 33 = .ok (.putfield 21, 3) := dg_cX0_init_1.2.1
theorem dX0_init_36 : decode cX0_init 36 = .ok (.aload_n 0, 1) := dg_cX0_init_1.2.2.1
theorem dX0_init_37 : decode cX0_init 37 = .ok (.aload_n 1, 1) := dg_cX0_init_1.2.2.2.1
theorem dX0_init_38 : decode cX0_init 38 = .ok (.putfield 24, 3) := dg_cX0_init_1.2.2.2.2.1
theorem dX0_init_41 : decode cX0_init 41 = .ok (.aload_n 0, 1) := dg_cX0_init_1.2.2.2.2.2.1
theorem dX0_init_42 : decode cX0_init 42 = .ok (.aload_n 1, 1) := dg_cX0_init_1.2.2.2.2.2.2.1
theorem dX0_init_43 : decode cX0_init 43 = .ok (.getfield 28, 3) := dg_cX0_init_1.2.2.2.2.2.2.2.1
theorem dX0_init_46 : decode cX0_init 46 = .ok (.putfield 34, 3) := dg_cX0_init_1.2.2.2.2.2.2.2.2.1
theorem dX0_init_49 : decode cX0_init 49 = .ok (.aload_n 0, 1) := dg_cX0_init_1.2.2.2.2.2.2.2.2.2.1
theorem dX0_init_50 : decode cX0_init 50 = .ok (.aload_n 2, 1) := dg_cX0_init_1.2.2.2.2.2.2.2.2.2.2.1
theorem dX0_init_51 : decode cX0_init 51 = .ok (.putfield 35, 3) := dg_cX0_init_1.2.2.2.2.2.2.2.2.2.2.2.1
theorem dX0_init_54 : decode cX0_init 54 = .ok (.return_, 1) := dg_cX0_init_1.2.2.2.2.2.2.2.2.2.2.2.2
set_option maxRecDepth 100000 in
theorem dg_cX0_weigh_2 : (decode cX0_weigh 0 = .ok (.iconst 0, 1)) ∧ (decode cX0_weigh 1 = .ok (.istore_n 2, 1)) ∧ (decode cX0_weigh 2 = .ok (.iload_n 2, 1)) ∧ (decode cX0_weigh 3 = .ok (.aload_n 0, 1)) ∧ (decode cX0_weigh 4 = .ok (.getfield 24, 3)) ∧ (decode cX0_weigh 7 = .ok (.getfield 39, 3)) ∧ (decode cX0_weigh 10 = .ok (.if_icmp .ge 15, 3)) ∧ (decode cX0_weigh 13 = .ok (.aload_n 0, 1)) ∧ (decode cX0_weigh 14 = .ok (.iload_n 1, 1)) ∧ (decode cX0_weigh 15 = .ok (.iload_n 2, 1)) ∧ (decode cX0_weigh 16 = .ok (.invokevirtual 43, 3)) ∧ (decode cX0_weigh 19 = .ok (.iinc 2 1, 3)) ∧ (decode cX0_weigh 22 = .ok (.goto (-20), 3)) ∧ (decode cX0_weigh 25 = .ok (.return_, 1)) := by decide +kernel
theorem dX0_weigh_0 : decode cX0_weigh 0 = .ok (.iconst 0, 1) := dg_cX0_weigh_2.1
theorem dX0_weigh_1 : decode cX0_weigh 1 = .ok (.istore_n 2, 1) := dg_cX0_weigh_2.2.1
theorem dX0_weigh_2 : decode cX0_weigh 2 = .ok (.iload_n 2, 1) := dg_cX0_weigh_2.2.2.1
theorem dX0_weigh_3 : decode cX0_weigh 3 = .ok (.aload_n 0, 1) := dg_cX0_weigh_2.2.2.2.1
theorem dX0_weigh_4 : decode cX0_weigh 4 = .ok (.getfield 24, 3) := dg_cX0_weigh_2.2.2.2.2.1
theorem dX0_weigh_7 : decode cX0_weigh 7 = .ok (.getfield 39, 3) := dg_cX0_weigh_2.2.2.2.2.2.1
theorem dX0_weigh_10 : decode cX0_weigh 10 = .ok (.if_icmp .ge 15, 3) := dg_cX0_weigh_2.2.2.2.2.2.2.1
theorem dX0_weigh_13 : decode cX0_weigh 13 = .ok (.aload_n 0, 1) := dg_cX0_weigh_2.2.2.2.2.2.2.2.1
theorem dX0_weigh_14 : decode cX0_weigh 14 = .ok (.iload_n 1, 1) := dg_cX0_weigh_2.2.2.2.2.2.2.2.2.1
theorem dX0_weigh_15 : decode cX0_weigh 15 = .ok (.iload_n 2, 1) := dg_cX0_weigh_2.2.2.2.2.2.2.2.2.2.1
theorem dX0_weigh_16 : decode cX0_weigh 16 = .ok (.invokevirtual 43, 3) := dg_cX0_weigh_2.2.2.2.2.2.2.2.2.2.2.1
theorem dX0_weigh_19 : decode cX0_weigh 19 = .ok (.iinc 2 1, 3) := dg_cX0_weigh_2.2.2.2.2.2.2.2.2.2.2.2.1
theorem dX0_weigh_22 : decode cX0_weigh 22 = .ok (.goto (-20), 3) := dg_cX0_weigh_2.2.2.2.2.2.2.2.2.2.2.2.2.1
theorem dX0_weigh_25 : decode cX0_weigh 25 = .ok (.return_, 1) := dg_cX0_weigh_2.2.2.2.2.2.2.2.2.2.2.2.2.2
set_option maxRecDepth 100000 in
theorem dg_cX0_weighTune_3 : (decode cX0_weighTune 0 = .ok (.aload_n 0, 1)) ∧ (decode cX0_weighTune 1 = .ok (.getfield 35, 3)) ∧ (decode cX0_weighTune 4 = .ok (.iload_n 2, 1)) ∧ (decode cX0_weighTune 5 = .ok (.invokevirtual 47, 3)) ∧ (decode cX0_weighTune 8 = .ok (.aload_n 0, 1)) ∧ (decode cX0_weighTune 9 = .ok (.getfield 9, 3)) ∧ (decode cX0_weighTune 12 = .ok (.iload_n 2, 1)) ∧ (decode cX0_weighTune 13 = .ok (.aload_n 0, 1)) ∧ (decode cX0_weighTune 14 = .ok (.getfield 35, 3)) ∧ (decode cX0_weighTune 17 = .ok (.getfield 53, 3)) ∧ (decode cX0_weighTune 20 = .ok (.iastore, 1)) ∧ (decode cX0_weighTune 21 = .ok (.aload_n 0, 1)) ∧ (decode cX0_weighTune 22 = .ok (.getfield 15, 3)) ∧ (decode cX0_weighTune 25 = .ok (.iload_n 2, 1)) ∧ (decode cX0_weighTune 26 = .ok (.iconst 0, 1)) ∧ (decode cX0_weighTune 27 = .ok (.iastore, 1)) := by decide +kernel
theorem dX0_weighTune_0 : decode cX0_weighTune 0 = .ok (.aload_n 0, 1) := dg_cX0_weighTune_3.1
theorem dX0_weighTune_1 : decode cX0_weighTune 1 = .ok (.getfield 35, 3) := dg_cX0_weighTune_3.2.1
theorem dX0_weighTune_4 : decode cX0_weighTune 4 = .ok (.iload_n 2, 1) := dg_cX0_weighTune_3.2.2.1
theorem dX0_weighTune_5 : decode cX0_weighTune 5 = .ok (.invokevirtual 47, 3) := dg_cX0_weighTune_3.2.2.2.1
theorem dX0_weighTune_8 : decode cX0_weighTune 8 = .ok (.aload_n 0, 1) := dg_cX0_weighTune_3.2.2.2.2.1
theorem dX0_weighTune_9 : decode cX0_weighTune 9 = .ok (.getfield 9, 3) := dg_cX0_weighTune_3.2.2.2.2.2.1
theorem dX0_weighTune_12 : decode cX0_weighTune 12 = .ok (.iload_n 2, 1) := dg_cX0_weighTune_3.2.2.2.2.2.2.1
theorem dX0_weighTune_13 : decode cX0_weighTune 13 = .ok (.aload_n 0, 1) := dg_cX0_weighTune_3.2.2.2.2.2.2.2.1
theorem dX0_weighTune_14 : decode cX0_weighTune 14 = .ok (.getfield 35, 3) := dg_cX0_weighTune_3.2.2.2.2.2.2.2.2.1
theorem dX0_weighTune_17 : decode cX0_weighTune 17 = .ok (.getfield 53, 3) := dg_cX0_weighTune_3.2.2.2.2.2.2.2.2.2.1
theorem dX0_weighTune_20 : decode cX0_weighTune 20 = .ok (.iastore, 1) := dg_cX0_weighTune_3.2.2.2.2.2.2.2.2.2.2.1
theorem dX0_weighTune_21 : decode cX0_weighTune 21 = .ok (.aload_n 0, 1) := dg_cX0_weighTune_3.2.2.2.2.2.2.2.2.2.2.2.1
theorem dX0_weighTune_22 : decode cX0_weighTune 22 = .ok (.getfield 15, 3) := dg_cX0_weighTune_3.2.2.2.2.2.2.2.2.2.2.2.2.1
theorem dX0_weighTune_25 : decode cX0_weighTune 25 = .ok (.iload_n 2, 1) := dg_cX0_weighTune_3.2.2.2.2.2.2.2.2.2.2.2.2.2.1
theorem dX0_weighTune_26 : decode cX0_weighTune 26 = .ok (.iconst 0, 1) := dg_cX0_weighTune_3.2.2.2.2.2.2.2.2.2.2.2.2.2.2.1
theorem dX0_weighTune_27 : decode cX0_weighTune 27 = .ok (.iastore, 1) := dg_cX0_weighTune_3.2.2.2.2.2.2.2.2.2.2.2.2.2.2.2
set_option maxRecDepth 100000 in
theorem dg_cX0_weighTune_4 : (decode cX0_weighTune 28 = .ok (.aload_n 0, 1)) ∧ (decode cX0_weighTune 29 = .ok (.getfield 18, 3)) ∧ (decode cX0_weighTune 32 = .ok (.iload_n 2, 1)) ∧ (decode cX0_weighTune 33 = .ok (.iconst 0, 1)) ∧ (decode cX0_weighTune 34 = .ok (.iastore, 1)) ∧ (decode cX0_weighTune 35 = .ok (.aload_n 0, 1)) ∧ (decode cX0_weighTune 36 = .ok (.getfield 21, 3)) ∧ (decode cX0_weighTune 39 = .ok (.iload_n 2, 1)) ∧ (decode cX0_weighTune 40 = .ok (.iconst 0, 1)) ∧ (decode cX0_weighTune 41 = .ok (.iastore, 1)) ∧ (decode cX0_weighTune 42 = .ok (.iconst 0, 1)) ∧ (decode cX0_weighTune 43 = .ok (.istore_n 3, 1)) ∧ (decode cX0_weighTune 44 = .ok (.iload_n 3, 1)) ∧ (decode cX0_weighTune 45 = .ok (.aload_n 0, 1)) ∧ (decode cX0_weighTune 46 = .ok (.getfield 24, 3)) ∧ (decode cX0_weighTune 49 = .ok (.getfield 56, 3)) := by decide +kernel
theorem dX0_weighTune_28 : decode cX0_weighTune 28 = .ok (.aload_n 0, 1) := dg_cX0_weighTune_4.1
theorem dX0_weighTune_29 : decode cX0_weighTune 29 = .ok (.getfield 18, 3) := dg_cX0_weighTune_4.2.1
theorem dX0_weighTune_32 : decode cX0_weighTune 32 = .ok (.iload_n 2, 1) := dg_cX0_weighTune_4.2.2.1
theorem dX0_weighTune_33 : decode cX0_weighTune 33 = .ok (.iconst 0, 1) := dg_cX0_weighTune_4.2.2.2.1
theorem dX0_weighTune_34 : decode cX0_weighTune 34 = .ok (.iastore, 1) := dg_cX0_weighTune_4.2.2.2.2.1
theorem dX0_weighTune_35 : decode cX0_weighTune 35 = .ok (.aload_n 0, 1) := dg_cX0_weighTune_4.2.2.2.2.2.1
theorem dX0_weighTune_36 : decode cX0_weighTune 36 = .ok (.getfield 21, 3) := dg_cX0_weighTune_4.2.2.2.2.2.2.1
theorem dX0_weighTune_39 : decode cX0_weighTune 39 = .ok (.iload_n 2, 1) := dg_cX0_weighTune_4.2.2.2.2.2.2.2.1
theorem dX0_weighTune_40 : decode cX0_weighTune 40 = .ok (.iconst 0, 1) := dg_cX0_weighTune_4.2.2.2.2.2.2.2.2.1
theorem dX0_weighTune_41 : decode cX0_weighTune 41 = .ok (.iastore, 1) := dg_cX0_weighTune_4.2.2.2.2.2.2.2.2.2.1
theorem dX0_weighTune_42 : decode cX0_weighTune 42 = .ok (.iconst 0, 1) := dg_cX0_weighTune_4.2.2.2.2.2.2.2.2.2.2.1
theorem dX0_weighTune_43 : decode cX0_weighTune 43 = .ok (.istore_n 3, 1) := dg_cX0_weighTune_4.2.2.2.2.2.2.2.2.2.2.2.1
theorem dX0_weighTune_44 : decode cX0_weighTune 44 = .ok (.iload_n 3, 1) := dg_cX0_weighTune_4.2.2.2.2.2.2.2.2.2.2.2.2.1
theorem dX0_weighTune_45 : decode cX0_weighTune 45 = .ok (.aload_n 0, 1) := dg_cX0_weighTune_4.2.2.2.2.2.2.2.2.2.2.2.2.2.1
theorem dX0_weighTune_46 : decode cX0_weighTune 46 = .ok (.getfield 24, 3) := dg_cX0_weighTune_4.2.2.2.2.2.2.2.2.2.2.2.2.2.2.1
theorem dX0_weighTune_49 : decode cX0_weighTune 49 = .ok (.getfield 56, 3) := dg_cX0_weighTune_4.2.2.2.2.2.2.2.2.2.2.2.2.2.2.2
set_option maxRecDepth 100000 in
theorem dg_cX0_weighTune_5 : (decode cX0_weighTune 52 = .ok (.iload_n 2, 1)) ∧ (decode cX0_weighTune 53 = .ok (.iaload, 1)) ∧ (decode cX0_weighTune 54 = .ok (.if_icmp .ge 127, 3)) ∧ (decode cX0_weighTune 57 = .ok (.aload_n 0, 1)) ∧ (decode cX0_weighTune 58 = .ok (.getfield 35, 3)) ∧ (decode cX0_weighTune 61 = .ok (.iload_n 3, 1)) ∧ (decode cX0_weighTune 62 = .ok (.invokevirtual 59, 3)) ∧ (decode cX0_weighTune 65 = .ok (.ifCond .ne 6, 3)) ∧ (decode cX0_weighTune 68 = .ok (.goto 107, 3)) ∧ (decode cX0_weighTune 71 = .ok (.aload_n 0, 1)) ∧ (decode cX0_weighTune 72 = .ok (.getfield 24, 3)) ∧ (decode cX0_weighTune 75 = .ok (.getfield 63, 3)) ∧ (decode cX0_weighTune 78 = .ok (.iload_n 2, 1)) ∧ (decode cX0_weighTune 79 = .ok (.aaload, 1)) ∧ (decode cX0_weighTune 80 = .ok (.iload_n 3, 1)) ∧ (decode cX0_weighTune 81 = .ok (.iaload, 1)) := by decide +kernel
theorem dX0_weighTune_52 : decode cX0_weighTune 52 = .ok (.iload_n 2, 1) := dg_cX0_weighTune_5.1
theorem dX0_weighTune_53 : decode cX0_weighTune 53 = .ok (.iaload, 1) := dg_cX0_weighTune_5.2.1
theorem dX0_weighTune_54 : decode cX0_weighTune 54 = .ok (.if_icmp .ge 127, 3) := dg_cX0_weighTune_5.2.2.1
theorem dX0_weighTune_57 : decode cX0_weighTune 57 = .ok (.aload_n 0, 1) := dg_cX0_weighTune_5.2.2.2.1
theorem dX0_weighTune_58 : decode cX0_weighTune 58 = .ok (.getfield 35, 3) := dg_cX0_weighTune_5.2.2.2.2.1
theorem dX0_weighTune_61 : decode cX0_weighTune 61 = .ok (.iload_n 3, 1) := dg_cX0_weighTune_5.2.2.2.2.2.1
theorem dX0_weighTune_62 : decode cX0_weighTune 62 = .ok (.invokevirtual 59, 3) := dg_cX0_weighTune_5.2.2.2.2.2.2.1
theorem dX0_weighTune_65 : decode cX0_weighTune 65 = .ok (.ifCond .ne 6, 3) := dg_cX0_weighTune_5.2.2.2.2.2.2.2.1
theorem dX0_weighTune_68 : decode cX0_weighTune 68 = .ok (.goto 107, 3) := dg_cX0_weighTune_5.2.2.2.2.2.2.2.2.1
theorem dX0_weighTune_71 : decode cX0_weighTune 71 = .ok (.aload_n 0, 1) := dg_cX0_weighTune_5.2.2.2.2.2.2.2.2.2.1
theorem dX0_weighTune_72 : decode cX0_weighTune 72 = .ok (.getfield 24, 3) := dg_cX0_weighTune_5.2.2.2.2.2.2.2.2.2.2.1
theorem dX0_weighTune_75 : decode cX0_weighTune 75 = .ok (.getfield 63, 3) := dg_cX0_weighTune_5.2.2.2.2.2.2.2.2.2.2.2.1
theorem dX0_weighTune_78 : decode cX0_weighTune 78 = .ok (.iload_n 2, 1) := dg_cX0_weighTune_5.2.2.2.2.2.2.2.2.2.2.2.2.1
theorem dX0_weighTune_79 : decode cX0_weighTune 79 = .ok (.aaload, 1) := dg_cX0_weighTune_5.2.2.2.2.2.2.2.2.2.2.2.2.2.1
theorem dX0_weighTune_80 : decode cX0_weighTune 80 = .ok (.iload_n 3, 1) := dg_cX0_weighTune_5.2.2.2.2.2.2.2.2.2.2.2.2.2.2.1
theorem dX0_weighTune_81 : decode cX0_weighTune 81 = .ok (.iaload, 1) := dg_cX0_weighTune_5.2.2.2.2.2.2.2.2.2.2.2.2.2.2.2
set_option maxRecDepth 100000 in
theorem dg_cX0_weighTune_6 : (decode cX0_weighTune 82 = .ok (.istore 4, 2)) ∧ (decode cX0_weighTune 84 = .ok (.aload_n 0, 1)) ∧ (decode cX0_weighTune 85 = .ok (.getfield 34, 3)) ∧ (decode cX0_weighTune 88 = .ok (.iload_n 1, 1)) ∧ (decode cX0_weighTune 89 = .ok (.iload 4, 2)) ∧ (decode cX0_weighTune 91 = .ok (.invokevirtual 67, 3)) ∧ (decode cX0_weighTune 94 = .ok (.istore 5, 2)) ∧ (decode cX0_weighTune 96 = .ok (.aload_n 0, 1)) ∧ (decode cX0_weighTune 97 = .ok (.getfield 34, 3)) ∧ (decode cX0_weighTune 100 = .ok (.getfield 73, 3)) ∧ (decode cX0_weighTune 103 = .ok (.iload 4, 2)) ∧ (decode cX0_weighTune 105 = .ok (.iaload, 1)) ∧ (decode cX0_weighTune 106 = .ok (.iload_n 1, 1)) ∧ (decode cX0_weighTune 107 = .ok (.if_icmp .ne 46, 3)) ∧ (decode cX0_weighTune 110 = .ok (.aload_n 0, 1)) ∧ (decode cX0_weighTune 111 = .ok (.getfield 9, 3)) := by decide +kernel
theorem dX0_weighTune_82 : decode cX0_weighTune 82 = .ok (.istore 4, 2) := dg_cX0_weighTune_6.1
theorem dX0_weighTune_84 : decode cX0_weighTune 84 = .ok (.aload_n 0, 1) := dg_cX0_weighTune_6.2.1
theorem dX0_weighTune_85 : decode cX0_weighTune 85 = .ok (.getfield 34, 3) := dg_cX0_weighTune_6.2.2.1
theorem dX0_weighTune_88 : decode cX0_weighTune 88 = .ok (.iload_n 1, 1) := dg_cX0_weighTune_6.2.2.2.1
theorem dX0_weighTune_89 : decode cX0_weighTune 89 = .ok (.iload 4, 2) := dg_cX0_weighTune_6.2.2.2.2.1
theorem dX0_weighTune_91 : decode cX0_weighTune 91 = .ok (.invokevirtual 67, 3) := dg_cX0_weighTune_6.2.2.2.2.2.1
theorem dX0_weighTune_94 : decode cX0_weighTune 94 = .ok (.istore 5, 2) := dg_cX0_weighTune_6.2.2.2.2.2.2.1
theorem dX0_weighTune_96 : decode cX0_weighTune 96 = .ok (.aload_n 0, 1) := dg_cX0_weighTune_6.2.2.2.2.2.2.2.1
theorem dX0_weighTune_97 : decode cX0_weighTune 97 = .ok (.getfield 34, 3) := dg_cX0_weighTune_6.2.2.2.2.2.2.2.2.1
theorem dX0_weighTune_100 : decode cX0_weighTune 100 = .ok (.getfield 73, 3) := dg_cX0_weighTune_6.2.2.2.2.2.2.2.2.2.1
theorem dX0_weighTune_103 : decode cX0_weighTune 103 = .ok (.iload 4, 2) := dg_cX0_weighTune_6.2.2.2.2.2.2.2.2.2.2.1
theorem dX0_weighTune_105 : decode cX0_weighTune 105 = .ok (.iaload, 1) := dg_cX0_weighTune_6.2.2.2.2.2.2.2.2.2.2.2.1
theorem dX0_weighTune_106 : decode cX0_weighTune 106 = .ok (.iload_n 1, 1) := dg_cX0_weighTune_6.2.2.2.2.2.2.2.2.2.2.2.2.1
theorem dX0_weighTune_107 : decode cX0_weighTune 107 = .ok (.if_icmp .ne 46, 3) := dg_cX0_weighTune_6.2.2.2.2.2.2.2.2.2.2.2.2.2.1
theorem dX0_weighTune_110 : decode cX0_weighTune 110 = .ok (.aload_n 0, 1) := dg_cX0_weighTune_6.2.2.2.2.2.2.2.2.2.2.2.2.2.2.1
theorem dX0_weighTune_111 : decode cX0_weighTune 111 = .ok (.getfield 9, 3) := dg_cX0_weighTune_6.2.2.2.2.2.2.2.2.2.2.2.2.2.2.2
set_option maxRecDepth 100000 in
theorem dg_cX0_weighTune_7 : (decode cX0_weighTune 114 = .ok (.iload_n 2, 1)) ∧ (decode cX0_weighTune 115 = .ok (.dup2, 1)) ∧ (decode cX0_weighTune 116 = .ok (.iaload, 1)) ∧ (decode cX0_weighTune 117 = .ok (.aload_n 0, 1)) ∧ (decode cX0_weighTune 118 = .ok (.getfield 34, 3)) ∧ (decode cX0_weighTune 121 = .ok (.getfield 76, 3)) ∧ (decode cX0_weighTune 124 = .ok (.iload 4, 2)) ∧ (decode cX0_weighTune 126 = .ok (.iaload, 1)) ∧ (decode cX0_weighTune 127 = .ok (.iadd, 1)) ∧ (decode cX0_weighTune 128 = .ok (.iastore, 1)) ∧ (decode cX0_weighTune 129 = .ok (.aload_n 0, 1)) ∧ (decode cX0_weighTune 130 = .ok (.getfield 15, 3)) ∧ (decode cX0_weighTune 133 = .ok (.iload_n 2, 1)) ∧ (decode cX0_weighTune 134 = .ok (.dup2, 1)) ∧ (decode cX0_weighTune 135 = .ok (.iaload, 1)) ∧ (decode cX0_weighTune 136 = .ok (.iconst 1, 1)) := by decide +kernel
theorem dX0_weighTune_114 : decode cX0_weighTune 114 = .ok (.iload_n 2, 1) := dg_cX0_weighTune_7.1
theorem dX0_weighTune_115 : decode cX0_weighTune 115 = .ok (.dup2, 1) := dg_cX0_weighTune_7.2.1
theorem dX0_weighTune_116 : decode cX0_weighTune 116 = .ok (.iaload, 1) := dg_cX0_weighTune_7.2.2.1
theorem dX0_weighTune_117 : decode cX0_weighTune 117 = .ok (.aload_n 0, 1) := dg_cX0_weighTune_7.2.2.2.1
theorem dX0_weighTune_118 : decode cX0_weighTune 118 = .ok (.getfield 34, 3) := dg_cX0_weighTune_7.2.2.2.2.1
theorem dX0_weighTune_121 : decode cX0_weighTune 121 = .ok (.getfield 76, 3) := dg_cX0_weighTune_7.2.2.2.2.2.1
theorem dX0_weighTune_124 : decode cX0_weighTune 124 = .ok (.iload 4, 2) := dg_cX0_weighTune_7.2.2.2.2.2.2.1
theorem dX0_weighTune_126 : decode cX0_weighTune 126 = .ok (.iaload, 1) := dg_cX0_weighTune_7.2.2.2.2.2.2.2.1
theorem dX0_weighTune_127 : decode cX0_weighTune 127 = .ok (.iadd, 1) := dg_cX0_weighTune_7.2.2.2.2.2.2.2.2.1
theorem dX0_weighTune_128 : decode cX0_weighTune 128 = .ok (.iastore, 1) := dg_cX0_weighTune_7.2.2.2.2.2.2.2.2.2.1
theorem dX0_weighTune_129 : decode cX0_weighTune 129 = .ok (.aload_n 0, 1) := dg_cX0_weighTune_7.2.2.2.2.2.2.2.2.2.2.1
theorem dX0_weighTune_130 : decode cX0_weighTune 130 = .ok (.getfield 15, 3) := dg_cX0_weighTune_7.2.2.2.2.2.2.2.2.2.2.2.1
theorem dX0_weighTune_133 : decode cX0_weighTune 133 = .ok (.iload_n 2, 1) := dg_cX0_weighTune_7.2.2.2.2.2.2.2.2.2.2.2.2.1
theorem dX0_weighTune_134 : decode cX0_weighTune 134 = .ok (.dup2, 1) := dg_cX0_weighTune_7.2.2.2.2.2.2.2.2.2.2.2.2.2.1
theorem dX0_weighTune_135 : decode cX0_weighTune 135 = .ok (.iaload, 1) := dg_cX0_weighTune_7.2.2.2.2.2.2.2.2.2.2.2.2.2.2.1
theorem dX0_weighTune_136 : decode cX0_weighTune 136 = .ok (.iconst 1, 1) := dg_cX0_weighTune_7.2.2.2.2.2.2.2.2.2.2.2.2.2.2.2
set_option maxRecDepth 100000 in
theorem dg_cX0_weighTune_8 : (decode cX0_weighTune 137 = .ok (.iadd, 1)) ∧ (decode cX0_weighTune 138 = .ok (.iastore, 1)) ∧ (decode cX0_weighTune 139 = .ok (.aload_n 0, 1)) ∧ (decode cX0_weighTune 140 = .ok (.getfield 18, 3)) ∧ (decode cX0_weighTune 143 = .ok (.iload_n 2, 1)) ∧ (decode cX0_weighTune 144 = .ok (.dup2, 1)) ∧ (decode cX0_weighTune 145 = .ok (.iaload, 1)) ∧ (decode cX0_weighTune 146 = .ok (.iload 5, 2)) ∧ (decode cX0_weighTune 148 = .ok (.iadd, 1)) ∧ (decode cX0_weighTune 149 = .ok (.iastore, 1)) ∧ (decode cX0_weighTune 150 = .ok (.goto 25, 3)) ∧ (decode cX0_weighTune 153 = .ok (.aload_n 0, 1)) ∧ (decode cX0_weighTune 154 = .ok (.getfield 21, 3)) ∧ (decode cX0_weighTune 157 = .ok (.iload_n 2, 1)) ∧ (decode cX0_weighTune 158 = .ok (.dup2, 1)) ∧ (decode cX0_weighTune 159 = .ok (.iaload, 1)) := by decide +kernel
theorem dX0_weighTune_137 : decode cX0_weighTune 137 = .ok (.iadd, 1) := dg_cX0_weighTune_8.1
theorem dX0_weighTune_138 : decode cX0_weighTune 138 = .ok (.iastore, 1) := dg_cX0_weighTune_8.2.1
theorem dX0_weighTune_139 : decode cX0_weighTune 139 = .ok (.aload_n 0, 1) := dg_cX0_weighTune_8.2.2.1
theorem dX0_weighTune_140 : decode cX0_weighTune 140 = .ok (.getfield 18, 3) := dg_cX0_weighTune_8.2.2.2.1
theorem dX0_weighTune_143 : decode cX0_weighTune 143 = .ok (.iload_n 2, 1) := dg_cX0_weighTune_8.2.2.2.2.1
theorem dX0_weighTune_144 : decode cX0_weighTune 144 = .ok (.dup2, 1) := dg_cX0_weighTune_8.2.2.2.2.2.1
theorem dX0_weighTune_145 : decode cX0_weighTune 145 = .ok (.iaload, 1) := dg_cX0_weighTune_8.2.2.2.2.2.2.1
theorem dX0_weighTune_146 : decode cX0_weighTune 146 = .ok (.iload 5, 2) := dg_cX0_weighTune_8.2.2.2.2.2.2.2.1
theorem dX0_weighTune_148 : decode cX0_weighTune 148 = .ok (.iadd, 1) := dg_cX0_weighTune_8.2.2.2.2.2.2.2.2.1
theorem dX0_weighTune_149 : decode cX0_weighTune 149 = .ok (.iastore, 1) := dg_cX0_weighTune_8.2.2.2.2.2.2.2.2.2.1
theorem dX0_weighTune_150 : decode cX0_weighTune 150 = .ok (.goto 25, 3) := dg_cX0_weighTune_8.2.2.2.2.2.2.2.2.2.2.1
theorem dX0_weighTune_153 : decode cX0_weighTune 153 = .ok (.aload_n 0, 1) := dg_cX0_weighTune_8.2.2.2.2.2.2.2.2.2.2.2.1
theorem dX0_weighTune_154 : decode cX0_weighTune 154 = .ok (.getfield 21, 3) := dg_cX0_weighTune_8.2.2.2.2.2.2.2.2.2.2.2.2.1
theorem dX0_weighTune_157 : decode cX0_weighTune 157 = .ok (.iload_n 2, 1) := dg_cX0_weighTune_8.2.2.2.2.2.2.2.2.2.2.2.2.2.1
theorem dX0_weighTune_158 : decode cX0_weighTune 158 = .ok (.dup2, 1) := dg_cX0_weighTune_8.2.2.2.2.2.2.2.2.2.2.2.2.2.2.1
theorem dX0_weighTune_159 : decode cX0_weighTune 159 = .ok (.iaload, 1) := dg_cX0_weighTune_8.2.2.2.2.2.2.2.2.2.2.2.2.2.2.2
set_option maxRecDepth 100000 in
theorem dg_cX0_weighTune_9 : (decode cX0_weighTune 160 = .ok (.iload 5, 2)) ∧ (decode cX0_weighTune 162 = .ok (.aload_n 0, 1)) ∧ (decode cX0_weighTune 163 = .ok (.getfield 34, 3)) ∧ (decode cX0_weighTune 166 = .ok (.getfield 76, 3)) ∧ (decode cX0_weighTune 169 = .ok (.iload 4, 2)) ∧ (decode cX0_weighTune 171 = .ok (.iaload, 1)) ∧ (decode cX0_weighTune 172 = .ok (.imul, 1)) ∧ (decode cX0_weighTune 173 = .ok (.iadd, 1)) ∧ (decode cX0_weighTune 174 = .ok (.iastore, 1)) ∧ (decode cX0_weighTune 175 = .ok (.iinc 3 1, 3)) ∧ (decode cX0_weighTune 178 = .ok (.goto (-134), 3)) ∧ (decode cX0_weighTune 181 = .ok (.return_, 1)) := by decide +kernel
theorem dX0_weighTune_160 : decode cX0_weighTune 160 = .ok (.iload 5, 2) := dg_cX0_weighTune_9.1
theorem dX0_weighTune_162 : decode cX0_weighTune 162 = .ok (.aload_n 0, 1) := dg_cX0_weighTune_9.2.1
theorem dX0_weighTune_163 : decode cX0_weighTune 163 = .ok (.getfield 34, 3) := dg_cX0_weighTune_9.2.2.1
theorem dX0_weighTune_166 : decode cX0_weighTune 166 = .ok (.getfield 76, 3) := dg_cX0_weighTune_9.2.2.2.1
theorem dX0_weighTune_169 : decode cX0_weighTune 169 = .ok (.iload 4, 2) := dg_cX0_weighTune_9.2.2.2.2.1
theorem dX0_weighTune_171 : decode cX0_weighTune 171 = .ok (.iaload, 1) := dg_cX0_weighTune_9.2.2.2.2.2.1
theorem dX0_weighTune_172 : decode cX0_weighTune 172 = .ok (.imul, 1) := dg_cX0_weighTune_9.2.2.2.2.2.2.1
theorem dX0_weighTune_173 : decode cX0_weighTune 173 = .ok (.iadd, 1) := dg_cX0_weighTune_9.2.2.2.2.2.2.2.1
theorem dX0_weighTune_174 : decode cX0_weighTune 174 = .ok (.iastore, 1) := dg_cX0_weighTune_9.2.2.2.2.2.2.2.2.1
theorem dX0_weighTune_175 : decode cX0_weighTune 175 = .ok (.iinc 3 1, 3) := dg_cX0_weighTune_9.2.2.2.2.2.2.2.2.2.1
theorem dX0_weighTune_178 : decode cX0_weighTune 178 = .ok (.goto (-134), 3) := dg_cX0_weighTune_9.2.2.2.2.2.2.2.2.2.2.1
theorem dX0_weighTune_181 : decode cX0_weighTune 181 = .ok (.return_, 1) := dg_cX0_weighTune_9.2.2.2.2.2.2.2.2.2.2.2
set_option maxRecDepth 100000 in
theorem dg_cX0_bringsAt_10 : (decode cX0_bringsAt 0 = .ok (.iconst 0, 1)) ∧ (decode cX0_bringsAt 1 = .ok (.istore_n 2, 1)) ∧ (decode cX0_bringsAt 2 = .ok (.iconst 0, 1)) ∧ (decode cX0_bringsAt 3 = .ok (.istore_n 3, 1)) ∧ (decode cX0_bringsAt 4 = .ok (.iconst 0, 1)) ∧ (decode cX0_bringsAt 5 = .ok (.istore 4, 2)) ∧ (decode cX0_bringsAt 7 = .ok (.iload 4, 2)) ∧ (decode cX0_bringsAt 9 = .ok (.aload_n 0, 1)) ∧ (decode cX0_bringsAt 10 = .ok (.getfield 24, 3)) ∧ (decode cX0_bringsAt 13 = .ok (.getfield 39, 3)) ∧ (decode cX0_bringsAt 16 = .ok (.if_icmp .ge 55, 3)) ∧ (decode cX0_bringsAt 19 = .ok (.aload_n 0, 1)) ∧ (decode cX0_bringsAt 20 = .ok (.getfield 9, 3)) ∧ (decode cX0_bringsAt 23 = .ok (.iload 4, 2)) ∧ (decode cX0_bringsAt 25 = .ok (.iaload, 1)) ∧ (decode cX0_bringsAt 26 = .ok (.iload_n 1, 1)) := by decide +kernel
theorem dX0_bringsAt_0 : decode cX0_bringsAt 0 = .ok (.iconst 0, 1) := dg_cX0_bringsAt_10.1
theorem dX0_bringsAt_1 : decode cX0_bringsAt 1 = .ok (.istore_n 2, 1) := dg_cX0_bringsAt_10.2.1
theorem dX0_bringsAt_2 : decode cX0_bringsAt 2 = .ok (.iconst 0, 1) := dg_cX0_bringsAt_10.2.2.1
theorem dX0_bringsAt_3 : decode cX0_bringsAt 3 = .ok (.istore_n 3, 1) := dg_cX0_bringsAt_10.2.2.2.1
theorem dX0_bringsAt_4 : decode cX0_bringsAt 4 = .ok (.iconst 0, 1) := dg_cX0_bringsAt_10.2.2.2.2.1
theorem dX0_bringsAt_5 : decode cX0_bringsAt 5 = .ok (.istore 4, 2) := dg_cX0_bringsAt_10.2.2.2.2.2.1
theorem dX0_bringsAt_7 : decode cX0_bringsAt 7 = .ok (.iload 4, 2) := dg_cX0_bringsAt_10.2.2.2.2.2.2.1
theorem dX0_bringsAt_9 : decode cX0_bringsAt 9 = .ok (.aload_n 0, 1) := dg_cX0_bringsAt_10.2.2.2.2.2.2.2.1
theorem dX0_bringsAt_10 : decode cX0_bringsAt 10 = .ok (.getfield 24, 3) := dg_cX0_bringsAt_10.2.2.2.2.2.2.2.2.1
theorem dX0_bringsAt_13 : decode cX0_bringsAt 13 = .ok (.getfield 39, 3) := dg_cX0_bringsAt_10.2.2.2.2.2.2.2.2.2.1
theorem dX0_bringsAt_16 : decode cX0_bringsAt 16 = .ok (.if_icmp .ge 55, 3) := dg_cX0_bringsAt_10.2.2.2.2.2.2.2.2.2.2.1
theorem dX0_bringsAt_19 : decode cX0_bringsAt 19 = .ok (.aload_n 0, 1) := dg_cX0_bringsAt_10.2.2.2.2.2.2.2.2.2.2.2.1
theorem dX0_bringsAt_20 : decode cX0_bringsAt 20 = .ok (.getfield 9, 3) := dg_cX0_bringsAt_10.2.2.2.2.2.2.2.2.2.2.2.2.1
theorem dX0_bringsAt_23 : decode cX0_bringsAt 23 = .ok (.iload 4, 2) := dg_cX0_bringsAt_10.2.2.2.2.2.2.2.2.2.2.2.2.2.1
theorem dX0_bringsAt_25 : decode cX0_bringsAt 25 = .ok (.iaload, 1) := dg_cX0_bringsAt_10.2.2.2.2.2.2.2.2.2.2.2.2.2.2.1
theorem dX0_bringsAt_26 : decode cX0_bringsAt 26 = .ok (.iload_n 1, 1) := dg_cX0_bringsAt_10.2.2.2.2.2.2.2.2.2.2.2.2.2.2.2
set_option maxRecDepth 100000 in
theorem dg_cX0_bringsAt_11 : (decode cX0_bringsAt 27 = .ok (.aload_n 0, 1)) ∧ (decode cX0_bringsAt 28 = .ok (.getfield 15, 3)) ∧ (decode cX0_bringsAt 31 = .ok (.iload 4, 2)) ∧ (decode cX0_bringsAt 33 = .ok (.iaload, 1)) ∧ (decode cX0_bringsAt 34 = .ok (.imul, 1)) ∧ (decode cX0_bringsAt 35 = .ok (.isub, 1)) ∧ (decode cX0_bringsAt 36 = .ok (.istore 5, 2)) ∧ (decode cX0_bringsAt 38 = .ok (.iload 5, 2)) ∧ (decode cX0_bringsAt 40 = .ok (.iload_n 3, 1)) ∧ (decode cX0_bringsAt 41 = .ok (.if_icmp .le 24, 3)) ∧ (decode cX0_bringsAt 44 = .ok (.iload 5, 2)) ∧ (decode cX0_bringsAt 46 = .ok (.istore_n 3, 1)) ∧ (decode cX0_bringsAt 47 = .ok (.iload_n 1, 1)) ∧ (decode cX0_bringsAt 48 = .ok (.aload_n 0, 1)) ∧ (decode cX0_bringsAt 49 = .ok (.getfield 18, 3)) ∧ (decode cX0_bringsAt 52 = .ok (.iload 4, 2)) := by decide +kernel
theorem dX0_bringsAt_27 : decode cX0_bringsAt 27 = .ok (.aload_n 0, 1) := dg_cX0_bringsAt_11.1
theorem dX0_bringsAt_28 : decode cX0_bringsAt 28 = .ok (.getfield 15, 3) := dg_cX0_bringsAt_11.2.1
theorem dX0_bringsAt_31 : decode cX0_bringsAt 31 = .ok (.iload 4, 2) := dg_cX0_bringsAt_11.2.2.1
theorem dX0_bringsAt_33 : decode cX0_bringsAt 33 = .ok (.iaload, 1) := dg_cX0_bringsAt_11.2.2.2.1
theorem dX0_bringsAt_34 : decode cX0_bringsAt 34 = .ok (.imul, 1) := dg_cX0_bringsAt_11.2.2.2.2.1
theorem dX0_bringsAt_35 : decode cX0_bringsAt 35 = .ok (.isub, 1) := dg_cX0_bringsAt_11.2.2.2.2.2.1
theorem dX0_bringsAt_36 : decode cX0_bringsAt 36 = .ok (.istore 5, 2) := dg_cX0_bringsAt_11.2.2.2.2.2.2.1
theorem dX0_bringsAt_38 : decode cX0_bringsAt 38 = .ok (.iload 5, 2) := dg_cX0_bringsAt_11.2.2.2.2.2.2.2.1
theorem dX0_bringsAt_40 : decode cX0_bringsAt 40 = .ok (.iload_n 3, 1) := dg_cX0_bringsAt_11.2.2.2.2.2.2.2.2.1
theorem dX0_bringsAt_41 : decode cX0_bringsAt 41 = .ok (.if_icmp .le 24, 3) := dg_cX0_bringsAt_11.2.2.2.2.2.2.2.2.2.1
theorem dX0_bringsAt_44 : decode cX0_bringsAt 44 = .ok (.iload 5, 2) := dg_cX0_bringsAt_11.2.2.2.2.2.2.2.2.2.2.1
theorem dX0_bringsAt_46 : decode cX0_bringsAt 46 = .ok (.istore_n 3, 1) := dg_cX0_bringsAt_11.2.2.2.2.2.2.2.2.2.2.2.1
theorem dX0_bringsAt_47 : decode cX0_bringsAt 47 = .ok (.iload_n 1, 1) := dg_cX0_bringsAt_11.2.2.2.2.2.2.2.2.2.2.2.2.1
theorem dX0_bringsAt_48 : decode cX0_bringsAt 48 = .ok (.aload_n 0, 1) := dg_cX0_bringsAt_11.2.2.2.2.2.2.2.2.2.2.2.2.2.1
theorem dX0_bringsAt_49 : decode cX0_bringsAt 49 = .ok (.getfield 18, 3) := dg_cX0_bringsAt_11.2.2.2.2.2.2.2.2.2.2.2.2.2.2.1
theorem dX0_bringsAt_52 : decode cX0_bringsAt 52 = .ok (.iload 4, 2) := dg_cX0_bringsAt_11.2.2.2.2.2.2.2.2.2.2.2.2.2.2.2
set_option maxRecDepth 100000 in
theorem dg_cX0_bringsAt_12 : (decode cX0_bringsAt 54 = .ok (.iaload, 1)) ∧ (decode cX0_bringsAt 55 = .ok (.imul, 1)) ∧ (decode cX0_bringsAt 56 = .ok (.aload_n 0, 1)) ∧ (decode cX0_bringsAt 57 = .ok (.getfield 21, 3)) ∧ (decode cX0_bringsAt 60 = .ok (.iload 4, 2)) ∧ (decode cX0_bringsAt 62 = .ok (.iaload, 1)) ∧ (decode cX0_bringsAt 63 = .ok (.iadd, 1)) ∧ (decode cX0_bringsAt 64 = .ok (.istore_n 2, 1)) ∧ (decode cX0_bringsAt 65 = .ok (.iinc 4 1, 3)) ∧ (decode cX0_bringsAt 68 = .ok (.goto (-61), 3)) ∧ (decode cX0_bringsAt 71 = .ok (.iload_n 2, 1)) ∧ (decode cX0_bringsAt 72 = .ok (.ireturn, 1)) := by decide +kernel
theorem dX0_bringsAt_54 : decode cX0_bringsAt 54 = .ok (.iaload, 1) := dg_cX0_bringsAt_12.1
theorem dX0_bringsAt_55 : decode cX0_bringsAt 55 = .ok (.imul, 1) := dg_cX0_bringsAt_12.2.1
theorem dX0_bringsAt_56 : decode cX0_bringsAt 56 = .ok (.aload_n 0, 1) := dg_cX0_bringsAt_12.2.2.1
theorem dX0_bringsAt_57 : decode cX0_bringsAt 57 = .ok (.getfield 21, 3) := dg_cX0_bringsAt_12.2.2.2.1
theorem dX0_bringsAt_60 : decode cX0_bringsAt 60 = .ok (.iload 4, 2) := dg_cX0_bringsAt_12.2.2.2.2.1
theorem dX0_bringsAt_62 : decode cX0_bringsAt 62 = .ok (.iaload, 1) := dg_cX0_bringsAt_12.2.2.2.2.2.1
theorem dX0_bringsAt_63 : decode cX0_bringsAt 63 = .ok (.iadd, 1) := dg_cX0_bringsAt_12.2.2.2.2.2.2.1
theorem dX0_bringsAt_64 : decode cX0_bringsAt 64 = .ok (.istore_n 2, 1) := dg_cX0_bringsAt_12.2.2.2.2.2.2.2.1
theorem dX0_bringsAt_65 : decode cX0_bringsAt 65 = .ok (.iinc 4 1, 3) := dg_cX0_bringsAt_12.2.2.2.2.2.2.2.2.1
theorem dX0_bringsAt_68 : decode cX0_bringsAt 68 = .ok (.goto (-61), 3) := dg_cX0_bringsAt_12.2.2.2.2.2.2.2.2.2.1
theorem dX0_bringsAt_71 : decode cX0_bringsAt 71 = .ok (.iload_n 2, 1) := dg_cX0_bringsAt_12.2.2.2.2.2.2.2.2.2.2.1
theorem dX0_bringsAt_72 : decode cX0_bringsAt 72 = .ok (.ireturn, 1) := dg_cX0_bringsAt_12.2.2.2.2.2.2.2.2.2.2.2
set_option maxRecDepth 100000 in
theorem dg_cX0_choose_13 : (decode cX0_choose 0 = .ok (.aload_n 0, 1)) ∧ (decode cX0_choose 1 = .ok (.iload_n 1, 1)) ∧ (decode cX0_choose 2 = .ok (.invokevirtual 79, 3)) ∧ (decode cX0_choose 5 = .ok (.aload_n 0, 1)) ∧ (decode cX0_choose 6 = .ok (.iconst 0, 1)) ∧ (decode cX0_choose 7 = .ok (.putfield 82, 3)) ∧ (decode cX0_choose 10 = .ok (.aload_n 0, 1)) ∧ (decode cX0_choose 11 = .ok (.aload_n 0, 1)) ∧ (decode cX0_choose 12 = .ok (.iconst 0, 1)) ∧ (decode cX0_choose 13 = .ok (.invokevirtual 85, 3)) ∧ (decode cX0_choose 16 = .ok (.putfield 89, 3)) ∧ (decode cX0_choose 19 = .ok (.iconst 1, 1)) ∧ (decode cX0_choose 20 = .ok (.istore_n 2, 1)) ∧ (decode cX0_choose 21 = .ok (.iload_n 2, 1)) ∧ (decode cX0_choose 22 = .ok (.bipush 20, 2)) ∧ (decode cX0_choose 24 = .ok (.if_icmp .gt 33, 3)) := by decide +kernel
theorem dX0_choose_0 : decode cX0_choose 0 = .ok (.aload_n 0, 1) := dg_cX0_choose_13.1
theorem dX0_choose_1 : decode cX0_choose 1 = .ok (.iload_n 1, 1) := dg_cX0_choose_13.2.1
theorem dX0_choose_2 : decode cX0_choose 2 = .ok (.invokevirtual 79, 3) := dg_cX0_choose_13.2.2.1
theorem dX0_choose_5 : decode cX0_choose 5 = .ok (.aload_n 0, 1) := dg_cX0_choose_13.2.2.2.1
theorem dX0_choose_6 : decode cX0_choose 6 = .ok (.iconst 0, 1) := dg_cX0_choose_13.2.2.2.2.1
theorem dX0_choose_7 : decode cX0_choose 7 = .ok (.putfield 82, 3) := dg_cX0_choose_13.2.2.2.2.2.1
theorem dX0_choose_10 : decode cX0_choose 10 = .ok (.aload_n 0, 1) := dg_cX0_choose_13.2.2.2.2.2.2.1
theorem dX0_choose_11 : decode cX0_choose 11 = .ok (.aload_n 0, 1) := dg_cX0_choose_13.2.2.2.2.2.2.2.1
theorem dX0_choose_12 : decode cX0_choose 12 = .ok (.iconst 0, 1) := dg_cX0_choose_13.2.2.2.2.2.2.2.2.1
theorem dX0_choose_13 : decode cX0_choose 13 = .ok (.invokevirtual 85, 3) := dg_cX0_choose_13.2.2.2.2.2.2.2.2.2.1
theorem dX0_choose_16 : decode cX0_choose 16 = .ok (.putfield 89, 3) := dg_cX0_choose_13.2.2.2.2.2.2.2.2.2.2.1
theorem dX0_choose_19 : decode cX0_choose 19 = .ok (.iconst 1, 1) := dg_cX0_choose_13.2.2.2.2.2.2.2.2.2.2.2.1
theorem dX0_choose_20 : decode cX0_choose 20 = .ok (.istore_n 2, 1) := dg_cX0_choose_13.2.2.2.2.2.2.2.2.2.2.2.2.1
theorem dX0_choose_21 : decode cX0_choose 21 = .ok (.iload_n 2, 1) := dg_cX0_choose_13.2.2.2.2.2.2.2.2.2.2.2.2.2.1
theorem dX0_choose_22 : decode cX0_choose 22 = .ok (.bipush 20, 2) := dg_cX0_choose_13.2.2.2.2.2.2.2.2.2.2.2.2.2.2.1
theorem dX0_choose_24 : decode cX0_choose 24 = .ok (.if_icmp .gt 33, 3) := dg_cX0_choose_13.2.2.2.2.2.2.2.2.2.2.2.2.2.2.2
set_option maxRecDepth 100000 in
theorem dg_cX0_choose_14 : (decode cX0_choose 27 = .ok (.aload_n 0, 1)) ∧ (decode cX0_choose 28 = .ok (.iload_n 2, 1)) ∧ (decode cX0_choose 29 = .ok (.invokevirtual 85, 3)) ∧ (decode cX0_choose 32 = .ok (.istore_n 3, 1)) ∧ (decode cX0_choose 33 = .ok (.iload_n 3, 1)) ∧ (decode cX0_choose 34 = .ok (.aload_n 0, 1)) ∧ (decode cX0_choose 35 = .ok (.getfield 89, 3)) ∧ (decode cX0_choose 38 = .ok (.if_icmp .le 13, 3)) ∧ (decode cX0_choose 41 = .ok (.aload_n 0, 1)) ∧ (decode cX0_choose 42 = .ok (.iload_n 3, 1)) ∧ (decode cX0_choose 43 = .ok (.putfield 89, 3)) ∧ (decode cX0_choose 46 = .ok (.aload_n 0, 1)) ∧ (decode cX0_choose 47 = .ok (.iload_n 2, 1)) ∧ (decode cX0_choose 48 = .ok (.putfield 82, 3)) ∧ (decode cX0_choose 51 = .ok (.iinc 2 1, 3)) ∧ (decode cX0_choose 54 = .ok (.goto (-33), 3)) := by decide +kernel
theorem dX0_choose_27 : decode cX0_choose 27 = .ok (.aload_n 0, 1) := dg_cX0_choose_14.1
theorem dX0_choose_28 : decode cX0_choose 28 = .ok (.iload_n 2, 1) := dg_cX0_choose_14.2.1
theorem dX0_choose_29 : decode cX0_choose 29 = .ok (.invokevirtual 85, 3) := dg_cX0_choose_14.2.2.1
theorem dX0_choose_32 : decode cX0_choose 32 = .ok (.istore_n 3, 1) := dg_cX0_choose_14.2.2.2.1
theorem dX0_choose_33 : decode cX0_choose 33 = .ok (.iload_n 3, 1) := dg_cX0_choose_14.2.2.2.2.1
theorem dX0_choose_34 : decode cX0_choose 34 = .ok (.aload_n 0, 1) := dg_cX0_choose_14.2.2.2.2.2.1
theorem dX0_choose_35 : decode cX0_choose 35 = .ok (.getfield 89, 3) := dg_cX0_choose_14.2.2.2.2.2.2.1
theorem dX0_choose_38 : decode cX0_choose 38 = .ok (.if_icmp .le 13, 3) := dg_cX0_choose_14.2.2.2.2.2.2.2.1
theorem dX0_choose_41 : decode cX0_choose 41 = .ok (.aload_n 0, 1) := dg_cX0_choose_14.2.2.2.2.2.2.2.2.1
theorem dX0_choose_42 : decode cX0_choose 42 = .ok (.iload_n 3, 1) := dg_cX0_choose_14.2.2.2.2.2.2.2.2.2.1
theorem dX0_choose_43 : decode cX0_choose 43 = .ok (.putfield 89, 3) := dg_cX0_choose_14.2.2.2.2.2.2.2.2.2.2.1
theorem dX0_choose_46 : decode cX0_choose 46 = .ok (.aload_n 0, 1) := dg_cX0_choose_14.2.2.2.2.2.2.2.2.2.2.2.1
theorem dX0_choose_47 : decode cX0_choose 47 = .ok (.iload_n 2, 1) := dg_cX0_choose_14.2.2.2.2.2.2.2.2.2.2.2.2.1
theorem dX0_choose_48 : decode cX0_choose 48 = .ok (.putfield 82, 3) := dg_cX0_choose_14.2.2.2.2.2.2.2.2.2.2.2.2.2.1
theorem dX0_choose_51 : decode cX0_choose 51 = .ok (.iinc 2 1, 3) := dg_cX0_choose_14.2.2.2.2.2.2.2.2.2.2.2.2.2.2.1
theorem dX0_choose_54 : decode cX0_choose 54 = .ok (.goto (-33), 3) := dg_cX0_choose_14.2.2.2.2.2.2.2.2.2.2.2.2.2.2.2
theorem dX0_choose_57 : decode cX0_choose 57 = .ok (.return_, 1) := by decide +kernel
set_option maxRecDepth 100000 in
theorem dg_cX0_wantsOther_15 : (decode cX0_wantsOther 0 = .ok (.aload_n 0, 1)) ∧ (decode cX0_wantsOther 1 = .ok (.iload_n 1, 1)) ∧ (decode cX0_wantsOther 2 = .ok (.invokevirtual 92, 3)) ∧ (decode cX0_wantsOther 5 = .ok (.aload_n 0, 1)) ∧ (decode cX0_wantsOther 6 = .ok (.getfield 89, 3)) ∧ (decode cX0_wantsOther 9 = .ok (.aload_n 0, 1)) ∧ (decode cX0_wantsOther 10 = .ok (.getfield 35, 3)) ∧ (decode cX0_wantsOther 13 = .ok (.iload_n 1, 1)) ∧ (decode cX0_wantsOther 14 = .ok (.invokevirtual 95, 3)) ∧ (decode cX0_wantsOther 17 = .ok (.if_icmp .le 7, 3)) ∧ (decode cX0_wantsOther 20 = .ok (.iconst 1, 1)) ∧ (decode cX0_wantsOther 21 = .ok (.goto 4, 3)) ∧ (decode cX0_wantsOther 24 = .ok (.iconst 0, 1)) ∧ (decode cX0_wantsOther 25 = .ok (.ireturn, 1)) := by decide +kernel
theorem dX0_wantsOther_0 : decode cX0_wantsOther 0 = .ok (.aload_n 0, 1) := dg_cX0_wantsOther_15.1
theorem dX0_wantsOther_1 : decode cX0_wantsOther 1 = .ok (.iload_n 1, 1) := dg_cX0_wantsOther_15.2.1
theorem dX0_wantsOther_2 : decode cX0_wantsOther 2 = .ok (.invokevirtual 92, 3) := dg_cX0_wantsOther_15.2.2.1
theorem dX0_wantsOther_5 : decode cX0_wantsOther 5 = .ok (.aload_n 0, 1) := dg_cX0_wantsOther_15.2.2.2.1
theorem dX0_wantsOther_6 : decode cX0_wantsOther 6 = .ok (.getfield 89, 3) := dg_cX0_wantsOther_15.2.2.2.2.1
theorem dX0_wantsOther_9 : decode cX0_wantsOther 9 = .ok (.aload_n 0, 1) := dg_cX0_wantsOther_15.2.2.2.2.2.1
theorem dX0_wantsOther_10 : decode cX0_wantsOther 10 = .ok (.getfield 35, 3) := dg_cX0_wantsOther_15.2.2.2.2.2.2.1
theorem dX0_wantsOther_13 : decode cX0_wantsOther 13 = .ok (.iload_n 1, 1) := dg_cX0_wantsOther_15.2.2.2.2.2.2.2.1
theorem dX0_wantsOther_14 : decode cX0_wantsOther 14 = .ok (.invokevirtual 95, 3) := dg_cX0_wantsOther_15.2.2.2.2.2.2.2.2.1
theorem dX0_wantsOther_17 : decode cX0_wantsOther 17 = .ok (.if_icmp .le 7, 3) := dg_cX0_wantsOther_15.2.2.2.2.2.2.2.2.2.1
theorem dX0_wantsOther_20 : decode cX0_wantsOther 20 = .ok (.iconst 1, 1) := dg_cX0_wantsOther_15.2.2.2.2.2.2.2.2.2.2.1
theorem dX0_wantsOther_21 : decode cX0_wantsOther 21 = .ok (.goto 4, 3) := dg_cX0_wantsOther_15.2.2.2.2.2.2.2.2.2.2.2.1
theorem dX0_wantsOther_24 : decode cX0_wantsOther 24 = .ok (.iconst 0, 1) := dg_cX0_wantsOther_15.2.2.2.2.2.2.2.2.2.2.2.2.1
theorem dX0_wantsOther_25 : decode cX0_wantsOther 25 = .ok (.ireturn, 1) := dg_cX0_wantsOther_15.2.2.2.2.2.2.2.2.2.2.2.2.2
set_option maxRecDepth 100000 in
theorem dg_cX0_changeInRound_16 : (decode cX0_changeInRound 0 = .ok (.iconst 0, 1)) ∧ (decode cX0_changeInRound 1 = .ok (.istore_n 1, 1)) ∧ (decode cX0_changeInRound 2 = .ok (.iconst 0, 1)) ∧ (decode cX0_changeInRound 3 = .ok (.istore_n 2, 1)) ∧ (decode cX0_changeInRound 4 = .ok (.iload_n 2, 1)) ∧ (decode cX0_changeInRound 5 = .ok (.aload_n 0, 1)) ∧ (decode cX0_changeInRound 6 = .ok (.getfield 24, 3)) ∧ (decode cX0_changeInRound 9 = .ok (.getfield 98, 3)) ∧ (decode cX0_changeInRound 12 = .ok (.if_icmp .ge 28, 3)) ∧ (decode cX0_changeInRound 15 = .ok (.aload_n 0, 1)) ∧ (decode cX0_changeInRound 16 = .ok (.iload_n 2, 1)) ∧ (decode cX0_changeInRound 17 = .ok (.invokevirtual 101, 3)) ∧ (decode cX0_changeInRound 20 = .ok (.ifCond .eq 14, 3)) ∧ (decode cX0_changeInRound 23 = .ok (.aload_n 0, 1)) ∧ (decode cX0_changeInRound 24 = .ok (.iload_n 2, 1)) ∧ (decode cX0_changeInRound 25 = .ok (.aload_n 0, 1)) := by decide +kernel
theorem dX0_changeInRound_0 : decode cX0_changeInRound 0 = .ok (.iconst 0, 1) := dg_cX0_changeInRound_16.1
theorem dX0_changeInRound_1 : decode cX0_changeInRound 1 = .ok (.istore_n 1, 1) := dg_cX0_changeInRound_16.2.1
theorem dX0_changeInRound_2 : decode cX0_changeInRound 2 = .ok (.iconst 0, 1) := dg_cX0_changeInRound_16.2.2.1
theorem dX0_changeInRound_3 : decode cX0_changeInRound 3 = .ok (.istore_n 2, 1) := dg_cX0_changeInRound_16.2.2.2.1
theorem dX0_changeInRound_4 : decode cX0_changeInRound 4 = .ok (.iload_n 2, 1) := dg_cX0_changeInRound_16.2.2.2.2.1
theorem dX0_changeInRound_5 : decode cX0_changeInRound 5 = .ok (.aload_n 0, 1) := dg_cX0_changeInRound_16.2.2.2.2.2.1
theorem dX0_changeInRound_6 : decode cX0_changeInRound 6 = .ok (.getfield 24, 3) := dg_cX0_changeInRound_16.2.2.2.2.2.2.1
theorem dX0_changeInRound_9 : decode cX0_changeInRound 9 = .ok (.getfield 98, 3) := dg_cX0_changeInRound_16.2.2.2.2.2.2.2.1
theorem dX0_changeInRound_12 : decode cX0_changeInRound 12 = .ok (.if_icmp .ge 28, 3) := dg_cX0_changeInRound_16.2.2.2.2.2.2.2.2.1
theorem dX0_changeInRound_15 : decode cX0_changeInRound 15 = .ok (.aload_n 0, 1) := dg_cX0_changeInRound_16.2.2.2.2.2.2.2.2.2.1
theorem dX0_changeInRound_16 : decode cX0_changeInRound 16 = .ok (.iload_n 2, 1) := dg_cX0_changeInRound_16.2.2.2.2.2.2.2.2.2.2.1
theorem dX0_changeInRound_17 : decode cX0_changeInRound 17 = .ok (.invokevirtual 101, 3) := dg_cX0_changeInRound_16.2.2.2.2.2.2.2.2.2.2.2.1
theorem dX0_changeInRound_20 : decode cX0_changeInRound 20 = .ok (.ifCond .eq 14, 3) := dg_cX0_changeInRound_16.2.2.2.2.2.2.2.2.2.2.2.2.1
theorem dX0_changeInRound_23 : decode cX0_changeInRound 23 = .ok (.aload_n 0, 1) := dg_cX0_changeInRound_16.2.2.2.2.2.2.2.2.2.2.2.2.2.1
theorem dX0_changeInRound_24 : decode cX0_changeInRound 24 = .ok (.iload_n 2, 1) := dg_cX0_changeInRound_16.2.2.2.2.2.2.2.2.2.2.2.2.2.2.1
theorem dX0_changeInRound_25 : decode cX0_changeInRound 25 = .ok (.aload_n 0, 1) := dg_cX0_changeInRound_16.2.2.2.2.2.2.2.2.2.2.2.2.2.2.2
set_option maxRecDepth 100000 in
theorem dg_cX0_changeInRound_17 : (decode cX0_changeInRound 26 = .ok (.getfield 82, 3)) ∧ (decode cX0_changeInRound 29 = .ok (.invokevirtual 104, 3)) ∧ (decode cX0_changeInRound 32 = .ok (.iconst 1, 1)) ∧ (decode cX0_changeInRound 33 = .ok (.istore_n 1, 1)) ∧ (decode cX0_changeInRound 34 = .ok (.iinc 2 1, 3)) ∧ (decode cX0_changeInRound 37 = .ok (.goto (-33), 3)) ∧ (decode cX0_changeInRound 40 = .ok (.iload_n 1, 1)) ∧ (decode cX0_changeInRound 41 = .ok (.ireturn, 1)) := by decide +kernel
theorem dX0_changeInRound_26 : decode cX0_changeInRound 26 = .ok (.getfield 82, 3) := dg_cX0_changeInRound_17.1
theorem dX0_changeInRound_29 : decode cX0_changeInRound 29 = .ok (.invokevirtual 104, 3) := dg_cX0_changeInRound_17.2.1
theorem dX0_changeInRound_32 : decode cX0_changeInRound 32 = .ok (.iconst 1, 1) := dg_cX0_changeInRound_17.2.2.1
theorem dX0_changeInRound_33 : decode cX0_changeInRound 33 = .ok (.istore_n 1, 1) := dg_cX0_changeInRound_17.2.2.2.1
theorem dX0_changeInRound_34 : decode cX0_changeInRound 34 = .ok (.iinc 2 1, 3) := dg_cX0_changeInRound_17.2.2.2.2.1
theorem dX0_changeInRound_37 : decode cX0_changeInRound 37 = .ok (.goto (-33), 3) := dg_cX0_changeInRound_17.2.2.2.2.2.1
theorem dX0_changeInRound_40 : decode cX0_changeInRound 40 = .ok (.iload_n 1, 1) := dg_cX0_changeInRound_17.2.2.2.2.2.2.1
theorem dX0_changeInRound_41 : decode cX0_changeInRound 41 = .ok (.ireturn, 1) := dg_cX0_changeInRound_17.2.2.2.2.2.2.2
set_option maxRecDepth 100000 in
theorem dg_cX0_setFees_18 : (decode cX0_setFees 0 = .ok (.iconst 0, 1)) ∧ (decode cX0_setFees 1 = .ok (.istore_n 3, 1)) ∧ (decode cX0_setFees 2 = .ok (.iload_n 3, 1)) ∧ (decode cX0_setFees 3 = .ok (.aload_n 0, 1)) ∧ (decode cX0_setFees 4 = .ok (.getfield 34, 3)) ∧ (decode cX0_setFees 7 = .ok (.getfield 107, 3)) ∧ (decode cX0_setFees 10 = .ok (.if_icmp .ge 32, 3)) ∧ (decode cX0_setFees 13 = .ok (.aload_n 0, 1)) ∧ (decode cX0_setFees 14 = .ok (.getfield 34, 3)) ∧ (decode cX0_setFees 17 = .ok (.getfield 73, 3)) ∧ (decode cX0_setFees 20 = .ok (.iload_n 3, 1)) ∧ (decode cX0_setFees 21 = .ok (.iaload, 1)) ∧ (decode cX0_setFees 22 = .ok (.iload_n 1, 1)) ∧ (decode cX0_setFees 23 = .ok (.if_icmp .ne 13, 3)) ∧ (decode cX0_setFees 26 = .ok (.aload_n 0, 1)) ∧ (decode cX0_setFees 27 = .ok (.getfield 34, 3)) := by decide +kernel
theorem dX0_setFees_0 : decode cX0_setFees 0 = .ok (.iconst 0, 1) := dg_cX0_setFees_18.1
theorem dX0_setFees_1 : decode cX0_setFees 1 = .ok (.istore_n 3, 1) := dg_cX0_setFees_18.2.1
theorem dX0_setFees_2 : decode cX0_setFees 2 = .ok (.iload_n 3, 1) := dg_cX0_setFees_18.2.2.1
theorem dX0_setFees_3 : decode cX0_setFees 3 = .ok (.aload_n 0, 1) := dg_cX0_setFees_18.2.2.2.1
theorem dX0_setFees_4 : decode cX0_setFees 4 = .ok (.getfield 34, 3) := dg_cX0_setFees_18.2.2.2.2.1
theorem dX0_setFees_7 : decode cX0_setFees 7 = .ok (.getfield 107, 3) := dg_cX0_setFees_18.2.2.2.2.2.1
theorem dX0_setFees_10 : decode cX0_setFees 10 = .ok (.if_icmp .ge 32, 3) := dg_cX0_setFees_18.2.2.2.2.2.2.1
theorem dX0_setFees_13 : decode cX0_setFees 13 = .ok (.aload_n 0, 1) := dg_cX0_setFees_18.2.2.2.2.2.2.2.1
theorem dX0_setFees_14 : decode cX0_setFees 14 = .ok (.getfield 34, 3) := dg_cX0_setFees_18.2.2.2.2.2.2.2.2.1
theorem dX0_setFees_17 : decode cX0_setFees 17 = .ok (.getfield 73, 3) := dg_cX0_setFees_18.2.2.2.2.2.2.2.2.2.1
theorem dX0_setFees_20 : decode cX0_setFees 20 = .ok (.iload_n 3, 1) := dg_cX0_setFees_18.2.2.2.2.2.2.2.2.2.2.1
theorem dX0_setFees_21 : decode cX0_setFees 21 = .ok (.iaload, 1) := dg_cX0_setFees_18.2.2.2.2.2.2.2.2.2.2.2.1
theorem dX0_setFees_22 : decode cX0_setFees 22 = .ok (.iload_n 1, 1) := dg_cX0_setFees_18.2.2.2.2.2.2.2.2.2.2.2.2.1
theorem dX0_setFees_23 : decode cX0_setFees 23 = .ok (.if_icmp .ne 13, 3) := dg_cX0_setFees_18.2.2.2.2.2.2.2.2.2.2.2.2.2.1
theorem dX0_setFees_26 : decode cX0_setFees 26 = .ok (.aload_n 0, 1) := dg_cX0_setFees_18.2.2.2.2.2.2.2.2.2.2.2.2.2.2.1
theorem dX0_setFees_27 : decode cX0_setFees 27 = .ok (.getfield 34, 3) := dg_cX0_setFees_18.2.2.2.2.2.2.2.2.2.2.2.2.2.2.2
set_option maxRecDepth 100000 in
theorem dg_cX0_setFees_19 : (decode cX0_setFees 30 = .ok (.getfield 76, 3)) ∧ (decode cX0_setFees 33 = .ok (.iload_n 3, 1)) ∧ (decode cX0_setFees 34 = .ok (.iload_n 2, 1)) ∧ (decode cX0_setFees 35 = .ok (.iastore, 1)) ∧ (decode cX0_setFees 36 = .ok (.iinc 3 1, 3)) ∧ (decode cX0_setFees 39 = .ok (.goto (-37), 3)) ∧ (decode cX0_setFees 42 = .ok (.return_, 1)) := by decide +kernel
theorem dX0_setFees_30 : decode cX0_setFees 30 = .ok (.getfield 76, 3) := dg_cX0_setFees_19.1
theorem dX0_setFees_33 : decode cX0_setFees 33 = .ok (.iload_n 3, 1) := dg_cX0_setFees_19.2.1
theorem dX0_setFees_34 : decode cX0_setFees 34 = .ok (.iload_n 2, 1) := dg_cX0_setFees_19.2.2.1
theorem dX0_setFees_35 : decode cX0_setFees 35 = .ok (.iastore, 1) := dg_cX0_setFees_19.2.2.2.1
theorem dX0_setFees_36 : decode cX0_setFees 36 = .ok (.iinc 3 1, 3) := dg_cX0_setFees_19.2.2.2.2.1
theorem dX0_setFees_39 : decode cX0_setFees 39 = .ok (.goto (-37), 3) := dg_cX0_setFees_19.2.2.2.2.2.1
theorem dX0_setFees_42 : decode cX0_setFees 42 = .ok (.return_, 1) := dg_cX0_setFees_19.2.2.2.2.2.2
set_option maxRecDepth 100000 in
theorem dg_cX1_init_20 : (decode cX1_init 0 = .ok (.aload_n 0, 1)) ∧ (decode cX1_init 1 = .ok (.invokespecial 3, 3)) ∧ (decode cX1_init 4 = .ok (.aload_n 0, 1)) ∧ (decode cX1_init 5 = .ok (.bipush 12, 2)) ∧ (decode cX1_init 7 = .ok (.newarray .int, 2)) ∧ (decode cX1_init 9 = .ok (.putfield 9, 3)) ∧ (decode cX1_init 12 = .ok (.aload_n 0, 1)) ∧ (decode cX1_init 13 = .ok (.bipush 12, 2)) ∧ (decode cX1_init 15 = .ok (.newarray .int, 2)) ∧ (decode cX1_init 17 = .ok (.putfield 15, 3)) ∧ (decode cX1_init 20 = .ok (.aload_n 0, 1)) ∧ (decode cX1_init 21 = .ok (.bipush 12, 2)) ∧ (decode cX1_init 23 = .ok (.newarray .int, 2)) ∧ (decode cX1_init 25 = .ok (.putfield 18, 3)) ∧ (decode cX1_init 28 = .ok (.aload_n 0, 1)) ∧ (decode cX1_init 29 = .ok (.bipush 12, 2)) := by decide +kernel
theorem dX1_init_0 : decode cX1_init 0 = .ok (.aload_n 0, 1) := dg_cX1_init_20.1
theorem dX1_init_1 : decode cX1_init 1 = .ok (.invokespecial 3, 3) := dg_cX1_init_20.2.1
theorem dX1_init_4 : decode cX1_init 4 = .ok (.aload_n 0, 1) := dg_cX1_init_20.2.2.1
theorem dX1_init_5 : decode cX1_init 5 = .ok (.bipush 12, 2) := dg_cX1_init_20.2.2.2.1
theorem dX1_init_7 : decode cX1_init 7 = .ok (.newarray .int, 2) := dg_cX1_init_20.2.2.2.2.1
theorem dX1_init_9 : decode cX1_init 9 = .ok (.putfield 9, 3) := dg_cX1_init_20.2.2.2.2.2.1
theorem dX1_init_12 : decode cX1_init 12 = .ok (.aload_n 0, 1) := dg_cX1_init_20.2.2.2.2.2.2.1
theorem dX1_init_13 : decode cX1_init 13 = .ok (.bipush 12, 2) := dg_cX1_init_20.2.2.2.2.2.2.2.1
theorem dX1_init_15 : decode cX1_init 15 = .ok (.newarray .int, 2) := dg_cX1_init_20.2.2.2.2.2.2.2.2.1
theorem dX1_init_17 : decode cX1_init 17 = .ok (.putfield 15, 3) := dg_cX1_init_20.2.2.2.2.2.2.2.2.2.1
theorem dX1_init_20 : decode cX1_init 20 = .ok (.aload_n 0, 1) := dg_cX1_init_20.2.2.2.2.2.2.2.2.2.2.1
theorem dX1_init_21 : decode cX1_init 21 = .ok (.bipush 12, 2) := dg_cX1_init_20.2.2.2.2.2.2.2.2.2.2.2.1
theorem dX1_init_23 : decode cX1_init 23 = .ok (.newarray .int, 2) := dg_cX1_init_20.2.2.2.2.2.2.2.2.2.2.2.2.1
theorem dX1_init_25 : decode cX1_init 25 = .ok (.putfield 18, 3) := dg_cX1_init_20.2.2.2.2.2.2.2.2.2.2.2.2.2.1
theorem dX1_init_28 : decode cX1_init 28 = .ok (.aload_n 0, 1) := dg_cX1_init_20.2.2.2.2.2.2.2.2.2.2.2.2.2.2.1
theorem dX1_init_29 : decode cX1_init 29 = .ok (.bipush 12, 2) := dg_cX1_init_20.2.2.2.2.2.2.2.2.2.2.2.2.2.2.2
set_option maxRecDepth 100000 in
theorem dg_cX1_init_21 : (decode cX1_init 31 = .ok (.newarray .int, 2)) ∧ (decode cX1_init 33 = .ok (.putfield 21, 3)) ∧ (decode cX1_init 36 = .ok (.aload_n 0, 1)) ∧ (decode cX1_init 37 = .ok (.bipush 12, 2)) ∧ (decode cX1_init 39 = .ok (.newarray .int, 2)) ∧ (decode cX1_init 41 = .ok (.putfield 24, 3)) ∧ (decode cX1_init 44 = .ok (.aload_n 0, 1)) ∧ (decode cX1_init 45 = .ok (.bipush 6, 2)) ∧ (decode cX1_init 47 = .ok (.newarray .int, 2)) ∧ (decode cX1_init 49 = .ok (.putfield 27, 3)) ∧ (decode cX1_init 52 = .ok (.aload_n 0, 1)) ∧ (decode cX1_init 53 = .ok (.bipush 12, 2)) ∧ (decode cX1_init 55 = .ok (.newarray .int, 2)) ∧ (decode cX1_init 57 = .ok (.putfield 30, 3)) ∧ (decode cX1_init 60 = .ok (.return_, 1)) := by decide +kernel
theorem dX1_init_31 : decode cX1_init 31 = .ok (.newarray .int, 2) := dg_cX1_init_21.1
theorem dX1_init_33 : decode cX1_init 33 = .ok (.putfield 21, 3) := dg_cX1_init_21.2.1
theorem dX1_init_36 : decode cX1_init 36 = .ok (.aload_n 0, 1) := dg_cX1_init_21.2.2.1
theorem dX1_init_37 : decode cX1_init 37 = .ok (.bipush 12, 2) := dg_cX1_init_21.2.2.2.1
theorem dX1_init_39 : decode cX1_init 39 = .ok (.newarray .int, 2) := dg_cX1_init_21.2.2.2.2.1
theorem dX1_init_41 : decode cX1_init 41 = .ok (.putfield 24, 3) := dg_cX1_init_21.2.2.2.2.2.1
theorem dX1_init_44 : decode cX1_init 44 = .ok (.aload_n 0, 1) := dg_cX1_init_21.2.2.2.2.2.2.1
theorem dX1_init_45 : decode cX1_init 45 = .ok (.bipush 6, 2) := dg_cX1_init_21.2.2.2.2.2.2.2.1
theorem dX1_init_47 : decode cX1_init 47 = .ok (.newarray .int, 2) := dg_cX1_init_21.2.2.2.2.2.2.2.2.1
theorem dX1_init_49 : decode cX1_init 49 = .ok (.putfield 27, 3) := dg_cX1_init_21.2.2.2.2.2.2.2.2.2.1
theorem dX1_init_52 : decode cX1_init 52 = .ok (.aload_n 0, 1) := dg_cX1_init_21.2.2.2.2.2.2.2.2.2.2.1
theorem dX1_init_53 : decode cX1_init 53 = .ok (.bipush 12, 2) := dg_cX1_init_21.2.2.2.2.2.2.2.2.2.2.2.1
theorem dX1_init_55 : decode cX1_init 55 = .ok (.newarray .int, 2) := dg_cX1_init_21.2.2.2.2.2.2.2.2.2.2.2.2.1
theorem dX1_init_57 : decode cX1_init 57 = .ok (.putfield 30, 3) := dg_cX1_init_21.2.2.2.2.2.2.2.2.2.2.2.2.2.1
theorem dX1_init_60 : decode cX1_init 60 = .ok (.return_, 1) := dg_cX1_init_21.2.2.2.2.2.2.2.2.2.2.2.2.2.2
set_option maxRecDepth 100000 in
theorem dg_cX1_empty_22 : (decode cX1_empty 0 = .ok (.aload_n 0, 1)) ∧ (decode cX1_empty 1 = .ok (.iconst 0, 1)) ∧ (decode cX1_empty 2 = .ok (.putfield 33, 3)) ∧ (decode cX1_empty 5 = .ok (.aload_n 0, 1)) ∧ (decode cX1_empty 6 = .ok (.iconst 0, 1)) ∧ (decode cX1_empty 7 = .ok (.putfield 37, 3)) ∧ (decode cX1_empty 10 = .ok (.aload_n 0, 1)) ∧ (decode cX1_empty 11 = .ok (.getfield 27, 3)) ∧ (decode cX1_empty 14 = .ok (.iconst 0, 1)) ∧ (decode cX1_empty 15 = .ok (.invokestatic 40, 3)) ∧ (decode cX1_empty 18 = .ok (.return_, 1)) := by decide +kernel
theorem dX1_empty_0 : decode cX1_empty 0 = .ok (.aload_n 0, 1) := dg_cX1_empty_22.1
theorem dX1_empty_1 : decode cX1_empty 1 = .ok (.iconst 0, 1) := dg_cX1_empty_22.2.1
theorem dX1_empty_2 : decode cX1_empty 2 = .ok (.putfield 33, 3) := dg_cX1_empty_22.2.2.1
theorem dX1_empty_5 : decode cX1_empty 5 = .ok (.aload_n 0, 1) := dg_cX1_empty_22.2.2.2.1
theorem dX1_empty_6 : decode cX1_empty 6 = .ok (.iconst 0, 1) := dg_cX1_empty_22.2.2.2.2.1
theorem dX1_empty_7 : decode cX1_empty 7 = .ok (.putfield 37, 3) := dg_cX1_empty_22.2.2.2.2.2.1
theorem dX1_empty_10 : decode cX1_empty 10 = .ok (.aload_n 0, 1) := dg_cX1_empty_22.2.2.2.2.2.2.1
theorem dX1_empty_11 : decode cX1_empty 11 = .ok (.getfield 27, 3) := dg_cX1_empty_22.2.2.2.2.2.2.2.1
theorem dX1_empty_14 : decode cX1_empty 14 = .ok (.iconst 0, 1) := dg_cX1_empty_22.2.2.2.2.2.2.2.2.1
theorem dX1_empty_15 : decode cX1_empty 15 = .ok (.invokestatic 40, 3) := dg_cX1_empty_22.2.2.2.2.2.2.2.2.2.1
theorem dX1_empty_18 : decode cX1_empty 18 = .ok (.return_, 1) := dg_cX1_empty_22.2.2.2.2.2.2.2.2.2.2
set_option maxRecDepth 100000 in
theorem dg_cX1_copyFrom_23 : (decode cX1_copyFrom 0 = .ok (.aload_n 0, 1)) ∧ (decode cX1_copyFrom 1 = .ok (.aload_n 1, 1)) ∧ (decode cX1_copyFrom 2 = .ok (.getfield 33, 3)) ∧ (decode cX1_copyFrom 5 = .ok (.putfield 33, 3)) ∧ (decode cX1_copyFrom 8 = .ok (.aload_n 1, 1)) ∧ (decode cX1_copyFrom 9 = .ok (.getfield 9, 3)) ∧ (decode cX1_copyFrom 12 = .ok (.iconst 0, 1)) ∧ (decode cX1_copyFrom 13 = .ok (.aload_n 0, 1)) ∧ (decode cX1_copyFrom 14 = .ok (.getfield 9, 3)) ∧ (decode cX1_copyFrom 17 = .ok (.iconst 0, 1)) ∧ (decode cX1_copyFrom 18 = .ok (.bipush 12, 2)) ∧ (decode cX1_copyFrom 20 = .ok (.invokestatic 46, 3)) ∧ (decode cX1_copyFrom 23 = .ok (.aload_n 1, 1)) ∧ (decode cX1_copyFrom 24 = .ok (.getfield 15, 3)) ∧ (decode cX1_copyFrom 27 = .ok (.iconst 0, 1)) ∧ (decode cX1_copyFrom 28 = .ok (.aload_n 0, 1)) := by decide +kernel
theorem dX1_copyFrom_0 : decode cX1_copyFrom 0 = .ok (.aload_n 0, 1) := dg_cX1_copyFrom_23.1
theorem dX1_copyFrom_1 : decode cX1_copyFrom 1 = .ok (.aload_n 1, 1) := dg_cX1_copyFrom_23.2.1
theorem dX1_copyFrom_2 : decode cX1_copyFrom 2 = .ok (.getfield 33, 3) := dg_cX1_copyFrom_23.2.2.1
theorem dX1_copyFrom_5 : decode cX1_copyFrom 5 = .ok (.putfield 33, 3) := dg_cX1_copyFrom_23.2.2.2.1
theorem dX1_copyFrom_8 : decode cX1_copyFrom 8 = .ok (.aload_n 1, 1) := dg_cX1_copyFrom_23.2.2.2.2.1
theorem dX1_copyFrom_9 : decode cX1_copyFrom 9 = .ok (.getfield 9, 3) := dg_cX1_copyFrom_23.2.2.2.2.2.1
theorem dX1_copyFrom_12 : decode cX1_copyFrom 12 = .ok (.iconst 0, 1) := dg_cX1_copyFrom_23.2.2.2.2.2.2.1
theorem dX1_copyFrom_13 : decode cX1_copyFrom 13 = .ok (.aload_n 0, 1) := dg_cX1_copyFrom_23.2.2.2.2.2.2.2.1
theorem dX1_copyFrom_14 : decode cX1_copyFrom 14 = .ok (.getfield 9, 3) := dg_cX1_copyFrom_23.2.2.2.2.2.2.2.2.1
theorem dX1_copyFrom_17 : decode cX1_copyFrom 17 = .ok (.iconst 0, 1) := dg_cX1_copyFrom_23.2.2.2.2.2.2.2.2.2.1
theorem dX1_copyFrom_18 : decode cX1_copyFrom 18 = .ok (.bipush 12, 2) := dg_cX1_copyFrom_23.2.2.2.2.2.2.2.2.2.2.1
theorem dX1_copyFrom_20 : decode cX1_copyFrom 20 = .ok (.invokestatic 46, 3) := dg_cX1_copyFrom_23.2.2.2.2.2.2.2.2.2.2.2.1
theorem dX1_copyFrom_23 : decode cX1_copyFrom 23 = .ok (.aload_n 1, 1) := dg_cX1_copyFrom_23.2.2.2.2.2.2.2.2.2.2.2.2.1
theorem dX1_copyFrom_24 : decode cX1_copyFrom 24 = .ok (.getfield 15, 3) := dg_cX1_copyFrom_23.2.2.2.2.2.2.2.2.2.2.2.2.2.1
theorem dX1_copyFrom_27 : decode cX1_copyFrom 27 = .ok (.iconst 0, 1) := dg_cX1_copyFrom_23.2.2.2.2.2.2.2.2.2.2.2.2.2.2.1
theorem dX1_copyFrom_28 : decode cX1_copyFrom 28 = .ok (.aload_n 0, 1) := dg_cX1_copyFrom_23.2.2.2.2.2.2.2.2.2.2.2.2.2.2.2
set_option maxRecDepth 100000 in
theorem dg_cX1_copyFrom_24 : (decode cX1_copyFrom 29 = .ok (.getfield 15, 3)) ∧ (decode cX1_copyFrom 32 = .ok (.iconst 0, 1)) ∧ (decode cX1_copyFrom 33 = .ok (.bipush 12, 2)) ∧ (decode cX1_copyFrom 35 = .ok (.invokestatic 46, 3)) ∧ (decode cX1_copyFrom 38 = .ok (.aload_n 1, 1)) ∧ (decode cX1_copyFrom 39 = .ok (.getfield 18, 3)) ∧ (decode cX1_copyFrom 42 = .ok (.iconst 0, 1)) ∧ (decode cX1_copyFrom 43 = .ok (.aload_n 0, 1)) ∧ (decode cX1_copyFrom 44 = .ok (.getfield 18, 3)) ∧ (decode cX1_copyFrom 47 = .ok (.iconst 0, 1)) ∧ (decode cX1_copyFrom 48 = .ok (.bipush 12, 2)) ∧ (decode cX1_copyFrom 50 = .ok (.invokestatic 46, 3)) ∧ (decode cX1_copyFrom 53 = .ok (.aload_n 1, 1)) ∧ (decode cX1_copyFrom 54 = .ok (.getfield 21, 3)) ∧ (decode cX1_copyFrom 57 = .ok (.iconst 0, 1)) ∧ (decode cX1_copyFrom 58 = .ok (.aload_n 0, 1)) := by decide +kernel
theorem dX1_copyFrom_29 : decode cX1_copyFrom 29 = .ok (.getfield 15, 3) := dg_cX1_copyFrom_24.1
theorem dX1_copyFrom_32 : decode cX1_copyFrom 32 = .ok (.iconst 0, 1) := dg_cX1_copyFrom_24.2.1
theorem dX1_copyFrom_33 : decode cX1_copyFrom 33 = .ok (.bipush 12, 2) := dg_cX1_copyFrom_24.2.2.1
theorem dX1_copyFrom_35 : decode cX1_copyFrom 35 = .ok (.invokestatic 46, 3) := dg_cX1_copyFrom_24.2.2.2.1
theorem dX1_copyFrom_38 : decode cX1_copyFrom 38 = .ok (.aload_n 1, 1) := dg_cX1_copyFrom_24.2.2.2.2.1
theorem dX1_copyFrom_39 : decode cX1_copyFrom 39 = .ok (.getfield 18, 3) := dg_cX1_copyFrom_24.2.2.2.2.2.1
theorem dX1_copyFrom_42 : decode cX1_copyFrom 42 = .ok (.iconst 0, 1) := dg_cX1_copyFrom_24.2.2.2.2.2.2.1
theorem dX1_copyFrom_43 : decode cX1_copyFrom 43 = .ok (.aload_n 0, 1) := dg_cX1_copyFrom_24.2.2.2.2.2.2.2.1
theorem dX1_copyFrom_44 : decode cX1_copyFrom 44 = .ok (.getfield 18, 3) := dg_cX1_copyFrom_24.2.2.2.2.2.2.2.2.1
theorem dX1_copyFrom_47 : decode cX1_copyFrom 47 = .ok (.iconst 0, 1) := dg_cX1_copyFrom_24.2.2.2.2.2.2.2.2.2.1
theorem dX1_copyFrom_48 : decode cX1_copyFrom 48 = .ok (.bipush 12, 2) := dg_cX1_copyFrom_24.2.2.2.2.2.2.2.2.2.2.1
theorem dX1_copyFrom_50 : decode cX1_copyFrom 50 = .ok (.invokestatic 46, 3) := dg_cX1_copyFrom_24.2.2.2.2.2.2.2.2.2.2.2.1
theorem dX1_copyFrom_53 : decode cX1_copyFrom 53 = .ok (.aload_n 1, 1) := dg_cX1_copyFrom_24.2.2.2.2.2.2.2.2.2.2.2.2.1
theorem dX1_copyFrom_54 : decode cX1_copyFrom 54 = .ok (.getfield 21, 3) := dg_cX1_copyFrom_24.2.2.2.2.2.2.2.2.2.2.2.2.2.1
theorem dX1_copyFrom_57 : decode cX1_copyFrom 57 = .ok (.iconst 0, 1) := dg_cX1_copyFrom_24.2.2.2.2.2.2.2.2.2.2.2.2.2.2.1
theorem dX1_copyFrom_58 : decode cX1_copyFrom 58 = .ok (.aload_n 0, 1) := dg_cX1_copyFrom_24.2.2.2.2.2.2.2.2.2.2.2.2.2.2.2
set_option maxRecDepth 100000 in
theorem dg_cX1_copyFrom_25 : (decode cX1_copyFrom 59 = .ok (.getfield 21, 3)) ∧ (decode cX1_copyFrom 62 = .ok (.iconst 0, 1)) ∧ (decode cX1_copyFrom 63 = .ok (.bipush 12, 2)) ∧ (decode cX1_copyFrom 65 = .ok (.invokestatic 46, 3)) ∧ (decode cX1_copyFrom 68 = .ok (.aload_n 1, 1)) ∧ (decode cX1_copyFrom 69 = .ok (.getfield 24, 3)) ∧ (decode cX1_copyFrom 72 = .ok (.iconst 0, 1)) ∧ (decode cX1_copyFrom 73 = .ok (.aload_n 0, 1)) ∧ (decode cX1_copyFrom 74 = .ok (.getfield 24, 3)) ∧ (decode cX1_copyFrom 77 = .ok (.iconst 0, 1)) ∧ (decode cX1_copyFrom 78 = .ok (.bipush 12, 2)) ∧ (decode cX1_copyFrom 80 = .ok (.invokestatic 46, 3)) ∧ (decode cX1_copyFrom 83 = .ok (.aload_n 1, 1)) ∧ (decode cX1_copyFrom 84 = .ok (.getfield 27, 3)) ∧ (decode cX1_copyFrom 87 = .ok (.iconst 0, 1)) ∧ (decode cX1_copyFrom 88 = .ok (.aload_n 0, 1)) := by decide +kernel
theorem dX1_copyFrom_59 : decode cX1_copyFrom 59 = .ok (.getfield 21, 3) := dg_cX1_copyFrom_25.1
theorem dX1_copyFrom_62 : decode cX1_copyFrom 62 = .ok (.iconst 0, 1) := dg_cX1_copyFrom_25.2.1
theorem dX1_copyFrom_63 : decode cX1_copyFrom 63 = .ok (.bipush 12, 2) := dg_cX1_copyFrom_25.2.2.1
theorem dX1_copyFrom_65 : decode cX1_copyFrom 65 = .ok (.invokestatic 46, 3) := dg_cX1_copyFrom_25.2.2.2.1
theorem dX1_copyFrom_68 : decode cX1_copyFrom 68 = .ok (.aload_n 1, 1) := dg_cX1_copyFrom_25.2.2.2.2.1
theorem dX1_copyFrom_69 : decode cX1_copyFrom 69 = .ok (.getfield 24, 3) := dg_cX1_copyFrom_25.2.2.2.2.2.1
theorem dX1_copyFrom_72 : decode cX1_copyFrom 72 = .ok (.iconst 0, 1) := dg_cX1_copyFrom_25.2.2.2.2.2.2.1
theorem dX1_copyFrom_73 : decode cX1_copyFrom 73 = .ok (.aload_n 0, 1) := dg_cX1_copyFrom_25.2.2.2.2.2.2.2.1
theorem dX1_copyFrom_74 : decode cX1_copyFrom 74 = .ok (.getfield 24, 3) := dg_cX1_copyFrom_25.2.2.2.2.2.2.2.2.1
theorem dX1_copyFrom_77 : decode cX1_copyFrom 77 = .ok (.iconst 0, 1) := dg_cX1_copyFrom_25.2.2.2.2.2.2.2.2.2.1
theorem dX1_copyFrom_78 : decode cX1_copyFrom 78 = .ok (.bipush 12, 2) := dg_cX1_copyFrom_25.2.2.2.2.2.2.2.2.2.2.1
theorem dX1_copyFrom_80 : decode cX1_copyFrom 80 = .ok (.invokestatic 46, 3) := dg_cX1_copyFrom_25.2.2.2.2.2.2.2.2.2.2.2.1
theorem dX1_copyFrom_83 : decode cX1_copyFrom 83 = .ok (.aload_n 1, 1) := dg_cX1_copyFrom_25.2.2.2.2.2.2.2.2.2.2.2.2.1
theorem dX1_copyFrom_84 : decode cX1_copyFrom 84 = .ok (.getfield 27, 3) := dg_cX1_copyFrom_25.2.2.2.2.2.2.2.2.2.2.2.2.2.1
theorem dX1_copyFrom_87 : decode cX1_copyFrom 87 = .ok (.iconst 0, 1) := dg_cX1_copyFrom_25.2.2.2.2.2.2.2.2.2.2.2.2.2.2.1
theorem dX1_copyFrom_88 : decode cX1_copyFrom 88 = .ok (.aload_n 0, 1) := dg_cX1_copyFrom_25.2.2.2.2.2.2.2.2.2.2.2.2.2.2.2
set_option maxRecDepth 100000 in
theorem dg_cX1_copyFrom_26 : (decode cX1_copyFrom 89 = .ok (.getfield 27, 3)) ∧ (decode cX1_copyFrom 92 = .ok (.iconst 0, 1)) ∧ (decode cX1_copyFrom 93 = .ok (.bipush 6, 2)) ∧ (decode cX1_copyFrom 95 = .ok (.invokestatic 46, 3)) ∧ (decode cX1_copyFrom 98 = .ok (.aload_n 0, 1)) ∧ (decode cX1_copyFrom 99 = .ok (.aload_n 1, 1)) ∧ (decode cX1_copyFrom 100 = .ok (.getfield 37, 3)) ∧ (decode cX1_copyFrom 103 = .ok (.putfield 37, 3)) ∧ (decode cX1_copyFrom 106 = .ok (.aload_n 1, 1)) ∧ (decode cX1_copyFrom 107 = .ok (.getfield 30, 3)) ∧ (decode cX1_copyFrom 110 = .ok (.iconst 0, 1)) ∧ (decode cX1_copyFrom 111 = .ok (.aload_n 0, 1)) ∧ (decode cX1_copyFrom 112 = .ok (.getfield 30, 3)) ∧ (decode cX1_copyFrom 115 = .ok (.iconst 0, 1)) ∧ (decode cX1_copyFrom 116 = .ok (.bipush 12, 2)) ∧ (decode cX1_copyFrom 118 = .ok (.invokestatic 46, 3)) := by decide +kernel
theorem dX1_copyFrom_89 : decode cX1_copyFrom 89 = .ok (.getfield 27, 3) := dg_cX1_copyFrom_26.1
theorem dX1_copyFrom_92 : decode cX1_copyFrom 92 = .ok (.iconst 0, 1) := dg_cX1_copyFrom_26.2.1
theorem dX1_copyFrom_93 : decode cX1_copyFrom 93 = .ok (.bipush 6, 2) := dg_cX1_copyFrom_26.2.2.1
theorem dX1_copyFrom_95 : decode cX1_copyFrom 95 = .ok (.invokestatic 46, 3) := dg_cX1_copyFrom_26.2.2.2.1
theorem dX1_copyFrom_98 : decode cX1_copyFrom 98 = .ok (.aload_n 0, 1) := dg_cX1_copyFrom_26.2.2.2.2.1
theorem dX1_copyFrom_99 : decode cX1_copyFrom 99 = .ok (.aload_n 1, 1) := dg_cX1_copyFrom_26.2.2.2.2.2.1
theorem dX1_copyFrom_100 : decode cX1_copyFrom 100 = .ok (.getfield 37, 3) := dg_cX1_copyFrom_26.2.2.2.2.2.2.1
theorem dX1_copyFrom_103 : decode cX1_copyFrom 103 = .ok (.putfield 37, 3) := dg_cX1_copyFrom_26.2.2.2.2.2.2.2.1
theorem dX1_copyFrom_106 : decode cX1_copyFrom 106 = .ok (.aload_n 1, 1) := dg_cX1_copyFrom_26.2.2.2.2.2.2.2.2.1
theorem dX1_copyFrom_107 : decode cX1_copyFrom 107 = .ok (.getfield 30, 3) := dg_cX1_copyFrom_26.2.2.2.2.2.2.2.2.2.1
theorem dX1_copyFrom_110 : decode cX1_copyFrom 110 = .ok (.iconst 0, 1) := dg_cX1_copyFrom_26.2.2.2.2.2.2.2.2.2.2.1
theorem dX1_copyFrom_111 : decode cX1_copyFrom 111 = .ok (.aload_n 0, 1) := dg_cX1_copyFrom_26.2.2.2.2.2.2.2.2.2.2.2.1
theorem dX1_copyFrom_112 : decode cX1_copyFrom 112 = .ok (.getfield 30, 3) := dg_cX1_copyFrom_26.2.2.2.2.2.2.2.2.2.2.2.2.1
theorem dX1_copyFrom_115 : decode cX1_copyFrom 115 = .ok (.iconst 0, 1) := dg_cX1_copyFrom_26.2.2.2.2.2.2.2.2.2.2.2.2.2.1
theorem dX1_copyFrom_116 : decode cX1_copyFrom 116 = .ok (.bipush 12, 2) := dg_cX1_copyFrom_26.2.2.2.2.2.2.2.2.2.2.2.2.2.2.1
theorem dX1_copyFrom_118 : decode cX1_copyFrom 118 = .ok (.invokestatic 46, 3) := dg_cX1_copyFrom_26.2.2.2.2.2.2.2.2.2.2.2.2.2.2.2
theorem dX1_copyFrom_121 : decode cX1_copyFrom 121 = .ok (.return_, 1) := by decide +kernel
set_option maxRecDepth 100000 in
theorem dg_cX1_hasBell_27 : (decode cX1_hasBell 0 = .ok (.iload_n 1, 1)) ∧ (decode cX1_hasBell 1 = .ok (.ifCond .lt 15, 3)) ∧ (decode cX1_hasBell 4 = .ok (.iload_n 1, 1)) ∧ (decode cX1_hasBell 5 = .ok (.aload_n 0, 1)) ∧ (decode cX1_hasBell 6 = .ok (.getfield 33, 3)) ∧ (decode cX1_hasBell 9 = .ok (.if_icmp .ge 7, 3)) ∧ (decode cX1_hasBell 12 = .ok (.iconst 1, 1)) ∧ (decode cX1_hasBell 13 = .ok (.goto 4, 3)) ∧ (decode cX1_hasBell 16 = .ok (.iconst 0, 1)) ∧ (decode cX1_hasBell 17 = .ok (.ireturn, 1)) := by decide +kernel
theorem dX1_hasBell_0 : decode cX1_hasBell 0 = .ok (.iload_n 1, 1) := dg_cX1_hasBell_27.1
theorem dX1_hasBell_1 : decode cX1_hasBell 1 = .ok (.ifCond .lt 15, 3) := dg_cX1_hasBell_27.2.1
theorem dX1_hasBell_4 : decode cX1_hasBell 4 = .ok (.iload_n 1, 1) := dg_cX1_hasBell_27.2.2.1
theorem dX1_hasBell_5 : decode cX1_hasBell 5 = .ok (.aload_n 0, 1) := dg_cX1_hasBell_27.2.2.2.1
theorem dX1_hasBell_6 : decode cX1_hasBell 6 = .ok (.getfield 33, 3) := dg_cX1_hasBell_27.2.2.2.2.1
theorem dX1_hasBell_9 : decode cX1_hasBell 9 = .ok (.if_icmp .ge 7, 3) := dg_cX1_hasBell_27.2.2.2.2.2.1
theorem dX1_hasBell_12 : decode cX1_hasBell 12 = .ok (.iconst 1, 1) := dg_cX1_hasBell_27.2.2.2.2.2.2.1
theorem dX1_hasBell_13 : decode cX1_hasBell 13 = .ok (.goto 4, 3) := dg_cX1_hasBell_27.2.2.2.2.2.2.2.1
theorem dX1_hasBell_16 : decode cX1_hasBell 16 = .ok (.iconst 0, 1) := dg_cX1_hasBell_27.2.2.2.2.2.2.2.2.1
theorem dX1_hasBell_17 : decode cX1_hasBell 17 = .ok (.ireturn, 1) := dg_cX1_hasBell_27.2.2.2.2.2.2.2.2.2
set_option maxRecDepth 100000 in
theorem dg_cX1_areFoes_28 : (decode cX1_areFoes 0 = .ok (.aload_n 0, 1)) ∧ (decode cX1_areFoes 1 = .ok (.getfield 27, 3)) ∧ (decode cX1_areFoes 4 = .ok (.iload_n 1, 1)) ∧ (decode cX1_areFoes 5 = .ok (.iaload, 1)) ∧ (decode cX1_areFoes 6 = .ok (.iconst 1, 1)) ∧ (decode cX1_areFoes 7 = .ok (.iload_n 2, 1)) ∧ (decode cX1_areFoes 8 = .ok (.ishl, 1)) ∧ (decode cX1_areFoes 9 = .ok (.iand, 1)) ∧ (decode cX1_areFoes 10 = .ok (.ifCond .eq 7, 3)) ∧ (decode cX1_areFoes 13 = .ok (.iconst 1, 1)) ∧ (decode cX1_areFoes 14 = .ok (.goto 4, 3)) ∧ (decode cX1_areFoes 17 = .ok (.iconst 0, 1)) ∧ (decode cX1_areFoes 18 = .ok (.ireturn, 1)) := by decide +kernel
theorem dX1_areFoes_0 : decode cX1_areFoes 0 = .ok (.aload_n 0, 1) := dg_cX1_areFoes_28.1
theorem dX1_areFoes_1 : decode cX1_areFoes 1 = .ok (.getfield 27, 3) := dg_cX1_areFoes_28.2.1
theorem dX1_areFoes_4 : decode cX1_areFoes 4 = .ok (.iload_n 1, 1) := dg_cX1_areFoes_28.2.2.1
theorem dX1_areFoes_5 : decode cX1_areFoes 5 = .ok (.iaload, 1) := dg_cX1_areFoes_28.2.2.2.1
theorem dX1_areFoes_6 : decode cX1_areFoes 6 = .ok (.iconst 1, 1) := dg_cX1_areFoes_28.2.2.2.2.1
theorem dX1_areFoes_7 : decode cX1_areFoes 7 = .ok (.iload_n 2, 1) := dg_cX1_areFoes_28.2.2.2.2.2.1
theorem dX1_areFoes_8 : decode cX1_areFoes 8 = .ok (.ishl, 1) := dg_cX1_areFoes_28.2.2.2.2.2.2.1
theorem dX1_areFoes_9 : decode cX1_areFoes 9 = .ok (.iand, 1) := dg_cX1_areFoes_28.2.2.2.2.2.2.2.1
theorem dX1_areFoes_10 : decode cX1_areFoes 10 = .ok (.ifCond .eq 7, 3) := dg_cX1_areFoes_28.2.2.2.2.2.2.2.2.1
theorem dX1_areFoes_13 : decode cX1_areFoes 13 = .ok (.iconst 1, 1) := dg_cX1_areFoes_28.2.2.2.2.2.2.2.2.2.1
theorem dX1_areFoes_14 : decode cX1_areFoes 14 = .ok (.goto 4, 3) := dg_cX1_areFoes_28.2.2.2.2.2.2.2.2.2.2.1
theorem dX1_areFoes_17 : decode cX1_areFoes 17 = .ok (.iconst 0, 1) := dg_cX1_areFoes_28.2.2.2.2.2.2.2.2.2.2.2.1
theorem dX1_areFoes_18 : decode cX1_areFoes 18 = .ok (.ireturn, 1) := dg_cX1_areFoes_28.2.2.2.2.2.2.2.2.2.2.2.2
set_option maxRecDepth 100000 in
theorem dg_cX1_setFoes_29 : (decode cX1_setFoes 0 = .ok (.aload_n 0, 1)) ∧ (decode cX1_setFoes 1 = .ok (.getfield 27, 3)) ∧ (decode cX1_setFoes 4 = .ok (.iload_n 1, 1)) ∧ (decode cX1_setFoes 5 = .ok (.iload_n 3, 1)) ∧ (decode cX1_setFoes 6 = .ok (.ifCond .eq 16, 3)) ∧ (decode cX1_setFoes 9 = .ok (.aload_n 0, 1)) ∧ (decode cX1_setFoes 10 = .ok (.getfield 27, 3)) ∧ (decode cX1_setFoes 13 = .ok (.iload_n 1, 1)) ∧ (decode cX1_setFoes 14 = .ok (.iaload, 1)) ∧ (decode cX1_setFoes 15 = .ok (.iconst 1, 1)) ∧ (decode cX1_setFoes 16 = .ok (.iload_n 2, 1)) ∧ (decode cX1_setFoes 17 = .ok (.ishl, 1)) ∧ (decode cX1_setFoes 18 = .ok (.ior, 1)) ∧ (decode cX1_setFoes 19 = .ok (.goto 15, 3)) ∧ (decode cX1_setFoes 22 = .ok (.aload_n 0, 1)) ∧ (decode cX1_setFoes 23 = .ok (.getfield 27, 3)) := by decide +kernel
theorem dX1_setFoes_0 : decode cX1_setFoes 0 = .ok (.aload_n 0, 1) := dg_cX1_setFoes_29.1
theorem dX1_setFoes_1 : decode cX1_setFoes 1 = .ok (.getfield 27, 3) := dg_cX1_setFoes_29.2.1
theorem dX1_setFoes_4 : decode cX1_setFoes 4 = .ok (.iload_n 1, 1) := dg_cX1_setFoes_29.2.2.1
theorem dX1_setFoes_5 : decode cX1_setFoes 5 = .ok (.iload_n 3, 1) := dg_cX1_setFoes_29.2.2.2.1
theorem dX1_setFoes_6 : decode cX1_setFoes 6 = .ok (.ifCond .eq 16, 3) := dg_cX1_setFoes_29.2.2.2.2.1
theorem dX1_setFoes_9 : decode cX1_setFoes 9 = .ok (.aload_n 0, 1) := dg_cX1_setFoes_29.2.2.2.2.2.1
theorem dX1_setFoes_10 : decode cX1_setFoes 10 = .ok (.getfield 27, 3) := dg_cX1_setFoes_29.2.2.2.2.2.2.1
theorem dX1_setFoes_13 : decode cX1_setFoes 13 = .ok (.iload_n 1, 1) := dg_cX1_setFoes_29.2.2.2.2.2.2.2.1
theorem dX1_setFoes_14 : decode cX1_setFoes 14 = .ok (.iaload, 1) := dg_cX1_setFoes_29.2.2.2.2.2.2.2.2.1
theorem dX1_setFoes_15 : decode cX1_setFoes 15 = .ok (.iconst 1, 1) := dg_cX1_setFoes_29.2.2.2.2.2.2.2.2.2.1
theorem dX1_setFoes_16 : decode cX1_setFoes 16 = .ok (.iload_n 2, 1) := dg_cX1_setFoes_29.2.2.2.2.2.2.2.2.2.2.1
theorem dX1_setFoes_17 : decode cX1_setFoes 17 = .ok (.ishl, 1) := dg_cX1_setFoes_29.2.2.2.2.2.2.2.2.2.2.2.1
theorem dX1_setFoes_18 : decode cX1_setFoes 18 = .ok (.ior, 1) := dg_cX1_setFoes_29.2.2.2.2.2.2.2.2.2.2.2.2.1
theorem dX1_setFoes_19 : decode cX1_setFoes 19 = .ok (.goto 15, 3) := dg_cX1_setFoes_29.2.2.2.2.2.2.2.2.2.2.2.2.2.1
theorem dX1_setFoes_22 : decode cX1_setFoes 22 = .ok (.aload_n 0, 1) := dg_cX1_setFoes_29.2.2.2.2.2.2.2.2.2.2.2.2.2.2.1
theorem dX1_setFoes_23 : decode cX1_setFoes 23 = .ok (.getfield 27, 3) := dg_cX1_setFoes_29.2.2.2.2.2.2.2.2.2.2.2.2.2.2.2
set_option maxRecDepth 100000 in
theorem dg_cX1_setFoes_30 : (decode cX1_setFoes 26 = .ok (.iload_n 1, 1)) ∧ (decode cX1_setFoes 27 = .ok (.iaload, 1)) ∧ (decode cX1_setFoes 28 = .ok (.iconst 1, 1)) ∧ (decode cX1_setFoes 29 = .ok (.iload_n 2, 1)) ∧ (decode cX1_setFoes 30 = .ok (.ishl, 1)) ∧ (decode cX1_setFoes 31 = .ok (.iconst (-1), 1)) ∧ (decode cX1_setFoes 32 = .ok (.ixor, 1)) ∧ (decode cX1_setFoes 33 = .ok (.iand, 1)) ∧ (decode cX1_setFoes 34 = .ok (.iastore, 1)) ∧ (decode cX1_setFoes 35 = .ok (.aload_n 0, 1)) ∧ (decode cX1_setFoes 36 = .ok (.getfield 27, 3)) ∧ (decode cX1_setFoes 39 = .ok (.iload_n 2, 1)) ∧ (decode cX1_setFoes 40 = .ok (.iload_n 3, 1)) ∧ (decode cX1_setFoes 41 = .ok (.ifCond .eq 16, 3)) ∧ (decode cX1_setFoes 44 = .ok (.aload_n 0, 1)) ∧ (decode cX1_setFoes 45 = .ok (.getfield 27, 3)) := by decide +kernel
theorem dX1_setFoes_26 : decode cX1_setFoes 26 = .ok (.iload_n 1, 1) := dg_cX1_setFoes_30.1
theorem dX1_setFoes_27 : decode cX1_setFoes 27 = .ok (.iaload, 1) := dg_cX1_setFoes_30.2.1
theorem dX1_setFoes_28 : decode cX1_setFoes 28 = .ok (.iconst 1, 1) := dg_cX1_setFoes_30.2.2.1
theorem dX1_setFoes_29 : decode cX1_setFoes 29 = .ok (.iload_n 2, 1) := dg_cX1_setFoes_30.2.2.2.1
theorem dX1_setFoes_30 : decode cX1_setFoes 30 = .ok (.ishl, 1) := dg_cX1_setFoes_30.2.2.2.2.1
theorem dX1_setFoes_31 : decode cX1_setFoes 31 = .ok (.iconst (-1), 1) := dg_cX1_setFoes_30.2.2.2.2.2.1
theorem dX1_setFoes_32 : decode cX1_setFoes 32 = .ok (.ixor, 1) := dg_cX1_setFoes_30.2.2.2.2.2.2.1
theorem dX1_setFoes_33 : decode cX1_setFoes 33 = .ok (.iand, 1) := dg_cX1_setFoes_30.2.2.2.2.2.2.2.1
theorem dX1_setFoes_34 : decode cX1_setFoes 34 = .ok (.iastore, 1) := dg_cX1_setFoes_30.2.2.2.2.2.2.2.2.1
theorem dX1_setFoes_35 : decode cX1_setFoes 35 = .ok (.aload_n 0, 1) := dg_cX1_setFoes_30.2.2.2.2.2.2.2.2.2.1
theorem dX1_setFoes_36 : decode cX1_setFoes 36 = .ok (.getfield 27, 3) := dg_cX1_setFoes_30.2.2.2.2.2.2.2.2.2.2.1
theorem dX1_setFoes_39 : decode cX1_setFoes 39 = .ok (.iload_n 2, 1) := dg_cX1_setFoes_30.2.2.2.2.2.2.2.2.2.2.2.1
theorem dX1_setFoes_40 : decode cX1_setFoes 40 = .ok (.iload_n 3, 1) := dg_cX1_setFoes_30.2.2.2.2.2.2.2.2.2.2.2.2.1
theorem dX1_setFoes_41 : decode cX1_setFoes 41 = .ok (.ifCond .eq 16, 3) := dg_cX1_setFoes_30.2.2.2.2.2.2.2.2.2.2.2.2.2.1
theorem dX1_setFoes_44 : decode cX1_setFoes 44 = .ok (.aload_n 0, 1) := dg_cX1_setFoes_30.2.2.2.2.2.2.2.2.2.2.2.2.2.2.1
theorem dX1_setFoes_45 : decode cX1_setFoes 45 = .ok (.getfield 27, 3) := dg_cX1_setFoes_30.2.2.2.2.2.2.2.2.2.2.2.2.2.2.2
set_option maxRecDepth 100000 in
theorem dg_cX1_setFoes_31 : (decode cX1_setFoes 48 = .ok (.iload_n 2, 1)) ∧ (decode cX1_setFoes 49 = .ok (.iaload, 1)) ∧ (decode cX1_setFoes 50 = .ok (.iconst 1, 1)) ∧ (decode cX1_setFoes 51 = .ok (.iload_n 1, 1)) ∧ (decode cX1_setFoes 52 = .ok (.ishl, 1)) ∧ (decode cX1_setFoes 53 = .ok (.ior, 1)) ∧ (decode cX1_setFoes 54 = .ok (.goto 15, 3)) ∧ (decode cX1_setFoes 57 = .ok (.aload_n 0, 1)) ∧ (decode cX1_setFoes 58 = .ok (.getfield 27, 3)) ∧ (decode cX1_setFoes 61 = .ok (.iload_n 2, 1)) ∧ (decode cX1_setFoes 62 = .ok (.iaload, 1)) ∧ (decode cX1_setFoes 63 = .ok (.iconst 1, 1)) ∧ (decode cX1_setFoes 64 = .ok (.iload_n 1, 1)) ∧ (decode cX1_setFoes 65 = .ok (.ishl, 1)) ∧ (decode cX1_setFoes 66 = .ok (.iconst (-1), 1)) ∧ (decode cX1_setFoes 67 = .ok (.ixor, 1)) := by decide +kernel
theorem dX1_setFoes_48 : decode cX1_setFoes 48 = .ok (.iload_n 2, 1) := dg_cX1_setFoes_31.1
theorem dX1_setFoes_49 : decode cX1_setFoes 49 = .ok (.iaload, 1) := dg_cX1_setFoes_31.2.1
theorem dX1_setFoes_50 : decode cX1_setFoes 50 = .ok (.iconst 1, 1) := dg_cX1_setFoes_31.2.2.1
theorem dX1_setFoes_51 : decode cX1_setFoes 51 = .ok (.iload_n 1, 1) := dg_cX1_setFoes_31.2.2.2.1
theorem dX1_setFoes_52 : decode cX1_setFoes 52 = .ok (.ishl, 1) := dg_cX1_setFoes_31.2.2.2.2.1
theorem dX1_setFoes_53 : decode cX1_setFoes 53 = .ok (.ior, 1) := dg_cX1_setFoes_31.2.2.2.2.2.1
theorem dX1_setFoes_54 : decode cX1_setFoes 54 = .ok (.goto 15, 3) := dg_cX1_setFoes_31.2.2.2.2.2.2.1
theorem dX1_setFoes_57 : decode cX1_setFoes 57 = .ok (.aload_n 0, 1) := dg_cX1_setFoes_31.2.2.2.2.2.2.2.1
theorem dX1_setFoes_58 : decode cX1_setFoes 58 = .ok (.getfield 27, 3) := dg_cX1_setFoes_31.2.2.2.2.2.2.2.2.1
theorem dX1_setFoes_61 : decode cX1_setFoes 61 = .ok (.iload_n 2, 1) := dg_cX1_setFoes_31.2.2.2.2.2.2.2.2.2.1
theorem dX1_setFoes_62 : decode cX1_setFoes 62 = .ok (.iaload, 1) := dg_cX1_setFoes_31.2.2.2.2.2.2.2.2.2.2.1
theorem dX1_setFoes_63 : decode cX1_setFoes 63 = .ok (.iconst 1, 1) := dg_cX1_setFoes_31.2.2.2.2.2.2.2.2.2.2.2.1
theorem dX1_setFoes_64 : decode cX1_setFoes 64 = .ok (.iload_n 1, 1) := dg_cX1_setFoes_31.2.2.2.2.2.2.2.2.2.2.2.2.1
theorem dX1_setFoes_65 : decode cX1_setFoes 65 = .ok (.ishl, 1) := dg_cX1_setFoes_31.2.2.2.2.2.2.2.2.2.2.2.2.2.1
theorem dX1_setFoes_66 : decode cX1_setFoes 66 = .ok (.iconst (-1), 1) := dg_cX1_setFoes_31.2.2.2.2.2.2.2.2.2.2.2.2.2.2.1
theorem dX1_setFoes_67 : decode cX1_setFoes 67 = .ok (.ixor, 1) := dg_cX1_setFoes_31.2.2.2.2.2.2.2.2.2.2.2.2.2.2.2
set_option maxRecDepth 100000 in
theorem dg_cX1_setFoes_32 : (decode cX1_setFoes 68 = .ok (.iand, 1)) ∧ (decode cX1_setFoes 69 = .ok (.iastore, 1)) ∧ (decode cX1_setFoes 70 = .ok (.return_, 1)) := by decide +kernel
theorem dX1_setFoes_68 : decode cX1_setFoes 68 = .ok (.iand, 1) := dg_cX1_setFoes_32.1
theorem dX1_setFoes_69 : decode cX1_setFoes 69 = .ok (.iastore, 1) := dg_cX1_setFoes_32.2.1
theorem dX1_setFoes_70 : decode cX1_setFoes 70 = .ok (.return_, 1) := dg_cX1_setFoes_32.2.2
set_option maxRecDepth 100000 in
theorem dg_cX1_feudPairs_33 : (decode cX1_feudPairs 0 = .ok (.iconst 0, 1)) ∧ (decode cX1_feudPairs 1 = .ok (.istore_n 1, 1)) ∧ (decode cX1_feudPairs 2 = .ok (.iconst 0, 1)) ∧ (decode cX1_feudPairs 3 = .ok (.istore_n 2, 1)) ∧ (decode cX1_feudPairs 4 = .ok (.iload_n 2, 1)) ∧ (decode cX1_feudPairs 5 = .ok (.bipush 6, 2)) ∧ (decode cX1_feudPairs 7 = .ok (.if_icmp .ge 21, 3)) ∧ (decode cX1_feudPairs 10 = .ok (.iload_n 1, 1)) ∧ (decode cX1_feudPairs 11 = .ok (.aload_n 0, 1)) ∧ (decode cX1_feudPairs 12 = .ok (.getfield 27, 3)) ∧ (decode cX1_feudPairs 15 = .ok (.iload_n 2, 1)) ∧ (decode cX1_feudPairs 16 = .ok (.iaload, 1)) ∧ (decode cX1_feudPairs 17 = .ok (.invokestatic 52, 3)) ∧ (decode cX1_feudPairs 20 = .ok (.iadd, 1)) ∧ (decode cX1_feudPairs 21 = .ok (.istore_n 1, 1)) ∧ (decode cX1_feudPairs 22 = .ok (.iinc 2 1, 3)) := by decide +kernel
theorem dX1_feudPairs_0 : decode cX1_feudPairs 0 = .ok (.iconst 0, 1) := dg_cX1_feudPairs_33.1
theorem dX1_feudPairs_1 : decode cX1_feudPairs 1 = .ok (.istore_n 1, 1) := dg_cX1_feudPairs_33.2.1
theorem dX1_feudPairs_2 : decode cX1_feudPairs 2 = .ok (.iconst 0, 1) := dg_cX1_feudPairs_33.2.2.1
theorem dX1_feudPairs_3 : decode cX1_feudPairs 3 = .ok (.istore_n 2, 1) := dg_cX1_feudPairs_33.2.2.2.1
theorem dX1_feudPairs_4 : decode cX1_feudPairs 4 = .ok (.iload_n 2, 1) := dg_cX1_feudPairs_33.2.2.2.2.1
theorem dX1_feudPairs_5 : decode cX1_feudPairs 5 = .ok (.bipush 6, 2) := dg_cX1_feudPairs_33.2.2.2.2.2.1
theorem dX1_feudPairs_7 : decode cX1_feudPairs 7 = .ok (.if_icmp .ge 21, 3) := dg_cX1_feudPairs_33.2.2.2.2.2.2.1
theorem dX1_feudPairs_10 : decode cX1_feudPairs 10 = .ok (.iload_n 1, 1) := dg_cX1_feudPairs_33.2.2.2.2.2.2.2.1
theorem dX1_feudPairs_11 : decode cX1_feudPairs 11 = .ok (.aload_n 0, 1) := dg_cX1_feudPairs_33.2.2.2.2.2.2.2.2.1
theorem dX1_feudPairs_12 : decode cX1_feudPairs 12 = .ok (.getfield 27, 3) := dg_cX1_feudPairs_33.2.2.2.2.2.2.2.2.2.1
theorem dX1_feudPairs_15 : decode cX1_feudPairs 15 = .ok (.iload_n 2, 1) := dg_cX1_feudPairs_33.2.2.2.2.2.2.2.2.2.2.1
theorem dX1_feudPairs_16 : decode cX1_feudPairs 16 = .ok (.iaload, 1) := dg_cX1_feudPairs_33.2.2.2.2.2.2.2.2.2.2.2.1
theorem dX1_feudPairs_17 : decode cX1_feudPairs 17 = .ok (.invokestatic 52, 3) := dg_cX1_feudPairs_33.2.2.2.2.2.2.2.2.2.2.2.2.1
theorem dX1_feudPairs_20 : decode cX1_feudPairs 20 = .ok (.iadd, 1) := dg_cX1_feudPairs_33.2.2.2.2.2.2.2.2.2.2.2.2.2.1
theorem dX1_feudPairs_21 : decode cX1_feudPairs 21 = .ok (.istore_n 1, 1) := dg_cX1_feudPairs_33.2.2.2.2.2.2.2.2.2.2.2.2.2.2.1
theorem dX1_feudPairs_22 : decode cX1_feudPairs 22 = .ok (.iinc 2 1, 3) := dg_cX1_feudPairs_33.2.2.2.2.2.2.2.2.2.2.2.2.2.2.2
set_option maxRecDepth 100000 in
theorem dg_cX1_feudPairs_34 : (decode cX1_feudPairs 25 = .ok (.goto (-21), 3)) ∧ (decode cX1_feudPairs 28 = .ok (.iload_n 1, 1)) ∧ (decode cX1_feudPairs 29 = .ok (.iconst 2, 1)) ∧ (decode cX1_feudPairs 30 = .ok (.idiv, 1)) ∧ (decode cX1_feudPairs 31 = .ok (.ireturn, 1)) := by decide +kernel
theorem dX1_feudPairs_25 : decode cX1_feudPairs 25 = .ok (.goto (-21), 3) := dg_cX1_feudPairs_34.1
theorem dX1_feudPairs_28 : decode cX1_feudPairs 28 = .ok (.iload_n 1, 1) := dg_cX1_feudPairs_34.2.1
theorem dX1_feudPairs_29 : decode cX1_feudPairs 29 = .ok (.iconst 2, 1) := dg_cX1_feudPairs_34.2.2.1
theorem dX1_feudPairs_30 : decode cX1_feudPairs 30 = .ok (.idiv, 1) := dg_cX1_feudPairs_34.2.2.2.1
theorem dX1_feudPairs_31 : decode cX1_feudPairs 31 = .ok (.ireturn, 1) := dg_cX1_feudPairs_34.2.2.2.2
set_option maxRecDepth 100000 in
theorem dg_cX1_partsOf_35 : (decode cX1_partsOf 0 = .ok (.aload_n 0, 1)) ∧ (decode cX1_partsOf 1 = .ok (.getfield 9, 3)) ∧ (decode cX1_partsOf 4 = .ok (.iload_n 2, 1)) ∧ (decode cX1_partsOf 5 = .ok (.iaload, 1)) ∧ (decode cX1_partsOf 6 = .ok (.iload_n 1, 1)) ∧ (decode cX1_partsOf 7 = .ok (.if_icmp .ne 20, 3)) ∧ (decode cX1_partsOf 10 = .ok (.aload_n 0, 1)) ∧ (decode cX1_partsOf 11 = .ok (.getfield 24, 3)) ∧ (decode cX1_partsOf 14 = .ok (.iload_n 2, 1)) ∧ (decode cX1_partsOf 15 = .ok (.iaload, 1)) ∧ (decode cX1_partsOf 16 = .ok (.bipush (-4), 2)) ∧ (decode cX1_partsOf 18 = .ok (.if_icmp .ne 7, 3)) ∧ (decode cX1_partsOf 21 = .ok (.iconst 2, 1)) ∧ (decode cX1_partsOf 22 = .ok (.goto 4, 3)) ∧ (decode cX1_partsOf 25 = .ok (.iconst 1, 1)) ∧ (decode cX1_partsOf 26 = .ok (.ireturn, 1)) := by decide +kernel
theorem dX1_partsOf_0 : decode cX1_partsOf 0 = .ok (.aload_n 0, 1) := dg_cX1_partsOf_35.1
theorem dX1_partsOf_1 : decode cX1_partsOf 1 = .ok (.getfield 9, 3) := dg_cX1_partsOf_35.2.1
theorem dX1_partsOf_4 : decode cX1_partsOf 4 = .ok (.iload_n 2, 1) := dg_cX1_partsOf_35.2.2.1
theorem dX1_partsOf_5 : decode cX1_partsOf 5 = .ok (.iaload, 1) := dg_cX1_partsOf_35.2.2.2.1
theorem dX1_partsOf_6 : decode cX1_partsOf 6 = .ok (.iload_n 1, 1) := dg_cX1_partsOf_35.2.2.2.2.1
theorem dX1_partsOf_7 : decode cX1_partsOf 7 = .ok (.if_icmp .ne 20, 3) := dg_cX1_partsOf_35.2.2.2.2.2.1
theorem dX1_partsOf_10 : decode cX1_partsOf 10 = .ok (.aload_n 0, 1) := dg_cX1_partsOf_35.2.2.2.2.2.2.1
theorem dX1_partsOf_11 : decode cX1_partsOf 11 = .ok (.getfield 24, 3) := dg_cX1_partsOf_35.2.2.2.2.2.2.2.1
theorem dX1_partsOf_14 : decode cX1_partsOf 14 = .ok (.iload_n 2, 1) := dg_cX1_partsOf_35.2.2.2.2.2.2.2.2.1
theorem dX1_partsOf_15 : decode cX1_partsOf 15 = .ok (.iaload, 1) := dg_cX1_partsOf_35.2.2.2.2.2.2.2.2.2.1
theorem dX1_partsOf_16 : decode cX1_partsOf 16 = .ok (.bipush (-4), 2) := dg_cX1_partsOf_35.2.2.2.2.2.2.2.2.2.2.1
theorem dX1_partsOf_18 : decode cX1_partsOf 18 = .ok (.if_icmp .ne 7, 3) := dg_cX1_partsOf_35.2.2.2.2.2.2.2.2.2.2.2.1
theorem dX1_partsOf_21 : decode cX1_partsOf 21 = .ok (.iconst 2, 1) := dg_cX1_partsOf_35.2.2.2.2.2.2.2.2.2.2.2.2.1
theorem dX1_partsOf_22 : decode cX1_partsOf 22 = .ok (.goto 4, 3) := dg_cX1_partsOf_35.2.2.2.2.2.2.2.2.2.2.2.2.2.1
theorem dX1_partsOf_25 : decode cX1_partsOf 25 = .ok (.iconst 1, 1) := dg_cX1_partsOf_35.2.2.2.2.2.2.2.2.2.2.2.2.2.2.1
theorem dX1_partsOf_26 : decode cX1_partsOf 26 = .ok (.ireturn, 1) := dg_cX1_partsOf_35.2.2.2.2.2.2.2.2.2.2.2.2.2.2.2
set_option maxRecDepth 100000 in
theorem dg_cX1_partsOf_36 : (decode cX1_partsOf 27 = .ok (.aload_n 0, 1)) ∧ (decode cX1_partsOf 28 = .ok (.getfield 24, 3)) ∧ (decode cX1_partsOf 31 = .ok (.iload_n 2, 1)) ∧ (decode cX1_partsOf 32 = .ok (.iaload, 1)) ∧ (decode cX1_partsOf 33 = .ok (.iload_n 1, 1)) ∧ (decode cX1_partsOf 34 = .ok (.if_icmp .ne 7, 3)) ∧ (decode cX1_partsOf 37 = .ok (.iconst 1, 1)) ∧ (decode cX1_partsOf 38 = .ok (.goto 4, 3)) ∧ (decode cX1_partsOf 41 = .ok (.iconst 0, 1)) ∧ (decode cX1_partsOf 42 = .ok (.ireturn, 1)) := by decide +kernel
theorem dX1_partsOf_27 : decode cX1_partsOf 27 = .ok (.aload_n 0, 1) := dg_cX1_partsOf_36.1
theorem dX1_partsOf_28 : decode cX1_partsOf 28 = .ok (.getfield 24, 3) := dg_cX1_partsOf_36.2.1
theorem dX1_partsOf_31 : decode cX1_partsOf 31 = .ok (.iload_n 2, 1) := dg_cX1_partsOf_36.2.2.1
theorem dX1_partsOf_32 : decode cX1_partsOf 32 = .ok (.iaload, 1) := dg_cX1_partsOf_36.2.2.2.1
theorem dX1_partsOf_33 : decode cX1_partsOf 33 = .ok (.iload_n 1, 1) := dg_cX1_partsOf_36.2.2.2.2.1
theorem dX1_partsOf_34 : decode cX1_partsOf 34 = .ok (.if_icmp .ne 7, 3) := dg_cX1_partsOf_36.2.2.2.2.2.1
theorem dX1_partsOf_37 : decode cX1_partsOf 37 = .ok (.iconst 1, 1) := dg_cX1_partsOf_36.2.2.2.2.2.2.1
theorem dX1_partsOf_38 : decode cX1_partsOf 38 = .ok (.goto 4, 3) := dg_cX1_partsOf_36.2.2.2.2.2.2.2.1
theorem dX1_partsOf_41 : decode cX1_partsOf 41 = .ok (.iconst 0, 1) := dg_cX1_partsOf_36.2.2.2.2.2.2.2.2.1
theorem dX1_partsOf_42 : decode cX1_partsOf 42 = .ok (.ireturn, 1) := dg_cX1_partsOf_36.2.2.2.2.2.2.2.2.2
set_option maxRecDepth 100000 in
theorem dg_cX1_shareOf_37 : (decode cX1_shareOf 0 = .ok (.aload_n 0, 1)) ∧ (decode cX1_shareOf 1 = .ok (.iload_n 1, 1)) ∧ (decode cX1_shareOf 2 = .ok (.iload_n 2, 1)) ∧ (decode cX1_shareOf 3 = .ok (.invokevirtual 58, 3)) ∧ (decode cX1_shareOf 6 = .ok (.aload_n 0, 1)) ∧ (decode cX1_shareOf 7 = .ok (.getfield 15, 3)) ∧ (decode cX1_shareOf 10 = .ok (.iload_n 2, 1)) ∧ (decode cX1_shareOf 11 = .ok (.iaload, 1)) ∧ (decode cX1_shareOf 12 = .ok (.imul, 1)) ∧ (decode cX1_shareOf 13 = .ok (.ireturn, 1)) := by decide +kernel
theorem dX1_shareOf_0 : decode cX1_shareOf 0 = .ok (.aload_n 0, 1) := dg_cX1_shareOf_37.1
theorem dX1_shareOf_1 : decode cX1_shareOf 1 = .ok (.iload_n 1, 1) := dg_cX1_shareOf_37.2.1
theorem dX1_shareOf_2 : decode cX1_shareOf 2 = .ok (.iload_n 2, 1) := dg_cX1_shareOf_37.2.2.1
theorem dX1_shareOf_3 : decode cX1_shareOf 3 = .ok (.invokevirtual 58, 3) := dg_cX1_shareOf_37.2.2.2.1
theorem dX1_shareOf_6 : decode cX1_shareOf 6 = .ok (.aload_n 0, 1) := dg_cX1_shareOf_37.2.2.2.2.1
theorem dX1_shareOf_7 : decode cX1_shareOf 7 = .ok (.getfield 15, 3) := dg_cX1_shareOf_37.2.2.2.2.2.1
theorem dX1_shareOf_10 : decode cX1_shareOf 10 = .ok (.iload_n 2, 1) := dg_cX1_shareOf_37.2.2.2.2.2.2.1
theorem dX1_shareOf_11 : decode cX1_shareOf 11 = .ok (.iaload, 1) := dg_cX1_shareOf_37.2.2.2.2.2.2.2.1
theorem dX1_shareOf_12 : decode cX1_shareOf 12 = .ok (.imul, 1) := dg_cX1_shareOf_37.2.2.2.2.2.2.2.2.1
theorem dX1_shareOf_13 : decode cX1_shareOf 13 = .ok (.ireturn, 1) := dg_cX1_shareOf_37.2.2.2.2.2.2.2.2.2
set_option maxRecDepth 100000 in
theorem dg_cX1_canBeHeard_38 : (decode cX1_canBeHeard 0 = .ok (.iload_n 1, 1)) ∧ (decode cX1_canBeHeard 1 = .ok (.bipush (-4), 2)) ∧ (decode cX1_canBeHeard 3 = .ok (.if_icmp .eq 11, 3)) ∧ (decode cX1_canBeHeard 6 = .ok (.aload_n 0, 1)) ∧ (decode cX1_canBeHeard 7 = .ok (.iload_n 1, 1)) ∧ (decode cX1_canBeHeard 8 = .ok (.invokevirtual 62, 3)) ∧ (decode cX1_canBeHeard 11 = .ok (.ifCond .eq 7, 3)) ∧ (decode cX1_canBeHeard 14 = .ok (.iconst 1, 1)) ∧ (decode cX1_canBeHeard 15 = .ok (.goto 4, 3)) ∧ (decode cX1_canBeHeard 18 = .ok (.iconst 0, 1)) ∧ (decode cX1_canBeHeard 19 = .ok (.ireturn, 1)) := by decide +kernel
theorem dX1_canBeHeard_0 : decode cX1_canBeHeard 0 = .ok (.iload_n 1, 1) := dg_cX1_canBeHeard_38.1
theorem dX1_canBeHeard_1 : decode cX1_canBeHeard 1 = .ok (.bipush (-4), 2) := dg_cX1_canBeHeard_38.2.1
theorem dX1_canBeHeard_3 : decode cX1_canBeHeard 3 = .ok (.if_icmp .eq 11, 3) := dg_cX1_canBeHeard_38.2.2.1
theorem dX1_canBeHeard_6 : decode cX1_canBeHeard 6 = .ok (.aload_n 0, 1) := dg_cX1_canBeHeard_38.2.2.2.1
theorem dX1_canBeHeard_7 : decode cX1_canBeHeard 7 = .ok (.iload_n 1, 1) := dg_cX1_canBeHeard_38.2.2.2.2.1
theorem dX1_canBeHeard_8 : decode cX1_canBeHeard 8 = .ok (.invokevirtual 62, 3) := dg_cX1_canBeHeard_38.2.2.2.2.2.1
theorem dX1_canBeHeard_11 : decode cX1_canBeHeard 11 = .ok (.ifCond .eq 7, 3) := dg_cX1_canBeHeard_38.2.2.2.2.2.2.1
theorem dX1_canBeHeard_14 : decode cX1_canBeHeard 14 = .ok (.iconst 1, 1) := dg_cX1_canBeHeard_38.2.2.2.2.2.2.2.1
theorem dX1_canBeHeard_15 : decode cX1_canBeHeard 15 = .ok (.goto 4, 3) := dg_cX1_canBeHeard_38.2.2.2.2.2.2.2.2.1
theorem dX1_canBeHeard_18 : decode cX1_canBeHeard 18 = .ok (.iconst 0, 1) := dg_cX1_canBeHeard_38.2.2.2.2.2.2.2.2.2.1
theorem dX1_canBeHeard_19 : decode cX1_canBeHeard 19 = .ok (.ireturn, 1) := dg_cX1_canBeHeard_38.2.2.2.2.2.2.2.2.2.2
set_option maxRecDepth 100000 in
theorem dg_cX1_addHeard_39 : (decode cX1_addHeard 0 = .ok (.aload_n 0, 1)) ∧ (decode cX1_addHeard 1 = .ok (.getfield 37, 3)) ∧ (decode cX1_addHeard 4 = .ok (.bipush 12, 2)) ∧ (decode cX1_addHeard 6 = .ok (.if_icmp .ge 23, 3)) ∧ (decode cX1_addHeard 9 = .ok (.aload_n 0, 1)) ∧ (decode cX1_addHeard 10 = .ok (.getfield 30, 3)) ∧ (decode cX1_addHeard 13 = .ok (.aload_n 0, 1)) ∧ (decode cX1_addHeard 14 = .ok (.getfield 37, 3)) ∧ (decode cX1_addHeard 17 = .ok (.iload_n 1, 1)) ∧ (decode cX1_addHeard 18 = .ok (.iastore, 1)) ∧ (decode cX1_addHeard 19 = .ok (.aload_n 0, 1)) ∧ (decode cX1_addHeard 20 = .ok (.dup, 1)) ∧ (decode cX1_addHeard 21 = .ok (.getfield 37, 3)) ∧ (decode cX1_addHeard 24 = .ok (.iconst 1, 1)) ∧ (decode cX1_addHeard 25 = .ok (.iadd, 1)) ∧ (decode cX1_addHeard 26 = .ok (.putfield 37, 3)) := by decide +kernel
theorem dX1_addHeard_0 : decode cX1_addHeard 0 = .ok (.aload_n 0, 1) := dg_cX1_addHeard_39.1
theorem dX1_addHeard_1 : decode cX1_addHeard 1 = .ok (.getfield 37, 3) := dg_cX1_addHeard_39.2.1
theorem dX1_addHeard_4 : decode cX1_addHeard 4 = .ok (.bipush 12, 2) := dg_cX1_addHeard_39.2.2.1
theorem dX1_addHeard_6 : decode cX1_addHeard 6 = .ok (.if_icmp .ge 23, 3) := dg_cX1_addHeard_39.2.2.2.1
theorem dX1_addHeard_9 : decode cX1_addHeard 9 = .ok (.aload_n 0, 1) := dg_cX1_addHeard_39.2.2.2.2.1
theorem dX1_addHeard_10 : decode cX1_addHeard 10 = .ok (.getfield 30, 3) := dg_cX1_addHeard_39.2.2.2.2.2.1
theorem dX1_addHeard_13 : decode cX1_addHeard 13 = .ok (.aload_n 0, 1) := dg_cX1_addHeard_39.2.2.2.2.2.2.1
theorem dX1_addHeard_14 : decode cX1_addHeard 14 = .ok (.getfield 37, 3) := dg_cX1_addHeard_39.2.2.2.2.2.2.2.1
theorem dX1_addHeard_17 : decode cX1_addHeard 17 = .ok (.iload_n 1, 1) := dg_cX1_addHeard_39.2.2.2.2.2.2.2.2.1
theorem dX1_addHeard_18 : decode cX1_addHeard 18 = .ok (.iastore, 1) := dg_cX1_addHeard_39.2.2.2.2.2.2.2.2.2.1
theorem dX1_addHeard_19 : decode cX1_addHeard 19 = .ok (.aload_n 0, 1) := dg_cX1_addHeard_39.2.2.2.2.2.2.2.2.2.2.1
theorem dX1_addHeard_20 : decode cX1_addHeard 20 = .ok (.dup, 1) := dg_cX1_addHeard_39.2.2.2.2.2.2.2.2.2.2.2.1
theorem dX1_addHeard_21 : decode cX1_addHeard 21 = .ok (.getfield 37, 3) := dg_cX1_addHeard_39.2.2.2.2.2.2.2.2.2.2.2.2.1
theorem dX1_addHeard_24 : decode cX1_addHeard 24 = .ok (.iconst 1, 1) := dg_cX1_addHeard_39.2.2.2.2.2.2.2.2.2.2.2.2.2.1
theorem dX1_addHeard_25 : decode cX1_addHeard 25 = .ok (.iadd, 1) := dg_cX1_addHeard_39.2.2.2.2.2.2.2.2.2.2.2.2.2.2.1
theorem dX1_addHeard_26 : decode cX1_addHeard 26 = .ok (.putfield 37, 3) := dg_cX1_addHeard_39.2.2.2.2.2.2.2.2.2.2.2.2.2.2.2
theorem dX1_addHeard_29 : decode cX1_addHeard 29 = .ok (.return_, 1) := by decide +kernel
set_option maxRecDepth 100000 in
theorem dg_cX2_init_40 : (decode cX2_init 0 = .ok (.aload_n 0, 1)) ∧ (decode cX2_init 1 = .ok (.invokespecial 3, 3)) ∧ (decode cX2_init 4 = .ok (.aload_n 0, 1)) ∧ (decode cX2_init 5 = .ok (.bipush 6, 2)) ∧ (decode cX2_init 7 = .ok (.newarray .int, 2)) ∧ (decode cX2_init 9 = .ok (.putfield 9, 3)) ∧ (decode cX2_init 12 = .ok (.aload_n 0, 1)) ∧ (decode cX2_init 13 = .ok (.bipush 6, 2)) ∧ (decode cX2_init 15 = .ok (.bipush 6, 2)) ∧ (decode cX2_init 17 = .ok (.multianewarray 15 2, 4)) ∧ (decode cX2_init 21 = .ok (.putfield 17, 3)) ∧ (decode cX2_init 24 = .ok (.aload_n 0, 1)) ∧ (decode cX2_init 25 = .ok (.aload_n 1, 1)) ∧ (decode cX2_init 26 = .ok (.putfield 20, 3)) ∧ (decode cX2_init 29 = .ok (.aload_n 0, 1)) ∧ (decode cX2_init 30 = .ok (.aload_n 2, 1)) := by decide +kernel
theorem dX2_init_0 : decode cX2_init 0 = .ok (.aload_n 0, 1) := dg_cX2_init_40.1
theorem dX2_init_1 : decode cX2_init 1 = .ok (.invokespecial 3, 3) := dg_cX2_init_40.2.1
theorem dX2_init_4 : decode cX2_init 4 = .ok (.aload_n 0, 1) := dg_cX2_init_40.2.2.1
theorem dX2_init_5 : decode cX2_init 5 = .ok (.bipush 6, 2) := dg_cX2_init_40.2.2.2.1
theorem dX2_init_7 : decode cX2_init 7 = .ok (.newarray .int, 2) := dg_cX2_init_40.2.2.2.2.1
theorem dX2_init_9 : decode cX2_init 9 = .ok (.putfield 9, 3) := dg_cX2_init_40.2.2.2.2.2.1
theorem dX2_init_12 : decode cX2_init 12 = .ok (.aload_n 0, 1) := dg_cX2_init_40.2.2.2.2.2.2.1
theorem dX2_init_13 : decode cX2_init 13 = .ok (.bipush 6, 2) := dg_cX2_init_40.2.2.2.2.2.2.2.1
theorem dX2_init_15 : decode cX2_init 15 = .ok (.bipush 6, 2) := dg_cX2_init_40.2.2.2.2.2.2.2.2.1
theorem dX2_init_17 : decode cX2_init 17 = .ok (.multianewarray 15 2, 4) := dg_cX2_init_40.2.2.2.2.2.2.2.2.2.1
theorem dX2_init_21 : decode cX2_init 21 = .ok (.putfield 17, 3) := dg_cX2_init_40.2.2.2.2.2.2.2.2.2.2.1
theorem dX2_init_24 : decode cX2_init 24 = .ok (.aload_n 0, 1) := dg_cX2_init_40.2.2.2.2.2.2.2.2.2.2.2.1
theorem dX2_init_25 : decode cX2_init 25 = .ok (.aload_n 1, 1) := dg_cX2_init_40.2.2.2.2.2.2.2.2.2.2.2.2.1
theorem dX2_init_26 : decode cX2_init 26 = .ok (.putfield 20, 3) := dg_cX2_init_40.2.2.2.2.2.2.2.2.2.2.2.2.2.1
theorem dX2_init_29 : decode cX2_init 29 = .ok (.aload_n 0, 1) := dg_cX2_init_40.2.2.2.2.2.2.2.2.2.2.2.2.2.2.1
theorem dX2_init_30 : decode cX2_init 30 = .ok (.aload_n 2, 1) := dg_cX2_init_40.2.2.2.2.2.2.2.2.2.2.2.2.2.2.2
set_option maxRecDepth 100000 in
theorem dg_cX2_init_41 : (decode cX2_init 31 = .ok (.putfield 24, 3)) ∧ (decode cX2_init 34 = .ok (.return_, 1)) := by decide +kernel
theorem dX2_init_31 : decode cX2_init 31 = .ok (.putfield 24, 3) := dg_cX2_init_41.1
theorem dX2_init_34 : decode cX2_init 34 = .ok (.return_, 1) := dg_cX2_init_41.2
set_option maxRecDepth 100000 in
theorem dg_cX2_ringAll_42 : (decode cX2_ringAll 0 = .ok (.iconst 0, 1)) ∧ (decode cX2_ringAll 1 = .ok (.istore_n 1, 1)) ∧ (decode cX2_ringAll 2 = .ok (.iload_n 1, 1)) ∧ (decode cX2_ringAll 3 = .ok (.aload_n 0, 1)) ∧ (decode cX2_ringAll 4 = .ok (.getfield 20, 3)) ∧ (decode cX2_ringAll 7 = .ok (.getfield 28, 3)) ∧ (decode cX2_ringAll 10 = .ok (.if_icmp .ge 105, 3)) ∧ (decode cX2_ringAll 13 = .ok (.aload_n 0, 1)) ∧ (decode cX2_ringAll 14 = .ok (.getfield 24, 3)) ∧ (decode cX2_ringAll 17 = .ok (.iload_n 1, 1)) ∧ (decode cX2_ringAll 18 = .ok (.invokevirtual 34, 3)) ∧ (decode cX2_ringAll 21 = .ok (.aload_n 0, 1)) ∧ (decode cX2_ringAll 22 = .ok (.getfield 9, 3)) ∧ (decode cX2_ringAll 25 = .ok (.iload_n 1, 1)) ∧ (decode cX2_ringAll 26 = .ok (.aload_n 0, 1)) ∧ (decode cX2_ringAll 27 = .ok (.getfield 24, 3)) := by decide +kernel
theorem dX2_ringAll_0 : decode cX2_ringAll 0 = .ok (.iconst 0, 1) := dg_cX2_ringAll_42.1
theorem dX2_ringAll_1 : decode cX2_ringAll 1 = .ok (.istore_n 1, 1) := dg_cX2_ringAll_42.2.1
theorem dX2_ringAll_2 : decode cX2_ringAll 2 = .ok (.iload_n 1, 1) := dg_cX2_ringAll_42.2.2.1
theorem dX2_ringAll_3 : decode cX2_ringAll 3 = .ok (.aload_n 0, 1) := dg_cX2_ringAll_42.2.2.2.1
theorem dX2_ringAll_4 : decode cX2_ringAll 4 = .ok (.getfield 20, 3) := dg_cX2_ringAll_42.2.2.2.2.1
theorem dX2_ringAll_7 : decode cX2_ringAll 7 = .ok (.getfield 28, 3) := dg_cX2_ringAll_42.2.2.2.2.2.1
theorem dX2_ringAll_10 : decode cX2_ringAll 10 = .ok (.if_icmp .ge 105, 3) := dg_cX2_ringAll_42.2.2.2.2.2.2.1
theorem dX2_ringAll_13 : decode cX2_ringAll 13 = .ok (.aload_n 0, 1) := dg_cX2_ringAll_42.2.2.2.2.2.2.2.1
theorem dX2_ringAll_14 : decode cX2_ringAll 14 = .ok (.getfield 24, 3) := dg_cX2_ringAll_42.2.2.2.2.2.2.2.2.1
theorem dX2_ringAll_17 : decode cX2_ringAll 17 = .ok (.iload_n 1, 1) := dg_cX2_ringAll_42.2.2.2.2.2.2.2.2.2.1
theorem dX2_ringAll_18 : decode cX2_ringAll 18 = .ok (.invokevirtual 34, 3) := dg_cX2_ringAll_42.2.2.2.2.2.2.2.2.2.2.1
theorem dX2_ringAll_21 : decode cX2_ringAll 21 = .ok (.aload_n 0, 1) := dg_cX2_ringAll_42.2.2.2.2.2.2.2.2.2.2.2.1
theorem dX2_ringAll_22 : decode cX2_ringAll 22 = .ok (.getfield 9, 3) := dg_cX2_ringAll_42.2.2.2.2.2.2.2.2.2.2.2.2.1
theorem dX2_ringAll_25 : decode cX2_ringAll 25 = .ok (.iload_n 1, 1) := dg_cX2_ringAll_42.2.2.2.2.2.2.2.2.2.2.2.2.2.1
theorem dX2_ringAll_26 : decode cX2_ringAll 26 = .ok (.aload_n 0, 1) := dg_cX2_ringAll_42.2.2.2.2.2.2.2.2.2.2.2.2.2.2.1
theorem dX2_ringAll_27 : decode cX2_ringAll 27 = .ok (.getfield 24, 3) := dg_cX2_ringAll_42.2.2.2.2.2.2.2.2.2.2.2.2.2.2.2
set_option maxRecDepth 100000 in
theorem dg_cX2_ringAll_43 : (decode cX2_ringAll 30 = .ok (.getfield 40, 3)) ∧ (decode cX2_ringAll 33 = .ok (.iastore, 1)) ∧ (decode cX2_ringAll 34 = .ok (.aload_n 0, 1)) ∧ (decode cX2_ringAll 35 = .ok (.getfield 17, 3)) ∧ (decode cX2_ringAll 38 = .ok (.iload_n 1, 1)) ∧ (decode cX2_ringAll 39 = .ok (.aaload, 1)) ∧ (decode cX2_ringAll 40 = .ok (.iconst 0, 1)) ∧ (decode cX2_ringAll 41 = .ok (.invokestatic 43, 3)) ∧ (decode cX2_ringAll 44 = .ok (.iconst 0, 1)) ∧ (decode cX2_ringAll 45 = .ok (.istore_n 2, 1)) ∧ (decode cX2_ringAll 46 = .ok (.iload_n 2, 1)) ∧ (decode cX2_ringAll 47 = .ok (.aload_n 0, 1)) ∧ (decode cX2_ringAll 48 = .ok (.getfield 20, 3)) ∧ (decode cX2_ringAll 51 = .ok (.getfield 49, 3)) ∧ (decode cX2_ringAll 54 = .ok (.iload_n 1, 1)) ∧ (decode cX2_ringAll 55 = .ok (.iaload, 1)) := by decide +kernel
theorem dX2_ringAll_30 : decode cX2_ringAll 30 = .ok (.getfield 40, 3) := dg_cX2_ringAll_43.1
theorem dX2_ringAll_33 : decode cX2_ringAll 33 = .ok (.iastore, 1) := dg_cX2_ringAll_43.2.1
theorem dX2_ringAll_34 : decode cX2_ringAll 34 = .ok (.aload_n 0, 1) := dg_cX2_ringAll_43.2.2.1
theorem dX2_ringAll_35 : decode cX2_ringAll 35 = .ok (.getfield 17, 3) := dg_cX2_ringAll_43.2.2.2.1
theorem dX2_ringAll_38 : decode cX2_ringAll 38 = .ok (.iload_n 1, 1) := dg_cX2_ringAll_43.2.2.2.2.1
theorem dX2_ringAll_39 : decode cX2_ringAll 39 = .ok (.aaload, 1) := dg_cX2_ringAll_43.2.2.2.2.2.1
theorem dX2_ringAll_40 : decode cX2_ringAll 40 = .ok (.iconst 0, 1) := dg_cX2_ringAll_43.2.2.2.2.2.2.1
theorem dX2_ringAll_41 : decode cX2_ringAll 41 = .ok (.invokestatic 43, 3) := dg_cX2_ringAll_43.2.2.2.2.2.2.2.1
theorem dX2_ringAll_44 : decode cX2_ringAll 44 = .ok (.iconst 0, 1) := dg_cX2_ringAll_43.2.2.2.2.2.2.2.2.1
theorem dX2_ringAll_45 : decode cX2_ringAll 45 = .ok (.istore_n 2, 1) := dg_cX2_ringAll_43.2.2.2.2.2.2.2.2.2.1
theorem dX2_ringAll_46 : decode cX2_ringAll 46 = .ok (.iload_n 2, 1) := dg_cX2_ringAll_43.2.2.2.2.2.2.2.2.2.2.1
theorem dX2_ringAll_47 : decode cX2_ringAll 47 = .ok (.aload_n 0, 1) := dg_cX2_ringAll_43.2.2.2.2.2.2.2.2.2.2.2.1
theorem dX2_ringAll_48 : decode cX2_ringAll 48 = .ok (.getfield 20, 3) := dg_cX2_ringAll_43.2.2.2.2.2.2.2.2.2.2.2.2.1
theorem dX2_ringAll_51 : decode cX2_ringAll 51 = .ok (.getfield 49, 3) := dg_cX2_ringAll_43.2.2.2.2.2.2.2.2.2.2.2.2.2.1
theorem dX2_ringAll_54 : decode cX2_ringAll 54 = .ok (.iload_n 1, 1) := dg_cX2_ringAll_43.2.2.2.2.2.2.2.2.2.2.2.2.2.2.1
theorem dX2_ringAll_55 : decode cX2_ringAll 55 = .ok (.iaload, 1) := dg_cX2_ringAll_43.2.2.2.2.2.2.2.2.2.2.2.2.2.2.2
set_option maxRecDepth 100000 in
theorem dg_cX2_ringAll_44 : (decode cX2_ringAll 56 = .ok (.if_icmp .ge 53, 3)) ∧ (decode cX2_ringAll 59 = .ok (.aload_n 0, 1)) ∧ (decode cX2_ringAll 60 = .ok (.getfield 24, 3)) ∧ (decode cX2_ringAll 63 = .ok (.iload_n 2, 1)) ∧ (decode cX2_ringAll 64 = .ok (.invokevirtual 52, 3)) ∧ (decode cX2_ringAll 67 = .ok (.ifCond .eq 36, 3)) ∧ (decode cX2_ringAll 70 = .ok (.aload_n 0, 1)) ∧ (decode cX2_ringAll 71 = .ok (.getfield 17, 3)) ∧ (decode cX2_ringAll 74 = .ok (.iload_n 1, 1)) ∧ (decode cX2_ringAll 75 = .ok (.aaload, 1)) ∧ (decode cX2_ringAll 76 = .ok (.aload_n 0, 1)) ∧ (decode cX2_ringAll 77 = .ok (.getfield 20, 3)) ∧ (decode cX2_ringAll 80 = .ok (.getfield 56, 3)) ∧ (decode cX2_ringAll 83 = .ok (.getfield 60, 3)) ∧ (decode cX2_ringAll 86 = .ok (.aload_n 0, 1)) ∧ (decode cX2_ringAll 87 = .ok (.getfield 20, 3)) := by decide +kernel
theorem dX2_ringAll_56 : decode cX2_ringAll 56 = .ok (.if_icmp .ge 53, 3) := dg_cX2_ringAll_44.1
theorem dX2_ringAll_59 : decode cX2_ringAll 59 = .ok (.aload_n 0, 1) := dg_cX2_ringAll_44.2.1
theorem dX2_ringAll_60 : decode cX2_ringAll 60 = .ok (.getfield 24, 3) := dg_cX2_ringAll_44.2.2.1
theorem dX2_ringAll_63 : decode cX2_ringAll 63 = .ok (.iload_n 2, 1) := dg_cX2_ringAll_44.2.2.2.1
theorem dX2_ringAll_64 : decode cX2_ringAll 64 = .ok (.invokevirtual 52, 3) := dg_cX2_ringAll_44.2.2.2.2.1
theorem dX2_ringAll_67 : decode cX2_ringAll 67 = .ok (.ifCond .eq 36, 3) := dg_cX2_ringAll_44.2.2.2.2.2.1
theorem dX2_ringAll_70 : decode cX2_ringAll 70 = .ok (.aload_n 0, 1) := dg_cX2_ringAll_44.2.2.2.2.2.2.1
theorem dX2_ringAll_71 : decode cX2_ringAll 71 = .ok (.getfield 17, 3) := dg_cX2_ringAll_44.2.2.2.2.2.2.2.1
theorem dX2_ringAll_74 : decode cX2_ringAll 74 = .ok (.iload_n 1, 1) := dg_cX2_ringAll_44.2.2.2.2.2.2.2.2.1
theorem dX2_ringAll_75 : decode cX2_ringAll 75 = .ok (.aaload, 1) := dg_cX2_ringAll_44.2.2.2.2.2.2.2.2.2.1
theorem dX2_ringAll_76 : decode cX2_ringAll 76 = .ok (.aload_n 0, 1) := dg_cX2_ringAll_44.2.2.2.2.2.2.2.2.2.2.1
theorem dX2_ringAll_77 : decode cX2_ringAll 77 = .ok (.getfield 20, 3) := dg_cX2_ringAll_44.2.2.2.2.2.2.2.2.2.2.2.1
theorem dX2_ringAll_80 : decode cX2_ringAll 80 = .ok (.getfield 56, 3) := dg_cX2_ringAll_44.2.2.2.2.2.2.2.2.2.2.2.2.1
theorem dX2_ringAll_83 : decode cX2_ringAll 83 = .ok (.getfield 60, 3) := dg_cX2_ringAll_44.2.2.2.2.2.2.2.2.2.2.2.2.2.1
theorem dX2_ringAll_86 : decode cX2_ringAll 86 = .ok (.aload_n 0, 1) := dg_cX2_ringAll_44.2.2.2.2.2.2.2.2.2.2.2.2.2.2.1
theorem dX2_ringAll_87 : decode cX2_ringAll 87 = .ok (.getfield 20, 3) := dg_cX2_ringAll_44.2.2.2.2.2.2.2.2.2.2.2.2.2.2.2
set_option maxRecDepth 100000 in
theorem dg_cX2_ringAll_45 : (decode cX2_ringAll 90 = .ok (.getfield 65, 3)) ∧ (decode cX2_ringAll 93 = .ok (.iload_n 1, 1)) ∧ (decode cX2_ringAll 94 = .ok (.aaload, 1)) ∧ (decode cX2_ringAll 95 = .ok (.iload_n 2, 1)) ∧ (decode cX2_ringAll 96 = .ok (.iaload, 1)) ∧ (decode cX2_ringAll 97 = .ok (.iaload, 1)) ∧ (decode cX2_ringAll 98 = .ok (.dup2, 1)) ∧ (decode cX2_ringAll 99 = .ok (.iaload, 1)) ∧ (decode cX2_ringAll 100 = .ok (.iconst 1, 1)) ∧ (decode cX2_ringAll 101 = .ok (.iadd, 1)) ∧ (decode cX2_ringAll 102 = .ok (.iastore, 1)) ∧ (decode cX2_ringAll 103 = .ok (.iinc 2 1, 3)) ∧ (decode cX2_ringAll 106 = .ok (.goto (-60), 3)) ∧ (decode cX2_ringAll 109 = .ok (.iinc 1 1, 3)) ∧ (decode cX2_ringAll 112 = .ok (.goto (-110), 3)) ∧ (decode cX2_ringAll 115 = .ok (.return_, 1)) := by decide +kernel
theorem dX2_ringAll_90 : decode cX2_ringAll 90 = .ok (.getfield 65, 3) := dg_cX2_ringAll_45.1
theorem dX2_ringAll_93 : decode cX2_ringAll 93 = .ok (.iload_n 1, 1) := dg_cX2_ringAll_45.2.1
theorem dX2_ringAll_94 : decode cX2_ringAll 94 = .ok (.aaload, 1) := dg_cX2_ringAll_45.2.2.1
theorem dX2_ringAll_95 : decode cX2_ringAll 95 = .ok (.iload_n 2, 1) := dg_cX2_ringAll_45.2.2.2.1
theorem dX2_ringAll_96 : decode cX2_ringAll 96 = .ok (.iaload, 1) := dg_cX2_ringAll_45.2.2.2.2.1
theorem dX2_ringAll_97 : decode cX2_ringAll 97 = .ok (.iaload, 1) := dg_cX2_ringAll_45.2.2.2.2.2.1
theorem dX2_ringAll_98 : decode cX2_ringAll 98 = .ok (.dup2, 1) := dg_cX2_ringAll_45.2.2.2.2.2.2.1
theorem dX2_ringAll_99 : decode cX2_ringAll 99 = .ok (.iaload, 1) := dg_cX2_ringAll_45.2.2.2.2.2.2.2.1
theorem dX2_ringAll_100 : decode cX2_ringAll 100 = .ok (.iconst 1, 1) := dg_cX2_ringAll_45.2.2.2.2.2.2.2.2.1
theorem dX2_ringAll_101 : decode cX2_ringAll 101 = .ok (.iadd, 1) := dg_cX2_ringAll_45.2.2.2.2.2.2.2.2.2.1
theorem dX2_ringAll_102 : decode cX2_ringAll 102 = .ok (.iastore, 1) := dg_cX2_ringAll_45.2.2.2.2.2.2.2.2.2.2.1
theorem dX2_ringAll_103 : decode cX2_ringAll 103 = .ok (.iinc 2 1, 3) := dg_cX2_ringAll_45.2.2.2.2.2.2.2.2.2.2.2.1
theorem dX2_ringAll_106 : decode cX2_ringAll 106 = .ok (.goto (-60), 3) := dg_cX2_ringAll_45.2.2.2.2.2.2.2.2.2.2.2.2.1
theorem dX2_ringAll_109 : decode cX2_ringAll 109 = .ok (.iinc 1 1, 3) := dg_cX2_ringAll_45.2.2.2.2.2.2.2.2.2.2.2.2.2.1
theorem dX2_ringAll_112 : decode cX2_ringAll 112 = .ok (.goto (-110), 3) := dg_cX2_ringAll_45.2.2.2.2.2.2.2.2.2.2.2.2.2.2.1
theorem dX2_ringAll_115 : decode cX2_ringAll 115 = .ok (.return_, 1) := dg_cX2_ringAll_45.2.2.2.2.2.2.2.2.2.2.2.2.2.2.2
set_option maxRecDepth 100000 in
theorem dg_cX2_strokesOf_46 : (decode cX2_strokesOf 0 = .ok (.aload_n 0, 1)) ∧ (decode cX2_strokesOf 1 = .ok (.iconst 1, 1)) ∧ (decode cX2_strokesOf 2 = .ok (.aload_n 0, 1)) ∧ (decode cX2_strokesOf 3 = .ok (.getfield 20, 3)) ∧ (decode cX2_strokesOf 6 = .ok (.getfield 28, 3)) ∧ (decode cX2_strokesOf 9 = .ok (.ishl, 1)) ∧ (decode cX2_strokesOf 10 = .ok (.iconst 1, 1)) ∧ (decode cX2_strokesOf 11 = .ok (.isub, 1)) ∧ (decode cX2_strokesOf 12 = .ok (.iload_n 1, 1)) ∧ (decode cX2_strokesOf 13 = .ok (.invokevirtual 68, 3)) ∧ (decode cX2_strokesOf 16 = .ok (.ireturn, 1)) := by decide +kernel
theorem dX2_strokesOf_0 : decode cX2_strokesOf 0 = .ok (.aload_n 0, 1) := dg_cX2_strokesOf_46.1
theorem dX2_strokesOf_1 : decode cX2_strokesOf 1 = .ok (.iconst 1, 1) := dg_cX2_strokesOf_46.2.1
theorem dX2_strokesOf_2 : decode cX2_strokesOf 2 = .ok (.aload_n 0, 1) := dg_cX2_strokesOf_46.2.2.1
theorem dX2_strokesOf_3 : decode cX2_strokesOf 3 = .ok (.getfield 20, 3) := dg_cX2_strokesOf_46.2.2.2.1
theorem dX2_strokesOf_6 : decode cX2_strokesOf 6 = .ok (.getfield 28, 3) := dg_cX2_strokesOf_46.2.2.2.2.1
theorem dX2_strokesOf_9 : decode cX2_strokesOf 9 = .ok (.ishl, 1) := dg_cX2_strokesOf_46.2.2.2.2.2.1
theorem dX2_strokesOf_10 : decode cX2_strokesOf 10 = .ok (.iconst 1, 1) := dg_cX2_strokesOf_46.2.2.2.2.2.2.1
theorem dX2_strokesOf_11 : decode cX2_strokesOf 11 = .ok (.isub, 1) := dg_cX2_strokesOf_46.2.2.2.2.2.2.2.1
theorem dX2_strokesOf_12 : decode cX2_strokesOf 12 = .ok (.iload_n 1, 1) := dg_cX2_strokesOf_46.2.2.2.2.2.2.2.2.1
theorem dX2_strokesOf_13 : decode cX2_strokesOf 13 = .ok (.invokevirtual 68, 3) := dg_cX2_strokesOf_46.2.2.2.2.2.2.2.2.2.1
theorem dX2_strokesOf_16 : decode cX2_strokesOf 16 = .ok (.ireturn, 1) := dg_cX2_strokesOf_46.2.2.2.2.2.2.2.2.2.2
set_option maxRecDepth 100000 in
theorem dg_cX2_choose_47 : (decode cX2_choose 0 = .ok (.aload_n 0, 1)) ∧ (decode cX2_choose 1 = .ok (.invokevirtual 72, 3)) ∧ (decode cX2_choose 4 = .ok (.aload_n 0, 1)) ∧ (decode cX2_choose 5 = .ok (.iconst 0, 1)) ∧ (decode cX2_choose 6 = .ok (.putfield 75, 3)) ∧ (decode cX2_choose 9 = .ok (.iconst 1, 1)) ∧ (decode cX2_choose 10 = .ok (.istore_n 3, 1)) ∧ (decode cX2_choose 11 = .ok (.iload_n 3, 1)) ∧ (decode cX2_choose 12 = .ok (.iconst 1, 1)) ∧ (decode cX2_choose 13 = .ok (.aload_n 0, 1)) ∧ (decode cX2_choose 14 = .ok (.getfield 20, 3)) ∧ (decode cX2_choose 17 = .ok (.getfield 28, 3)) ∧ (decode cX2_choose 20 = .ok (.ishl, 1)) ∧ (decode cX2_choose 21 = .ok (.if_icmp .ge 60, 3)) ∧ (decode cX2_choose 24 = .ok (.iload_n 3, 1)) ∧ (decode cX2_choose 25 = .ok (.invokestatic 76, 3)) := by decide +kernel
theorem dX2_choose_0 : decode cX2_choose 0 = .ok (.aload_n 0, 1) := dg_cX2_choose_47.1
theorem dX2_choose_1 : decode cX2_choose 1 = .ok (.invokevirtual 72, 3) := dg_cX2_choose_47.2.1
theorem dX2_choose_4 : decode cX2_choose 4 = .ok (.aload_n 0, 1) := dg_cX2_choose_47.2.2.1
theorem dX2_choose_5 : decode cX2_choose 5 = .ok (.iconst 0, 1) := dg_cX2_choose_47.2.2.2.1
theorem dX2_choose_6 : decode cX2_choose 6 = .ok (.putfield 75, 3) := dg_cX2_choose_47.2.2.2.2.1
theorem dX2_choose_9 : decode cX2_choose 9 = .ok (.iconst 1, 1) := dg_cX2_choose_47.2.2.2.2.2.1
theorem dX2_choose_10 : decode cX2_choose 10 = .ok (.istore_n 3, 1) := dg_cX2_choose_47.2.2.2.2.2.2.1
theorem dX2_choose_11 : decode cX2_choose 11 = .ok (.iload_n 3, 1) := dg_cX2_choose_47.2.2.2.2.2.2.2.1
theorem dX2_choose_12 : decode cX2_choose 12 = .ok (.iconst 1, 1) := dg_cX2_choose_47.2.2.2.2.2.2.2.2.1
theorem dX2_choose_13 : decode cX2_choose 13 = .ok (.aload_n 0, 1) := dg_cX2_choose_47.2.2.2.2.2.2.2.2.2.1
theorem dX2_choose_14 : decode cX2_choose 14 = .ok (.getfield 20, 3) := dg_cX2_choose_47.2.2.2.2.2.2.2.2.2.2.1
theorem dX2_choose_17 : decode cX2_choose 17 = .ok (.getfield 28, 3) := dg_cX2_choose_47.2.2.2.2.2.2.2.2.2.2.2.1
theorem dX2_choose_20 : decode cX2_choose 20 = .ok (.ishl, 1) := dg_cX2_choose_47.2.2.2.2.2.2.2.2.2.2.2.2.1
theorem dX2_choose_21 : decode cX2_choose 21 = .ok (.if_icmp .ge 60, 3) := dg_cX2_choose_47.2.2.2.2.2.2.2.2.2.2.2.2.2.1
theorem dX2_choose_24 : decode cX2_choose 24 = .ok (.iload_n 3, 1) := dg_cX2_choose_47.2.2.2.2.2.2.2.2.2.2.2.2.2.2.1
theorem dX2_choose_25 : decode cX2_choose 25 = .ok (.invokestatic 76, 3) := dg_cX2_choose_47.2.2.2.2.2.2.2.2.2.2.2.2.2.2.2
set_option maxRecDepth 100000 in
theorem dg_cX2_choose_48 : (decode cX2_choose 28 = .ok (.iload_n 1, 1)) ∧ (decode cX2_choose 29 = .ok (.if_icmp .ne 46, 3)) ∧ (decode cX2_choose 32 = .ok (.aload_n 0, 1)) ∧ (decode cX2_choose 33 = .ok (.iload_n 3, 1)) ∧ (decode cX2_choose 34 = .ok (.iload_n 2, 1)) ∧ (decode cX2_choose 35 = .ok (.invokevirtual 82, 3)) ∧ (decode cX2_choose 38 = .ok (.ifCond .eq 37, 3)) ∧ (decode cX2_choose 41 = .ok (.aload_n 0, 1)) ∧ (decode cX2_choose 42 = .ok (.iload_n 3, 1)) ∧ (decode cX2_choose 43 = .ok (.invokevirtual 86, 3)) ∧ (decode cX2_choose 46 = .ok (.istore 4, 2)) ∧ (decode cX2_choose 48 = .ok (.aload_n 0, 1)) ∧ (decode cX2_choose 49 = .ok (.getfield 75, 3)) ∧ (decode cX2_choose 52 = .ok (.ifCond .eq 12, 3)) ∧ (decode cX2_choose 55 = .ok (.iload 4, 2)) ∧ (decode cX2_choose 57 = .ok (.aload_n 0, 1)) := by decide +kernel
theorem dX2_choose_28 : decode cX2_choose 28 = .ok (.iload_n 1, 1) := dg_cX2_choose_48.1
theorem dX2_choose_29 : decode cX2_choose 29 = .ok (.if_icmp .ne 46, 3) := dg_cX2_choose_48.2.1
theorem dX2_choose_32 : decode cX2_choose 32 = .ok (.aload_n 0, 1) := dg_cX2_choose_48.2.2.1
theorem dX2_choose_33 : decode cX2_choose 33 = .ok (.iload_n 3, 1) := dg_cX2_choose_48.2.2.2.1
theorem dX2_choose_34 : decode cX2_choose 34 = .ok (.iload_n 2, 1) := dg_cX2_choose_48.2.2.2.2.1
theorem dX2_choose_35 : decode cX2_choose 35 = .ok (.invokevirtual 82, 3) := dg_cX2_choose_48.2.2.2.2.2.1
theorem dX2_choose_38 : decode cX2_choose 38 = .ok (.ifCond .eq 37, 3) := dg_cX2_choose_48.2.2.2.2.2.2.1
theorem dX2_choose_41 : decode cX2_choose 41 = .ok (.aload_n 0, 1) := dg_cX2_choose_48.2.2.2.2.2.2.2.1
theorem dX2_choose_42 : decode cX2_choose 42 = .ok (.iload_n 3, 1) := dg_cX2_choose_48.2.2.2.2.2.2.2.2.1
theorem dX2_choose_43 : decode cX2_choose 43 = .ok (.invokevirtual 86, 3) := dg_cX2_choose_48.2.2.2.2.2.2.2.2.2.1
theorem dX2_choose_46 : decode cX2_choose 46 = .ok (.istore 4, 2) := dg_cX2_choose_48.2.2.2.2.2.2.2.2.2.2.1
theorem dX2_choose_48 : decode cX2_choose 48 = .ok (.aload_n 0, 1) := dg_cX2_choose_48.2.2.2.2.2.2.2.2.2.2.2.1
theorem dX2_choose_49 : decode cX2_choose 49 = .ok (.getfield 75, 3) := dg_cX2_choose_48.2.2.2.2.2.2.2.2.2.2.2.2.1
theorem dX2_choose_52 : decode cX2_choose 52 = .ok (.ifCond .eq 12, 3) := dg_cX2_choose_48.2.2.2.2.2.2.2.2.2.2.2.2.2.1
theorem dX2_choose_55 : decode cX2_choose 55 = .ok (.iload 4, 2) := dg_cX2_choose_48.2.2.2.2.2.2.2.2.2.2.2.2.2.2.1
theorem dX2_choose_57 : decode cX2_choose 57 = .ok (.aload_n 0, 1) := dg_cX2_choose_48.2.2.2.2.2.2.2.2.2.2.2.2.2.2.2
set_option maxRecDepth 100000 in
theorem dg_cX2_choose_49 : (decode cX2_choose 58 = .ok (.getfield 89, 3)) ∧ (decode cX2_choose 61 = .ok (.if_icmp .ge 14, 3)) ∧ (decode cX2_choose 64 = .ok (.aload_n 0, 1)) ∧ (decode cX2_choose 65 = .ok (.iload_n 3, 1)) ∧ (decode cX2_choose 66 = .ok (.putfield 75, 3)) ∧ (decode cX2_choose 69 = .ok (.aload_n 0, 1)) ∧ (decode cX2_choose 70 = .ok (.iload 4, 2)) ∧ (decode cX2_choose 72 = .ok (.putfield 89, 3)) ∧ (decode cX2_choose 75 = .ok (.iinc 3 1, 3)) ∧ (decode cX2_choose 78 = .ok (.goto (-67), 3)) ∧ (decode cX2_choose 81 = .ok (.return_, 1)) := by decide +kernel
theorem dX2_choose_58 : decode cX2_choose 58 = .ok (.getfield 89, 3) := dg_cX2_choose_49.1
theorem dX2_choose_61 : decode cX2_choose 61 = .ok (.if_icmp .ge 14, 3) := dg_cX2_choose_49.2.1
theorem dX2_choose_64 : decode cX2_choose 64 = .ok (.aload_n 0, 1) := dg_cX2_choose_49.2.2.1
theorem dX2_choose_65 : decode cX2_choose 65 = .ok (.iload_n 3, 1) := dg_cX2_choose_49.2.2.2.1
theorem dX2_choose_66 : decode cX2_choose 66 = .ok (.putfield 75, 3) := dg_cX2_choose_49.2.2.2.2.1
theorem dX2_choose_69 : decode cX2_choose 69 = .ok (.aload_n 0, 1) := dg_cX2_choose_49.2.2.2.2.2.1
theorem dX2_choose_70 : decode cX2_choose 70 = .ok (.iload 4, 2) := dg_cX2_choose_49.2.2.2.2.2.2.1
theorem dX2_choose_72 : decode cX2_choose 72 = .ok (.putfield 89, 3) := dg_cX2_choose_49.2.2.2.2.2.2.2.1
theorem dX2_choose_75 : decode cX2_choose 75 = .ok (.iinc 3 1, 3) := dg_cX2_choose_49.2.2.2.2.2.2.2.2.1
theorem dX2_choose_78 : decode cX2_choose 78 = .ok (.goto (-67), 3) := dg_cX2_choose_49.2.2.2.2.2.2.2.2.2.1
theorem dX2_choose_81 : decode cX2_choose 81 = .ok (.return_, 1) := dg_cX2_choose_49.2.2.2.2.2.2.2.2.2.2
set_option maxRecDepth 100000 in
theorem dg_cX2_isWithin_50 : (decode cX2_isWithin 0 = .ok (.iconst 0, 1)) ∧ (decode cX2_isWithin 1 = .ok (.istore_n 3, 1)) ∧ (decode cX2_isWithin 2 = .ok (.iload_n 3, 1)) ∧ (decode cX2_isWithin 3 = .ok (.aload_n 0, 1)) ∧ (decode cX2_isWithin 4 = .ok (.getfield 20, 3)) ∧ (decode cX2_isWithin 7 = .ok (.getfield 90, 3)) ∧ (decode cX2_isWithin 10 = .ok (.if_icmp .ge 21, 3)) ∧ (decode cX2_isWithin 13 = .ok (.aload_n 0, 1)) ∧ (decode cX2_isWithin 14 = .ok (.iload_n 1, 1)) ∧ (decode cX2_isWithin 15 = .ok (.iload_n 3, 1)) ∧ (decode cX2_isWithin 16 = .ok (.invokevirtual 68, 3)) ∧ (decode cX2_isWithin 19 = .ok (.iload_n 2, 1)) ∧ (decode cX2_isWithin 20 = .ok (.if_icmp .le 5, 3)) ∧ (decode cX2_isWithin 23 = .ok (.iconst 0, 1)) ∧ (decode cX2_isWithin 24 = .ok (.ireturn, 1)) ∧ (decode cX2_isWithin 25 = .ok (.iinc 3 1, 3)) := by decide +kernel
theorem dX2_isWithin_0 : decode cX2_isWithin 0 = .ok (.iconst 0, 1) := dg_cX2_isWithin_50.1
theorem dX2_isWithin_1 : decode cX2_isWithin 1 = .ok (.istore_n 3, 1) := dg_cX2_isWithin_50.2.1
theorem dX2_isWithin_2 : decode cX2_isWithin 2 = .ok (.iload_n 3, 1) := dg_cX2_isWithin_50.2.2.1
theorem dX2_isWithin_3 : decode cX2_isWithin 3 = .ok (.aload_n 0, 1) := dg_cX2_isWithin_50.2.2.2.1
theorem dX2_isWithin_4 : decode cX2_isWithin 4 = .ok (.getfield 20, 3) := dg_cX2_isWithin_50.2.2.2.2.1
theorem dX2_isWithin_7 : decode cX2_isWithin 7 = .ok (.getfield 90, 3) := dg_cX2_isWithin_50.2.2.2.2.2.1
theorem dX2_isWithin_10 : decode cX2_isWithin 10 = .ok (.if_icmp .ge 21, 3) := dg_cX2_isWithin_50.2.2.2.2.2.2.1
theorem dX2_isWithin_13 : decode cX2_isWithin 13 = .ok (.aload_n 0, 1) := dg_cX2_isWithin_50.2.2.2.2.2.2.2.1
theorem dX2_isWithin_14 : decode cX2_isWithin 14 = .ok (.iload_n 1, 1) := dg_cX2_isWithin_50.2.2.2.2.2.2.2.2.1
theorem dX2_isWithin_15 : decode cX2_isWithin 15 = .ok (.iload_n 3, 1) := dg_cX2_isWithin_50.2.2.2.2.2.2.2.2.2.1
theorem dX2_isWithin_16 : decode cX2_isWithin 16 = .ok (.invokevirtual 68, 3) := dg_cX2_isWithin_50.2.2.2.2.2.2.2.2.2.2.1
theorem dX2_isWithin_19 : decode cX2_isWithin 19 = .ok (.iload_n 2, 1) := dg_cX2_isWithin_50.2.2.2.2.2.2.2.2.2.2.2.1
theorem dX2_isWithin_20 : decode cX2_isWithin 20 = .ok (.if_icmp .le 5, 3) := dg_cX2_isWithin_50.2.2.2.2.2.2.2.2.2.2.2.2.1
theorem dX2_isWithin_23 : decode cX2_isWithin 23 = .ok (.iconst 0, 1) := dg_cX2_isWithin_50.2.2.2.2.2.2.2.2.2.2.2.2.2.1
theorem dX2_isWithin_24 : decode cX2_isWithin 24 = .ok (.ireturn, 1) := dg_cX2_isWithin_50.2.2.2.2.2.2.2.2.2.2.2.2.2.2.1
theorem dX2_isWithin_25 : decode cX2_isWithin 25 = .ok (.iinc 3 1, 3) := dg_cX2_isWithin_50.2.2.2.2.2.2.2.2.2.2.2.2.2.2.2
set_option maxRecDepth 100000 in
theorem dg_cX2_isWithin_51 : (decode cX2_isWithin 28 = .ok (.goto (-26), 3)) ∧ (decode cX2_isWithin 31 = .ok (.iconst 1, 1)) ∧ (decode cX2_isWithin 32 = .ok (.ireturn, 1)) := by decide +kernel
theorem dX2_isWithin_28 : decode cX2_isWithin 28 = .ok (.goto (-26), 3) := dg_cX2_isWithin_51.1
theorem dX2_isWithin_31 : decode cX2_isWithin 31 = .ok (.iconst 1, 1) := dg_cX2_isWithin_51.2.1
theorem dX2_isWithin_32 : decode cX2_isWithin 32 = .ok (.ireturn, 1) := dg_cX2_isWithin_51.2.2
set_option maxRecDepth 100000 in
theorem dg_cX2_strokesIn_52 : (decode cX2_strokesIn 0 = .ok (.iconst 0, 1)) ∧ (decode cX2_strokesIn 1 = .ok (.istore_n 3, 1)) ∧ (decode cX2_strokesIn 2 = .ok (.iconst 0, 1)) ∧ (decode cX2_strokesIn 3 = .ok (.istore 4, 2)) ∧ (decode cX2_strokesIn 5 = .ok (.iload 4, 2)) ∧ (decode cX2_strokesIn 7 = .ok (.aload_n 0, 1)) ∧ (decode cX2_strokesIn 8 = .ok (.getfield 20, 3)) ∧ (decode cX2_strokesIn 11 = .ok (.getfield 28, 3)) ∧ (decode cX2_strokesIn 14 = .ok (.if_icmp .ge 30, 3)) ∧ (decode cX2_strokesIn 17 = .ok (.iload_n 1, 1)) ∧ (decode cX2_strokesIn 18 = .ok (.iconst 1, 1)) ∧ (decode cX2_strokesIn 19 = .ok (.iload 4, 2)) ∧ (decode cX2_strokesIn 21 = .ok (.ishl, 1)) ∧ (decode cX2_strokesIn 22 = .ok (.iand, 1)) ∧ (decode cX2_strokesIn 23 = .ok (.ifCond .eq 15, 3)) ∧ (decode cX2_strokesIn 26 = .ok (.iload_n 3, 1)) := by decide +kernel
theorem dX2_strokesIn_0 : decode cX2_strokesIn 0 = .ok (.iconst 0, 1) := dg_cX2_strokesIn_52.1
theorem dX2_strokesIn_1 : decode cX2_strokesIn 1 = .ok (.istore_n 3, 1) := dg_cX2_strokesIn_52.2.1
theorem dX2_strokesIn_2 : decode cX2_strokesIn 2 = .ok (.iconst 0, 1) := dg_cX2_strokesIn_52.2.2.1
theorem dX2_strokesIn_3 : decode cX2_strokesIn 3 = .ok (.istore 4, 2) := dg_cX2_strokesIn_52.2.2.2.1
theorem dX2_strokesIn_5 : decode cX2_strokesIn 5 = .ok (.iload 4, 2) := dg_cX2_strokesIn_52.2.2.2.2.1
theorem dX2_strokesIn_7 : decode cX2_strokesIn 7 = .ok (.aload_n 0, 1) := dg_cX2_strokesIn_52.2.2.2.2.2.1
theorem dX2_strokesIn_8 : decode cX2_strokesIn 8 = .ok (.getfield 20, 3) := dg_cX2_strokesIn_52.2.2.2.2.2.2.1
theorem dX2_strokesIn_11 : decode cX2_strokesIn 11 = .ok (.getfield 28, 3) := dg_cX2_strokesIn_52.2.2.2.2.2.2.2.1
theorem dX2_strokesIn_14 : decode cX2_strokesIn 14 = .ok (.if_icmp .ge 30, 3) := dg_cX2_strokesIn_52.2.2.2.2.2.2.2.2.1
theorem dX2_strokesIn_17 : decode cX2_strokesIn 17 = .ok (.iload_n 1, 1) := dg_cX2_strokesIn_52.2.2.2.2.2.2.2.2.2.1
theorem dX2_strokesIn_18 : decode cX2_strokesIn 18 = .ok (.iconst 1, 1) := dg_cX2_strokesIn_52.2.2.2.2.2.2.2.2.2.2.1
theorem dX2_strokesIn_19 : decode cX2_strokesIn 19 = .ok (.iload 4, 2) := dg_cX2_strokesIn_52.2.2.2.2.2.2.2.2.2.2.2.1
theorem dX2_strokesIn_21 : decode cX2_strokesIn 21 = .ok (.ishl, 1) := dg_cX2_strokesIn_52.2.2.2.2.2.2.2.2.2.2.2.2.1
theorem dX2_strokesIn_22 : decode cX2_strokesIn 22 = .ok (.iand, 1) := dg_cX2_strokesIn_52.2.2.2.2.2.2.2.2.2.2.2.2.2.1
theorem dX2_strokesIn_23 : decode cX2_strokesIn 23 = .ok (.ifCond .eq 15, 3) := dg_cX2_strokesIn_52.2.2.2.2.2.2.2.2.2.2.2.2.2.2.1
theorem dX2_strokesIn_26 : decode cX2_strokesIn 26 = .ok (.iload_n 3, 1) := dg_cX2_strokesIn_52.2.2.2.2.2.2.2.2.2.2.2.2.2.2.2
set_option maxRecDepth 100000 in
theorem dg_cX2_strokesIn_53 : (decode cX2_strokesIn 27 = .ok (.aload_n 0, 1)) ∧ (decode cX2_strokesIn 28 = .ok (.getfield 17, 3)) ∧ (decode cX2_strokesIn 31 = .ok (.iload 4, 2)) ∧ (decode cX2_strokesIn 33 = .ok (.aaload, 1)) ∧ (decode cX2_strokesIn 34 = .ok (.iload_n 2, 1)) ∧ (decode cX2_strokesIn 35 = .ok (.iaload, 1)) ∧ (decode cX2_strokesIn 36 = .ok (.iadd, 1)) ∧ (decode cX2_strokesIn 37 = .ok (.istore_n 3, 1)) ∧ (decode cX2_strokesIn 38 = .ok (.iinc 4 1, 3)) ∧ (decode cX2_strokesIn 41 = .ok (.goto (-36), 3)) ∧ (decode cX2_strokesIn 44 = .ok (.iload_n 3, 1)) ∧ (decode cX2_strokesIn 45 = .ok (.ireturn, 1)) := by decide +kernel
theorem dX2_strokesIn_27 : decode cX2_strokesIn 27 = .ok (.aload_n 0, 1) := dg_cX2_strokesIn_53.1
theorem dX2_strokesIn_28 : decode cX2_strokesIn 28 = .ok (.getfield 17, 3) := dg_cX2_strokesIn_53.2.1
theorem dX2_strokesIn_31 : decode cX2_strokesIn 31 = .ok (.iload 4, 2) := dg_cX2_strokesIn_53.2.2.1
theorem dX2_strokesIn_33 : decode cX2_strokesIn 33 = .ok (.aaload, 1) := dg_cX2_strokesIn_53.2.2.2.1
theorem dX2_strokesIn_34 : decode cX2_strokesIn 34 = .ok (.iload_n 2, 1) := dg_cX2_strokesIn_53.2.2.2.2.1
theorem dX2_strokesIn_35 : decode cX2_strokesIn 35 = .ok (.iaload, 1) := dg_cX2_strokesIn_53.2.2.2.2.2.1
theorem dX2_strokesIn_36 : decode cX2_strokesIn 36 = .ok (.iadd, 1) := dg_cX2_strokesIn_53.2.2.2.2.2.2.1
theorem dX2_strokesIn_37 : decode cX2_strokesIn 37 = .ok (.istore_n 3, 1) := dg_cX2_strokesIn_53.2.2.2.2.2.2.2.1
theorem dX2_strokesIn_38 : decode cX2_strokesIn 38 = .ok (.iinc 4 1, 3) := dg_cX2_strokesIn_53.2.2.2.2.2.2.2.2.1
theorem dX2_strokesIn_41 : decode cX2_strokesIn 41 = .ok (.goto (-36), 3) := dg_cX2_strokesIn_53.2.2.2.2.2.2.2.2.2.1
theorem dX2_strokesIn_44 : decode cX2_strokesIn 44 = .ok (.iload_n 3, 1) := dg_cX2_strokesIn_53.2.2.2.2.2.2.2.2.2.2.1
theorem dX2_strokesIn_45 : decode cX2_strokesIn 45 = .ok (.ireturn, 1) := dg_cX2_strokesIn_53.2.2.2.2.2.2.2.2.2.2.2
set_option maxRecDepth 100000 in
theorem dg_cX2_costOf_54 : (decode cX2_costOf 0 = .ok (.iconst 0, 1)) ∧ (decode cX2_costOf 1 = .ok (.istore_n 2, 1)) ∧ (decode cX2_costOf 2 = .ok (.iconst 0, 1)) ∧ (decode cX2_costOf 3 = .ok (.istore_n 3, 1)) ∧ (decode cX2_costOf 4 = .ok (.iload_n 3, 1)) ∧ (decode cX2_costOf 5 = .ok (.aload_n 0, 1)) ∧ (decode cX2_costOf 6 = .ok (.getfield 20, 3)) ∧ (decode cX2_costOf 9 = .ok (.getfield 28, 3)) ∧ (decode cX2_costOf 12 = .ok (.if_icmp .ge 26, 3)) ∧ (decode cX2_costOf 15 = .ok (.iload_n 1, 1)) ∧ (decode cX2_costOf 16 = .ok (.iconst 1, 1)) ∧ (decode cX2_costOf 17 = .ok (.iload_n 3, 1)) ∧ (decode cX2_costOf 18 = .ok (.ishl, 1)) ∧ (decode cX2_costOf 19 = .ok (.iand, 1)) ∧ (decode cX2_costOf 20 = .ok (.ifCond .eq 12, 3)) ∧ (decode cX2_costOf 23 = .ok (.iload_n 2, 1)) := by decide +kernel
theorem dX2_costOf_0 : decode cX2_costOf 0 = .ok (.iconst 0, 1) := dg_cX2_costOf_54.1
theorem dX2_costOf_1 : decode cX2_costOf 1 = .ok (.istore_n 2, 1) := dg_cX2_costOf_54.2.1
theorem dX2_costOf_2 : decode cX2_costOf 2 = .ok (.iconst 0, 1) := dg_cX2_costOf_54.2.2.1
theorem dX2_costOf_3 : decode cX2_costOf 3 = .ok (.istore_n 3, 1) := dg_cX2_costOf_54.2.2.2.1
theorem dX2_costOf_4 : decode cX2_costOf 4 = .ok (.iload_n 3, 1) := dg_cX2_costOf_54.2.2.2.2.1
theorem dX2_costOf_5 : decode cX2_costOf 5 = .ok (.aload_n 0, 1) := dg_cX2_costOf_54.2.2.2.2.2.1
theorem dX2_costOf_6 : decode cX2_costOf 6 = .ok (.getfield 20, 3) := dg_cX2_costOf_54.2.2.2.2.2.2.1
theorem dX2_costOf_9 : decode cX2_costOf 9 = .ok (.getfield 28, 3) := dg_cX2_costOf_54.2.2.2.2.2.2.2.1
theorem dX2_costOf_12 : decode cX2_costOf 12 = .ok (.if_icmp .ge 26, 3) := dg_cX2_costOf_54.2.2.2.2.2.2.2.2.1
theorem dX2_costOf_15 : decode cX2_costOf 15 = .ok (.iload_n 1, 1) := dg_cX2_costOf_54.2.2.2.2.2.2.2.2.2.1
theorem dX2_costOf_16 : decode cX2_costOf 16 = .ok (.iconst 1, 1) := dg_cX2_costOf_54.2.2.2.2.2.2.2.2.2.2.1
theorem dX2_costOf_17 : decode cX2_costOf 17 = .ok (.iload_n 3, 1) := dg_cX2_costOf_54.2.2.2.2.2.2.2.2.2.2.2.1
theorem dX2_costOf_18 : decode cX2_costOf 18 = .ok (.ishl, 1) := dg_cX2_costOf_54.2.2.2.2.2.2.2.2.2.2.2.2.1
theorem dX2_costOf_19 : decode cX2_costOf 19 = .ok (.iand, 1) := dg_cX2_costOf_54.2.2.2.2.2.2.2.2.2.2.2.2.2.1
theorem dX2_costOf_20 : decode cX2_costOf 20 = .ok (.ifCond .eq 12, 3) := dg_cX2_costOf_54.2.2.2.2.2.2.2.2.2.2.2.2.2.2.1
theorem dX2_costOf_23 : decode cX2_costOf 23 = .ok (.iload_n 2, 1) := dg_cX2_costOf_54.2.2.2.2.2.2.2.2.2.2.2.2.2.2.2
set_option maxRecDepth 100000 in
theorem dg_cX2_costOf_55 : (decode cX2_costOf 24 = .ok (.aload_n 0, 1)) ∧ (decode cX2_costOf 25 = .ok (.getfield 9, 3)) ∧ (decode cX2_costOf 28 = .ok (.iload_n 3, 1)) ∧ (decode cX2_costOf 29 = .ok (.iaload, 1)) ∧ (decode cX2_costOf 30 = .ok (.iadd, 1)) ∧ (decode cX2_costOf 31 = .ok (.istore_n 2, 1)) ∧ (decode cX2_costOf 32 = .ok (.iinc 3 1, 3)) ∧ (decode cX2_costOf 35 = .ok (.goto (-31), 3)) ∧ (decode cX2_costOf 38 = .ok (.iload_n 2, 1)) ∧ (decode cX2_costOf 39 = .ok (.ireturn, 1)) := by decide +kernel
theorem dX2_costOf_24 : decode cX2_costOf 24 = .ok (.aload_n 0, 1) := dg_cX2_costOf_55.1
theorem dX2_costOf_25 : decode cX2_costOf 25 = .ok (.getfield 9, 3) := dg_cX2_costOf_55.2.1
theorem dX2_costOf_28 : decode cX2_costOf 28 = .ok (.iload_n 3, 1) := dg_cX2_costOf_55.2.2.1
theorem dX2_costOf_29 : decode cX2_costOf 29 = .ok (.iaload, 1) := dg_cX2_costOf_55.2.2.2.1
theorem dX2_costOf_30 : decode cX2_costOf 30 = .ok (.iadd, 1) := dg_cX2_costOf_55.2.2.2.2.1
theorem dX2_costOf_31 : decode cX2_costOf 31 = .ok (.istore_n 2, 1) := dg_cX2_costOf_55.2.2.2.2.2.1
theorem dX2_costOf_32 : decode cX2_costOf 32 = .ok (.iinc 3 1, 3) := dg_cX2_costOf_55.2.2.2.2.2.2.1
theorem dX2_costOf_35 : decode cX2_costOf 35 = .ok (.goto (-31), 3) := dg_cX2_costOf_55.2.2.2.2.2.2.2.1
theorem dX2_costOf_38 : decode cX2_costOf 38 = .ok (.iload_n 2, 1) := dg_cX2_costOf_55.2.2.2.2.2.2.2.2.1
theorem dX2_costOf_39 : decode cX2_costOf 39 = .ok (.ireturn, 1) := dg_cX2_costOf_55.2.2.2.2.2.2.2.2.2
set_option maxRecDepth 100000 in
theorem dg_cX3_init_56 : (decode cX3_init 0 = .ok (.aload_n 0, 1)) ∧ (decode cX3_init 1 = .ok (.invokespecial 3, 3)) ∧ (decode cX3_init 4 = .ok (.aload_n 0, 1)) ∧ (decode cX3_init 5 = .ok (.aload_n 1, 1)) ∧ (decode cX3_init 6 = .ok (.putfield 9, 3)) ∧ (decode cX3_init 9 = .ok (.aload_n 0, 1)) ∧ (decode cX3_init 10 = .ok (.aload_n 1, 1)) ∧ (decode cX3_init 11 = .ok (.getfield 15, 3)) ∧ (decode cX3_init 14 = .ok (.putfield 21, 3)) ∧ (decode cX3_init 17 = .ok (.return_, 1)) := by decide +kernel
theorem dX3_init_0 : decode cX3_init 0 = .ok (.aload_n 0, 1) := dg_cX3_init_56.1
theorem dX3_init_1 : decode cX3_init 1 = .ok (.invokespecial 3, 3) := dg_cX3_init_56.2.1
theorem dX3_init_4 : decode cX3_init 4 = .ok (.aload_n 0, 1) := dg_cX3_init_56.2.2.1
theorem dX3_init_5 : decode cX3_init 5 = .ok (.aload_n 1, 1) := dg_cX3_init_56.2.2.2.1
theorem dX3_init_6 : decode cX3_init 6 = .ok (.putfield 9, 3) := dg_cX3_init_56.2.2.2.2.1
theorem dX3_init_9 : decode cX3_init 9 = .ok (.aload_n 0, 1) := dg_cX3_init_56.2.2.2.2.2.1
theorem dX3_init_10 : decode cX3_init 10 = .ok (.aload_n 1, 1) := dg_cX3_init_56.2.2.2.2.2.2.1
theorem dX3_init_11 : decode cX3_init 11 = .ok (.getfield 15, 3) := dg_cX3_init_56.2.2.2.2.2.2.2.1
theorem dX3_init_14 : decode cX3_init 14 = .ok (.putfield 21, 3) := dg_cX3_init_56.2.2.2.2.2.2.2.2.1
theorem dX3_init_17 : decode cX3_init 17 = .ok (.return_, 1) := dg_cX3_init_56.2.2.2.2.2.2.2.2.2
set_option maxRecDepth 100000 in
theorem dg_cX3_canBe_57 : (decode cX3_canBe 0 = .ok (.aload_n 0, 1)) ∧ (decode cX3_canBe 1 = .ok (.getfield 21, 3)) ∧ (decode cX3_canBe 4 = .ok (.getfield 22, 3)) ∧ (decode cX3_canBe 7 = .ok (.aload_n 0, 1)) ∧ (decode cX3_canBe 8 = .ok (.getfield 9, 3)) ∧ (decode cX3_canBe 11 = .ok (.getfield 28, 3)) ∧ (decode cX3_canBe 14 = .ok (.iload_n 1, 1)) ∧ (decode cX3_canBe 15 = .ok (.iaload, 1)) ∧ (decode cX3_canBe 16 = .ok (.if_icmp .eq 5, 3)) ∧ (decode cX3_canBe 19 = .ok (.iconst 0, 1)) ∧ (decode cX3_canBe 20 = .ok (.ireturn, 1)) ∧ (decode cX3_canBe 21 = .ok (.iconst 0, 1)) ∧ (decode cX3_canBe 22 = .ok (.istore_n 2, 1)) ∧ (decode cX3_canBe 23 = .ok (.iconst 0, 1)) ∧ (decode cX3_canBe 24 = .ok (.istore_n 3, 1)) ∧ (decode cX3_canBe 25 = .ok (.iload_n 3, 1)) := by decide +kernel
theorem dX3_canBe_0 : decode cX3_canBe 0 = .ok (.aload_n 0, 1) := dg_cX3_canBe_57.1
theorem dX3_canBe_1 : decode cX3_canBe 1 = .ok (.getfield 21, 3) := dg_cX3_canBe_57.2.1
theorem dX3_canBe_4 : decode cX3_canBe 4 = .ok (.getfield 22, 3) := dg_cX3_canBe_57.2.2.1
theorem dX3_canBe_7 : decode cX3_canBe 7 = .ok (.aload_n 0, 1) := dg_cX3_canBe_57.2.2.2.1
theorem dX3_canBe_8 : decode cX3_canBe 8 = .ok (.getfield 9, 3) := dg_cX3_canBe_57.2.2.2.2.1
theorem dX3_canBe_11 : decode cX3_canBe 11 = .ok (.getfield 28, 3) := dg_cX3_canBe_57.2.2.2.2.2.1
theorem dX3_canBe_14 : decode cX3_canBe 14 = .ok (.iload_n 1, 1) := dg_cX3_canBe_57.2.2.2.2.2.2.1
theorem dX3_canBe_15 : decode cX3_canBe 15 = .ok (.iaload, 1) := dg_cX3_canBe_57.2.2.2.2.2.2.2.1
theorem dX3_canBe_16 : decode cX3_canBe 16 = .ok (.if_icmp .eq 5, 3) := dg_cX3_canBe_57.2.2.2.2.2.2.2.2.1
theorem dX3_canBe_19 : decode cX3_canBe 19 = .ok (.iconst 0, 1) := dg_cX3_canBe_57.2.2.2.2.2.2.2.2.2.1
theorem dX3_canBe_20 : decode cX3_canBe 20 = .ok (.ireturn, 1) := dg_cX3_canBe_57.2.2.2.2.2.2.2.2.2.2.1
theorem dX3_canBe_21 : decode cX3_canBe 21 = .ok (.iconst 0, 1) := dg_cX3_canBe_57.2.2.2.2.2.2.2.2.2.2.2.1
theorem dX3_canBe_22 : decode cX3_canBe 22 = .ok (.istore_n 2, 1) := dg_cX3_canBe_57.2.2.2.2.2.2.2.2.2.2.2.2.1
theorem dX3_canBe_23 : decode cX3_canBe 23 = .ok (.iconst 0, 1) := dg_cX3_canBe_57.2.2.2.2.2.2.2.2.2.2.2.2.2.1
theorem dX3_canBe_24 : decode cX3_canBe 24 = .ok (.istore_n 3, 1) := dg_cX3_canBe_57.2.2.2.2.2.2.2.2.2.2.2.2.2.2.1
theorem dX3_canBe_25 : decode cX3_canBe 25 = .ok (.iload_n 3, 1) := dg_cX3_canBe_57.2.2.2.2.2.2.2.2.2.2.2.2.2.2.2
set_option maxRecDepth 100000 in
theorem dg_cX3_canBe_58 : (decode cX3_canBe 26 = .ok (.aload_n 0, 1)) ∧ (decode cX3_canBe 27 = .ok (.getfield 21, 3)) ∧ (decode cX3_canBe 30 = .ok (.getfield 22, 3)) ∧ (decode cX3_canBe 33 = .ok (.if_icmp .ge 71, 3)) ∧ (decode cX3_canBe 36 = .ok (.aload_n 0, 1)) ∧ (decode cX3_canBe 37 = .ok (.getfield 21, 3)) ∧ (decode cX3_canBe 40 = .ok (.getfield 32, 3)) ∧ (decode cX3_canBe 43 = .ok (.iload_n 3, 1)) ∧ (decode cX3_canBe 44 = .ok (.iaload, 1)) ∧ (decode cX3_canBe 45 = .ok (.istore 4, 2)) ∧ (decode cX3_canBe 47 = .ok (.iload 4, 2)) ∧ (decode cX3_canBe 49 = .ok (.bipush (-4), 2)) ∧ (decode cX3_canBe 51 = .ok (.if_icmp .eq 21, 3)) ∧ (decode cX3_canBe 54 = .ok (.iload 4, 2)) ∧ (decode cX3_canBe 56 = .ok (.aload_n 0, 1)) ∧ (decode cX3_canBe 57 = .ok (.getfield 9, 3)) := by decide +kernel
theorem dX3_canBe_26 : decode cX3_canBe 26 = .ok (.aload_n 0, 1) := dg_cX3_canBe_58.1
theorem dX3_canBe_27 : decode cX3_canBe 27 = .ok (.getfield 21, 3) := dg_cX3_canBe_58.2.1
theorem dX3_canBe_30 : decode cX3_canBe 30 = .ok (.getfield 22, 3) := dg_cX3_canBe_58.2.2.1
theorem dX3_canBe_33 : decode cX3_canBe 33 = .ok (.if_icmp .ge 71, 3) := dg_cX3_canBe_58.2.2.2.1
theorem dX3_canBe_36 : decode cX3_canBe 36 = .ok (.aload_n 0, 1) := dg_cX3_canBe_58.2.2.2.2.1
theorem dX3_canBe_37 : decode cX3_canBe 37 = .ok (.getfield 21, 3) := dg_cX3_canBe_58.2.2.2.2.2.1
theorem dX3_canBe_40 : decode cX3_canBe 40 = .ok (.getfield 32, 3) := dg_cX3_canBe_58.2.2.2.2.2.2.1
theorem dX3_canBe_43 : decode cX3_canBe 43 = .ok (.iload_n 3, 1) := dg_cX3_canBe_58.2.2.2.2.2.2.2.1
theorem dX3_canBe_44 : decode cX3_canBe 44 = .ok (.iaload, 1) := dg_cX3_canBe_58.2.2.2.2.2.2.2.2.1
theorem dX3_canBe_45 : decode cX3_canBe 45 = .ok (.istore 4, 2) := dg_cX3_canBe_58.2.2.2.2.2.2.2.2.2.1
theorem dX3_canBe_47 : decode cX3_canBe 47 = .ok (.iload 4, 2) := dg_cX3_canBe_58.2.2.2.2.2.2.2.2.2.2.1
theorem dX3_canBe_49 : decode cX3_canBe 49 = .ok (.bipush (-4), 2) := dg_cX3_canBe_58.2.2.2.2.2.2.2.2.2.2.2.1
theorem dX3_canBe_51 : decode cX3_canBe 51 = .ok (.if_icmp .eq 21, 3) := dg_cX3_canBe_58.2.2.2.2.2.2.2.2.2.2.2.2.1
theorem dX3_canBe_54 : decode cX3_canBe 54 = .ok (.iload 4, 2) := dg_cX3_canBe_58.2.2.2.2.2.2.2.2.2.2.2.2.2.1
theorem dX3_canBe_56 : decode cX3_canBe 56 = .ok (.aload_n 0, 1) := dg_cX3_canBe_58.2.2.2.2.2.2.2.2.2.2.2.2.2.2.1
theorem dX3_canBe_57 : decode cX3_canBe 57 = .ok (.getfield 9, 3) := dg_cX3_canBe_58.2.2.2.2.2.2.2.2.2.2.2.2.2.2.2
set_option maxRecDepth 100000 in
theorem dg_cX3_canBe_59 : (decode cX3_canBe 60 = .ok (.getfield 35, 3)) ∧ (decode cX3_canBe 63 = .ok (.iload_n 1, 1)) ∧ (decode cX3_canBe 64 = .ok (.aaload, 1)) ∧ (decode cX3_canBe 65 = .ok (.iload_n 3, 1)) ∧ (decode cX3_canBe 66 = .ok (.iaload, 1)) ∧ (decode cX3_canBe 67 = .ok (.if_icmp .eq 5, 3)) ∧ (decode cX3_canBe 70 = .ok (.iconst 0, 1)) ∧ (decode cX3_canBe 71 = .ok (.ireturn, 1)) ∧ (decode cX3_canBe 72 = .ok (.iload_n 2, 1)) ∧ (decode cX3_canBe 73 = .ok (.iload 4, 2)) ∧ (decode cX3_canBe 75 = .ok (.bipush (-4), 2)) ∧ (decode cX3_canBe 77 = .ok (.if_icmp .ne 7, 3)) ∧ (decode cX3_canBe 80 = .ok (.iconst 0, 1)) ∧ (decode cX3_canBe 81 = .ok (.goto 15, 3)) ∧ (decode cX3_canBe 84 = .ok (.iconst 1, 1)) ∧ (decode cX3_canBe 85 = .ok (.aload_n 0, 1)) := by decide +kernel
theorem dX3_canBe_60 : decode cX3_canBe 60 = .ok (.getfield 35, 3) := dg_cX3_canBe_59.1
theorem dX3_canBe_63 : decode cX3_canBe 63 = .ok (.iload_n 1, 1) := dg_cX3_canBe_59.2.1
theorem dX3_canBe_64 : decode cX3_canBe 64 = .ok (.aaload, 1) := dg_cX3_canBe_59.2.2.1
theorem dX3_canBe_65 : decode cX3_canBe 65 = .ok (.iload_n 3, 1) := dg_cX3_canBe_59.2.2.2.1
theorem dX3_canBe_66 : decode cX3_canBe 66 = .ok (.iaload, 1) := dg_cX3_canBe_59.2.2.2.2.1
theorem dX3_canBe_67 : decode cX3_canBe 67 = .ok (.if_icmp .eq 5, 3) := dg_cX3_canBe_59.2.2.2.2.2.1
theorem dX3_canBe_70 : decode cX3_canBe 70 = .ok (.iconst 0, 1) := dg_cX3_canBe_59.2.2.2.2.2.2.1
theorem dX3_canBe_71 : decode cX3_canBe 71 = .ok (.ireturn, 1) := dg_cX3_canBe_59.2.2.2.2.2.2.2.1
theorem dX3_canBe_72 : decode cX3_canBe 72 = .ok (.iload_n 2, 1) := dg_cX3_canBe_59.2.2.2.2.2.2.2.2.1
theorem dX3_canBe_73 : decode cX3_canBe 73 = .ok (.iload 4, 2) := dg_cX3_canBe_59.2.2.2.2.2.2.2.2.2.1
theorem dX3_canBe_75 : decode cX3_canBe 75 = .ok (.bipush (-4), 2) := dg_cX3_canBe_59.2.2.2.2.2.2.2.2.2.2.1
theorem dX3_canBe_77 : decode cX3_canBe 77 = .ok (.if_icmp .ne 7, 3) := dg_cX3_canBe_59.2.2.2.2.2.2.2.2.2.2.2.1
theorem dX3_canBe_80 : decode cX3_canBe 80 = .ok (.iconst 0, 1) := dg_cX3_canBe_59.2.2.2.2.2.2.2.2.2.2.2.2.1
theorem dX3_canBe_81 : decode cX3_canBe 81 = .ok (.goto 15, 3) := dg_cX3_canBe_59.2.2.2.2.2.2.2.2.2.2.2.2.2.1
theorem dX3_canBe_84 : decode cX3_canBe 84 = .ok (.iconst 1, 1) := dg_cX3_canBe_59.2.2.2.2.2.2.2.2.2.2.2.2.2.2.1
theorem dX3_canBe_85 : decode cX3_canBe 85 = .ok (.aload_n 0, 1) := dg_cX3_canBe_59.2.2.2.2.2.2.2.2.2.2.2.2.2.2.2
set_option maxRecDepth 100000 in
theorem dg_cX3_canBe_60 : (decode cX3_canBe 86 = .ok (.getfield 21, 3)) ∧ (decode cX3_canBe 89 = .ok (.getfield 38, 3)) ∧ (decode cX3_canBe 92 = .ok (.iload 4, 2)) ∧ (decode cX3_canBe 94 = .ok (.iaload, 1)) ∧ (decode cX3_canBe 95 = .ok (.ishl, 1)) ∧ (decode cX3_canBe 96 = .ok (.ior, 1)) ∧ (decode cX3_canBe 97 = .ok (.istore_n 2, 1)) ∧ (decode cX3_canBe 98 = .ok (.iinc 3 1, 3)) ∧ (decode cX3_canBe 101 = .ok (.goto (-76), 3)) ∧ (decode cX3_canBe 104 = .ok (.iload_n 2, 1)) ∧ (decode cX3_canBe 105 = .ok (.aload_n 0, 1)) ∧ (decode cX3_canBe 106 = .ok (.iload_n 1, 1)) ∧ (decode cX3_canBe 107 = .ok (.invokevirtual 41, 3)) ∧ (decode cX3_canBe 110 = .ok (.iand, 1)) ∧ (decode cX3_canBe 111 = .ok (.ifCond .ne 7, 3)) ∧ (decode cX3_canBe 114 = .ok (.iconst 1, 1)) := by decide +kernel
theorem dX3_canBe_86 : decode cX3_canBe 86 = .ok (.getfield 21, 3) := dg_cX3_canBe_60.1
theorem dX3_canBe_89 : decode cX3_canBe 89 = .ok (.getfield 38, 3) := dg_cX3_canBe_60.2.1
theorem dX3_canBe_92 : decode cX3_canBe 92 = .ok (.iload 4, 2) := dg_cX3_canBe_60.2.2.1
theorem dX3_canBe_94 : decode cX3_canBe 94 = .ok (.iaload, 1) := dg_cX3_canBe_60.2.2.2.1
theorem dX3_canBe_95 : decode cX3_canBe 95 = .ok (.ishl, 1) := dg_cX3_canBe_60.2.2.2.2.1
theorem dX3_canBe_96 : decode cX3_canBe 96 = .ok (.ior, 1) := dg_cX3_canBe_60.2.2.2.2.2.1
theorem dX3_canBe_97 : decode cX3_canBe 97 = .ok (.istore_n 2, 1) := dg_cX3_canBe_60.2.2.2.2.2.2.1
theorem dX3_canBe_98 : decode cX3_canBe 98 = .ok (.iinc 3 1, 3) := dg_cX3_canBe_60.2.2.2.2.2.2.2.1
theorem dX3_canBe_101 : decode cX3_canBe 101 = .ok (.goto (-76), 3) := dg_cX3_canBe_60.2.2.2.2.2.2.2.2.1
theorem dX3_canBe_104 : decode cX3_canBe 104 = .ok (.iload_n 2, 1) := dg_cX3_canBe_60.2.2.2.2.2.2.2.2.2.1
theorem dX3_canBe_105 : decode cX3_canBe 105 = .ok (.aload_n 0, 1) := dg_cX3_canBe_60.2.2.2.2.2.2.2.2.2.2.1
theorem dX3_canBe_106 : decode cX3_canBe 106 = .ok (.iload_n 1, 1) := dg_cX3_canBe_60.2.2.2.2.2.2.2.2.2.2.2.1
theorem dX3_canBe_107 : decode cX3_canBe 107 = .ok (.invokevirtual 41, 3) := dg_cX3_canBe_60.2.2.2.2.2.2.2.2.2.2.2.2.1
theorem dX3_canBe_110 : decode cX3_canBe 110 = .ok (.iand, 1) := dg_cX3_canBe_60.2.2.2.2.2.2.2.2.2.2.2.2.2.1
theorem dX3_canBe_111 : decode cX3_canBe 111 = .ok (.ifCond .ne 7, 3) := dg_cX3_canBe_60.2.2.2.2.2.2.2.2.2.2.2.2.2.2.1
theorem dX3_canBe_114 : decode cX3_canBe 114 = .ok (.iconst 1, 1) := dg_cX3_canBe_60.2.2.2.2.2.2.2.2.2.2.2.2.2.2.2
set_option maxRecDepth 100000 in
theorem dg_cX3_canBe_61 : (decode cX3_canBe 115 = .ok (.goto 4, 3)) ∧ (decode cX3_canBe 118 = .ok (.iconst 0, 1)) ∧ (decode cX3_canBe 119 = .ok (.ireturn, 1)) := by decide +kernel
theorem dX3_canBe_115 : decode cX3_canBe 115 = .ok (.goto 4, 3) := dg_cX3_canBe_61.1
theorem dX3_canBe_118 : decode cX3_canBe 118 = .ok (.iconst 0, 1) := dg_cX3_canBe_61.2.1
theorem dX3_canBe_119 : decode cX3_canBe 119 = .ok (.ireturn, 1) := dg_cX3_canBe_61.2.2
set_option maxRecDepth 100000 in
theorem dg_cX3_compareAll_62 : (decode cX3_compareAll 0 = .ok (.aload_n 0, 1)) ∧ (decode cX3_compareAll 1 = .ok (.iconst 0, 1)) ∧ (decode cX3_compareAll 2 = .ok (.putfield 45, 3)) ∧ (decode cX3_compareAll 5 = .ok (.iconst 0, 1)) ∧ (decode cX3_compareAll 6 = .ok (.istore_n 1, 1)) ∧ (decode cX3_compareAll 7 = .ok (.iload_n 1, 1)) ∧ (decode cX3_compareAll 8 = .ok (.aload_n 0, 1)) ∧ (decode cX3_compareAll 9 = .ok (.getfield 9, 3)) ∧ (decode cX3_compareAll 12 = .ok (.getfield 48, 3)) ∧ (decode cX3_compareAll 15 = .ok (.if_icmp .ge 22, 3)) ∧ (decode cX3_compareAll 18 = .ok (.aload_n 0, 1)) ∧ (decode cX3_compareAll 19 = .ok (.iload_n 1, 1)) ∧ (decode cX3_compareAll 20 = .ok (.invokevirtual 51, 3)) ∧ (decode cX3_compareAll 23 = .ok (.ifCond .eq 8, 3)) ∧ (decode cX3_compareAll 26 = .ok (.aload_n 0, 1)) ∧ (decode cX3_compareAll 27 = .ok (.iload_n 1, 1)) := by decide +kernel
theorem dX3_compareAll_0 : decode cX3_compareAll 0 = .ok (.aload_n 0, 1) := dg_cX3_compareAll_62.1
theorem dX3_compareAll_1 : decode cX3_compareAll 1 = .ok (.iconst 0, 1) := dg_cX3_compareAll_62.2.1
theorem dX3_compareAll_2 : decode cX3_compareAll 2 = .ok (.putfield 45, 3) := dg_cX3_compareAll_62.2.2.1
theorem dX3_compareAll_5 : decode cX3_compareAll 5 = .ok (.iconst 0, 1) := dg_cX3_compareAll_62.2.2.2.1
theorem dX3_compareAll_6 : decode cX3_compareAll 6 = .ok (.istore_n 1, 1) := dg_cX3_compareAll_62.2.2.2.2.1
theorem dX3_compareAll_7 : decode cX3_compareAll 7 = .ok (.iload_n 1, 1) := dg_cX3_compareAll_62.2.2.2.2.2.1
theorem dX3_compareAll_8 : decode cX3_compareAll 8 = .ok (.aload_n 0, 1) := dg_cX3_compareAll_62.2.2.2.2.2.2.1
theorem dX3_compareAll_9 : decode cX3_compareAll 9 = .ok (.getfield 9, 3) := dg_cX3_compareAll_62.2.2.2.2.2.2.2.1
theorem dX3_compareAll_12 : decode cX3_compareAll 12 = .ok (.getfield 48, 3) := dg_cX3_compareAll_62.2.2.2.2.2.2.2.2.1
theorem dX3_compareAll_15 : decode cX3_compareAll 15 = .ok (.if_icmp .ge 22, 3) := dg_cX3_compareAll_62.2.2.2.2.2.2.2.2.2.1
theorem dX3_compareAll_18 : decode cX3_compareAll 18 = .ok (.aload_n 0, 1) := dg_cX3_compareAll_62.2.2.2.2.2.2.2.2.2.2.1
theorem dX3_compareAll_19 : decode cX3_compareAll 19 = .ok (.iload_n 1, 1) := dg_cX3_compareAll_62.2.2.2.2.2.2.2.2.2.2.2.1
theorem dX3_compareAll_20 : decode cX3_compareAll 20 = .ok (.invokevirtual 51, 3) := dg_cX3_compareAll_62.2.2.2.2.2.2.2.2.2.2.2.2.1
theorem dX3_compareAll_23 : decode cX3_compareAll 23 = .ok (.ifCond .eq 8, 3) := dg_cX3_compareAll_62.2.2.2.2.2.2.2.2.2.2.2.2.2.1
theorem dX3_compareAll_26 : decode cX3_compareAll 26 = .ok (.aload_n 0, 1) := dg_cX3_compareAll_62.2.2.2.2.2.2.2.2.2.2.2.2.2.2.1
theorem dX3_compareAll_27 : decode cX3_compareAll 27 = .ok (.iload_n 1, 1) := dg_cX3_compareAll_62.2.2.2.2.2.2.2.2.2.2.2.2.2.2.2
set_option maxRecDepth 100000 in
theorem dg_cX3_compareAll_63 : (decode cX3_compareAll 28 = .ok (.invokevirtual 55, 3)) ∧ (decode cX3_compareAll 31 = .ok (.iinc 1 1, 3)) ∧ (decode cX3_compareAll 34 = .ok (.goto (-27), 3)) ∧ (decode cX3_compareAll 37 = .ok (.return_, 1)) := by decide +kernel
theorem dX3_compareAll_28 : decode cX3_compareAll 28 = .ok (.invokevirtual 55, 3) := dg_cX3_compareAll_63.1
theorem dX3_compareAll_31 : decode cX3_compareAll 31 = .ok (.iinc 1 1, 3) := dg_cX3_compareAll_63.2.1
theorem dX3_compareAll_34 : decode cX3_compareAll 34 = .ok (.goto (-27), 3) := dg_cX3_compareAll_63.2.2.1
theorem dX3_compareAll_37 : decode cX3_compareAll 37 = .ok (.return_, 1) := dg_cX3_compareAll_63.2.2.2
set_option maxRecDepth 100000 in
theorem dg_cX3_addFitting_64 : (decode cX3_addFitting 0 = .ok (.aload_n 0, 1)) ∧ (decode cX3_addFitting 1 = .ok (.iload_n 1, 1)) ∧ (decode cX3_addFitting 2 = .ok (.invokevirtual 41, 3)) ∧ (decode cX3_addFitting 5 = .ok (.istore_n 2, 1)) ∧ (decode cX3_addFitting 6 = .ok (.aload_n 0, 1)) ∧ (decode cX3_addFitting 7 = .ok (.getfield 45, 3)) ∧ (decode cX3_addFitting 10 = .ok (.ifCond .ne 18, 3)) ∧ (decode cX3_addFitting 13 = .ok (.aload_n 0, 1)) ∧ (decode cX3_addFitting 14 = .ok (.iload_n 1, 1)) ∧ (decode cX3_addFitting 15 = .ok (.putfield 59, 3)) ∧ (decode cX3_addFitting 18 = .ok (.aload_n 0, 1)) ∧ (decode cX3_addFitting 19 = .ok (.iload_n 2, 1)) ∧ (decode cX3_addFitting 20 = .ok (.putfield 62, 3)) ∧ (decode cX3_addFitting 23 = .ok (.aload_n 0, 1)) ∧ (decode cX3_addFitting 24 = .ok (.iload_n 2, 1)) ∧ (decode cX3_addFitting 25 = .ok (.putfield 65, 3)) := by decide +kernel
theorem dX3_addFitting_0 : decode cX3_addFitting 0 = .ok (.aload_n 0, 1) := dg_cX3_addFitting_64.1
theorem dX3_addFitting_1 : decode cX3_addFitting 1 = .ok (.iload_n 1, 1) := dg_cX3_addFitting_64.2.1
theorem dX3_addFitting_2 : decode cX3_addFitting 2 = .ok (.invokevirtual 41, 3) := dg_cX3_addFitting_64.2.2.1
theorem dX3_addFitting_5 : decode cX3_addFitting 5 = .ok (.istore_n 2, 1) := dg_cX3_addFitting_64.2.2.2.1
theorem dX3_addFitting_6 : decode cX3_addFitting 6 = .ok (.aload_n 0, 1) := dg_cX3_addFitting_64.2.2.2.2.1
theorem dX3_addFitting_7 : decode cX3_addFitting 7 = .ok (.getfield 45, 3) := dg_cX3_addFitting_64.2.2.2.2.2.1
theorem dX3_addFitting_10 : decode cX3_addFitting 10 = .ok (.ifCond .ne 18, 3) := dg_cX3_addFitting_64.2.2.2.2.2.2.1
theorem dX3_addFitting_13 : decode cX3_addFitting 13 = .ok (.aload_n 0, 1) := dg_cX3_addFitting_64.2.2.2.2.2.2.2.1
theorem dX3_addFitting_14 : decode cX3_addFitting 14 = .ok (.iload_n 1, 1) := dg_cX3_addFitting_64.2.2.2.2.2.2.2.2.1
theorem dX3_addFitting_15 : decode cX3_addFitting 15 = .ok (.putfield 59, 3) := dg_cX3_addFitting_64.2.2.2.2.2.2.2.2.2.1
theorem dX3_addFitting_18 : decode cX3_addFitting 18 = .ok (.aload_n 0, 1) := dg_cX3_addFitting_64.2.2.2.2.2.2.2.2.2.2.1
theorem dX3_addFitting_19 : decode cX3_addFitting 19 = .ok (.iload_n 2, 1) := dg_cX3_addFitting_64.2.2.2.2.2.2.2.2.2.2.2.1
theorem dX3_addFitting_20 : decode cX3_addFitting 20 = .ok (.putfield 62, 3) := dg_cX3_addFitting_64.2.2.2.2.2.2.2.2.2.2.2.2.1
theorem dX3_addFitting_23 : decode cX3_addFitting 23 = .ok (.aload_n 0, 1) := dg_cX3_addFitting_64.2.2.2.2.2.2.2.2.2.2.2.2.2.1
theorem dX3_addFitting_24 : decode cX3_addFitting 24 = .ok (.iload_n 2, 1) := dg_cX3_addFitting_64.2.2.2.2.2.2.2.2.2.2.2.2.2.2.1
theorem dX3_addFitting_25 : decode cX3_addFitting 25 = .ok (.putfield 65, 3) := dg_cX3_addFitting_64.2.2.2.2.2.2.2.2.2.2.2.2.2.2.2
set_option maxRecDepth 100000 in
theorem dg_cX3_addFitting_65 : (decode cX3_addFitting 28 = .ok (.aload_n 0, 1)) ∧ (decode cX3_addFitting 29 = .ok (.dup, 1)) ∧ (decode cX3_addFitting 30 = .ok (.getfield 65, 3)) ∧ (decode cX3_addFitting 33 = .ok (.iload_n 2, 1)) ∧ (decode cX3_addFitting 34 = .ok (.iand, 1)) ∧ (decode cX3_addFitting 35 = .ok (.putfield 65, 3)) ∧ (decode cX3_addFitting 38 = .ok (.aload_n 0, 1)) ∧ (decode cX3_addFitting 39 = .ok (.dup, 1)) ∧ (decode cX3_addFitting 40 = .ok (.getfield 45, 3)) ∧ (decode cX3_addFitting 43 = .ok (.iconst 1, 1)) ∧ (decode cX3_addFitting 44 = .ok (.iadd, 1)) ∧ (decode cX3_addFitting 45 = .ok (.putfield 45, 3)) ∧ (decode cX3_addFitting 48 = .ok (.return_, 1)) := by decide +kernel
theorem dX3_addFitting_28 : decode cX3_addFitting 28 = .ok (.aload_n 0, 1) := dg_cX3_addFitting_65.1
theorem dX3_addFitting_29 : decode cX3_addFitting 29 = .ok (.dup, 1) := dg_cX3_addFitting_65.2.1
theorem dX3_addFitting_30 : decode cX3_addFitting 30 = .ok (.getfield 65, 3) := dg_cX3_addFitting_65.2.2.1
theorem dX3_addFitting_33 : decode cX3_addFitting 33 = .ok (.iload_n 2, 1) := dg_cX3_addFitting_65.2.2.2.1
theorem dX3_addFitting_34 : decode cX3_addFitting 34 = .ok (.iand, 1) := dg_cX3_addFitting_65.2.2.2.2.1
theorem dX3_addFitting_35 : decode cX3_addFitting 35 = .ok (.putfield 65, 3) := dg_cX3_addFitting_65.2.2.2.2.2.1
theorem dX3_addFitting_38 : decode cX3_addFitting 38 = .ok (.aload_n 0, 1) := dg_cX3_addFitting_65.2.2.2.2.2.2.1
theorem dX3_addFitting_39 : decode cX3_addFitting 39 = .ok (.dup, 1) := dg_cX3_addFitting_65.2.2.2.2.2.2.2.1
theorem dX3_addFitting_40 : decode cX3_addFitting 40 = .ok (.getfield 45, 3) := dg_cX3_addFitting_65.2.2.2.2.2.2.2.2.1
theorem dX3_addFitting_43 : decode cX3_addFitting 43 = .ok (.iconst 1, 1) := dg_cX3_addFitting_65.2.2.2.2.2.2.2.2.2.1
theorem dX3_addFitting_44 : decode cX3_addFitting 44 = .ok (.iadd, 1) := dg_cX3_addFitting_65.2.2.2.2.2.2.2.2.2.2.1
theorem dX3_addFitting_45 : decode cX3_addFitting 45 = .ok (.putfield 45, 3) := dg_cX3_addFitting_65.2.2.2.2.2.2.2.2.2.2.2.1
theorem dX3_addFitting_48 : decode cX3_addFitting 48 = .ok (.return_, 1) := dg_cX3_addFitting_65.2.2.2.2.2.2.2.2.2.2.2.2
set_option maxRecDepth 100000 in
theorem dg_cX3_refusedBy_66 : (decode cX3_refusedBy 0 = .ok (.iconst 0, 1)) ∧ (decode cX3_refusedBy 1 = .ok (.istore_n 2, 1)) ∧ (decode cX3_refusedBy 2 = .ok (.iconst 0, 1)) ∧ (decode cX3_refusedBy 3 = .ok (.istore_n 3, 1)) ∧ (decode cX3_refusedBy 4 = .ok (.iload_n 3, 1)) ∧ (decode cX3_refusedBy 5 = .ok (.aload_n 0, 1)) ∧ (decode cX3_refusedBy 6 = .ok (.getfield 21, 3)) ∧ (decode cX3_refusedBy 9 = .ok (.getfield 22, 3)) ∧ (decode cX3_refusedBy 12 = .ok (.if_icmp .ge 47, 3)) ∧ (decode cX3_refusedBy 15 = .ok (.aload_n 0, 1)) ∧ (decode cX3_refusedBy 16 = .ok (.getfield 21, 3)) ∧ (decode cX3_refusedBy 19 = .ok (.getfield 32, 3)) ∧ (decode cX3_refusedBy 22 = .ok (.iload_n 3, 1)) ∧ (decode cX3_refusedBy 23 = .ok (.iaload, 1)) ∧ (decode cX3_refusedBy 24 = .ok (.bipush (-4), 2)) ∧ (decode cX3_refusedBy 26 = .ok (.if_icmp .ne 27, 3)) := by decide +kernel
theorem dX3_refusedBy_0 : decode cX3_refusedBy 0 = .ok (.iconst 0, 1) := dg_cX3_refusedBy_66.1
theorem dX3_refusedBy_1 : decode cX3_refusedBy 1 = .ok (.istore_n 2, 1) := dg_cX3_refusedBy_66.2.1
theorem dX3_refusedBy_2 : decode cX3_refusedBy 2 = .ok (.iconst 0, 1) := dg_cX3_refusedBy_66.2.2.1
theorem dX3_refusedBy_3 : decode cX3_refusedBy 3 = .ok (.istore_n 3, 1) := dg_cX3_refusedBy_66.2.2.2.1
theorem dX3_refusedBy_4 : decode cX3_refusedBy 4 = .ok (.iload_n 3, 1) := dg_cX3_refusedBy_66.2.2.2.2.1
theorem dX3_refusedBy_5 : decode cX3_refusedBy 5 = .ok (.aload_n 0, 1) := dg_cX3_refusedBy_66.2.2.2.2.2.1
theorem dX3_refusedBy_6 : decode cX3_refusedBy 6 = .ok (.getfield 21, 3) := dg_cX3_refusedBy_66.2.2.2.2.2.2.1
theorem dX3_refusedBy_9 : decode cX3_refusedBy 9 = .ok (.getfield 22, 3) := dg_cX3_refusedBy_66.2.2.2.2.2.2.2.1
theorem dX3_refusedBy_12 : decode cX3_refusedBy 12 = .ok (.if_icmp .ge 47, 3) := dg_cX3_refusedBy_66.2.2.2.2.2.2.2.2.1
theorem dX3_refusedBy_15 : decode cX3_refusedBy 15 = .ok (.aload_n 0, 1) := dg_cX3_refusedBy_66.2.2.2.2.2.2.2.2.2.1
theorem dX3_refusedBy_16 : decode cX3_refusedBy 16 = .ok (.getfield 21, 3) := dg_cX3_refusedBy_66.2.2.2.2.2.2.2.2.2.2.1
theorem dX3_refusedBy_19 : decode cX3_refusedBy 19 = .ok (.getfield 32, 3) := dg_cX3_refusedBy_66.2.2.2.2.2.2.2.2.2.2.2.1
theorem dX3_refusedBy_22 : decode cX3_refusedBy 22 = .ok (.iload_n 3, 1) := dg_cX3_refusedBy_66.2.2.2.2.2.2.2.2.2.2.2.2.1
theorem dX3_refusedBy_23 : decode cX3_refusedBy 23 = .ok (.iaload, 1) := dg_cX3_refusedBy_66.2.2.2.2.2.2.2.2.2.2.2.2.2.1
theorem dX3_refusedBy_24 : decode cX3_refusedBy 24 = .ok (.bipush (-4), 2) := dg_cX3_refusedBy_66.2.2.2.2.2.2.2.2.2.2.2.2.2.2.1
theorem dX3_refusedBy_26 : decode cX3_refusedBy 26 = .ok (.if_icmp .ne 27, 3) := dg_cX3_refusedBy_66.2.2.2.2.2.2.2.2.2.2.2.2.2.2.2
set_option maxRecDepth 100000 in
theorem dg_cX3_refusedBy_67 : (decode cX3_refusedBy 29 = .ok (.iload_n 2, 1)) ∧ (decode cX3_refusedBy 30 = .ok (.iconst 1, 1)) ∧ (decode cX3_refusedBy 31 = .ok (.aload_n 0, 1)) ∧ (decode cX3_refusedBy 32 = .ok (.getfield 21, 3)) ∧ (decode cX3_refusedBy 35 = .ok (.getfield 38, 3)) ∧ (decode cX3_refusedBy 38 = .ok (.aload_n 0, 1)) ∧ (decode cX3_refusedBy 39 = .ok (.getfield 9, 3)) ∧ (decode cX3_refusedBy 42 = .ok (.getfield 35, 3)) ∧ (decode cX3_refusedBy 45 = .ok (.iload_n 1, 1)) ∧ (decode cX3_refusedBy 46 = .ok (.aaload, 1)) ∧ (decode cX3_refusedBy 47 = .ok (.iload_n 3, 1)) ∧ (decode cX3_refusedBy 48 = .ok (.iaload, 1)) ∧ (decode cX3_refusedBy 49 = .ok (.iaload, 1)) ∧ (decode cX3_refusedBy 50 = .ok (.ishl, 1)) ∧ (decode cX3_refusedBy 51 = .ok (.ior, 1)) ∧ (decode cX3_refusedBy 52 = .ok (.istore_n 2, 1)) := by decide +kernel
theorem dX3_refusedBy_29 : decode cX3_refusedBy 29 = .ok (.iload_n 2, 1) := dg_cX3_refusedBy_67.1
theorem dX3_refusedBy_30 : decode cX3_refusedBy 30 = .ok (.iconst 1, 1) := dg_cX3_refusedBy_67.2.1
theorem dX3_refusedBy_31 : decode cX3_refusedBy 31 = .ok (.aload_n 0, 1) := dg_cX3_refusedBy_67.2.2.1
theorem dX3_refusedBy_32 : decode cX3_refusedBy 32 = .ok (.getfield 21, 3) := dg_cX3_refusedBy_67.2.2.2.1
theorem dX3_refusedBy_35 : decode cX3_refusedBy 35 = .ok (.getfield 38, 3) := dg_cX3_refusedBy_67.2.2.2.2.1
theorem dX3_refusedBy_38 : decode cX3_refusedBy 38 = .ok (.aload_n 0, 1) := dg_cX3_refusedBy_67.2.2.2.2.2.1
theorem dX3_refusedBy_39 : decode cX3_refusedBy 39 = .ok (.getfield 9, 3) := dg_cX3_refusedBy_67.2.2.2.2.2.2.1
theorem dX3_refusedBy_42 : decode cX3_refusedBy 42 = .ok (.getfield 35, 3) := dg_cX3_refusedBy_67.2.2.2.2.2.2.2.1
theorem dX3_refusedBy_45 : decode cX3_refusedBy 45 = .ok (.iload_n 1, 1) := dg_cX3_refusedBy_67.2.2.2.2.2.2.2.2.1
theorem dX3_refusedBy_46 : decode cX3_refusedBy 46 = .ok (.aaload, 1) := dg_cX3_refusedBy_67.2.2.2.2.2.2.2.2.2.1
theorem dX3_refusedBy_47 : decode cX3_refusedBy 47 = .ok (.iload_n 3, 1) := dg_cX3_refusedBy_67.2.2.2.2.2.2.2.2.2.2.1
theorem dX3_refusedBy_48 : decode cX3_refusedBy 48 = .ok (.iaload, 1) := dg_cX3_refusedBy_67.2.2.2.2.2.2.2.2.2.2.2.1
theorem dX3_refusedBy_49 : decode cX3_refusedBy 49 = .ok (.iaload, 1) := dg_cX3_refusedBy_67.2.2.2.2.2.2.2.2.2.2.2.2.1
theorem dX3_refusedBy_50 : decode cX3_refusedBy 50 = .ok (.ishl, 1) := dg_cX3_refusedBy_67.2.2.2.2.2.2.2.2.2.2.2.2.2.1
theorem dX3_refusedBy_51 : decode cX3_refusedBy 51 = .ok (.ior, 1) := dg_cX3_refusedBy_67.2.2.2.2.2.2.2.2.2.2.2.2.2.2.1
theorem dX3_refusedBy_52 : decode cX3_refusedBy 52 = .ok (.istore_n 2, 1) := dg_cX3_refusedBy_67.2.2.2.2.2.2.2.2.2.2.2.2.2.2.2
set_option maxRecDepth 100000 in
theorem dg_cX3_refusedBy_68 : (decode cX3_refusedBy 53 = .ok (.iinc 3 1, 3)) ∧ (decode cX3_refusedBy 56 = .ok (.goto (-52), 3)) ∧ (decode cX3_refusedBy 59 = .ok (.iload_n 2, 1)) ∧ (decode cX3_refusedBy 60 = .ok (.ireturn, 1)) := by decide +kernel
theorem dX3_refusedBy_53 : decode cX3_refusedBy 53 = .ok (.iinc 3 1, 3) := dg_cX3_refusedBy_68.1
theorem dX3_refusedBy_56 : decode cX3_refusedBy 56 = .ok (.goto (-52), 3) := dg_cX3_refusedBy_68.2.1
theorem dX3_refusedBy_59 : decode cX3_refusedBy 59 = .ok (.iload_n 2, 1) := dg_cX3_refusedBy_68.2.2.1
theorem dX3_refusedBy_60 : decode cX3_refusedBy 60 = .ok (.ireturn, 1) := dg_cX3_refusedBy_68.2.2.2
set_option maxRecDepth 100000 in
theorem dg_cX4_init_69 : (decode cX4_init 0 = .ok (.aload_n 0, 1)) ∧ (decode cX4_init 1 = .ok (.invokespecial 3, 3)) ∧ (decode cX4_init 4 = .ok (.aload_n 0, 1)) ∧ (decode cX4_init 5 = .ok (.bipush 12, 2)) ∧ (decode cX4_init 7 = .ok (.bipush 12, 2)) ∧ (decode cX4_init 9 = .ok (.multianewarray 9 2, 4)) ∧ (decode cX4_init 13 = .ok (.putfield 11, 3)) ∧ (decode cX4_init 16 = .ok (.aload_n 0, 1)) ∧ (decode cX4_init 17 = .ok (.bipush 12, 2)) ∧ (decode cX4_init 19 = .ok (.newarray .int, 2)) ∧ (decode cX4_init 21 = .ok (.putfield 16, 3)) ∧ (decode cX4_init 24 = .ok (.aload_n 0, 1)) ∧ (decode cX4_init 25 = .ok (.aload_n 1, 1)) ∧ (decode cX4_init 26 = .ok (.putfield 20, 3)) ∧ (decode cX4_init 29 = .ok (.aload_n 0, 1)) ∧ (decode cX4_init 30 = .ok (.aload_n 1, 1)) := by decide +kernel
theorem dX4_init_0 : decode cX4_init 0 = .ok (.aload_n 0, 1) := dg_cX4_init_69.1
theorem dX4_init_1 : decode cX4_init 1 = .ok (.invokespecial 3, 3) := dg_cX4_init_69.2.1
theorem dX4_init_4 : decode cX4_init 4 = .ok (.aload_n 0, 1) := dg_cX4_init_69.2.2.1
theorem dX4_init_5 : decode cX4_init 5 = .ok (.bipush 12, 2) := dg_cX4_init_69.2.2.2.1
theorem dX4_init_7 : decode cX4_init 7 = .ok (.bipush 12, 2) := dg_cX4_init_69.2.2.2.2.1
theorem dX4_init_9 : decode cX4_init 9 = .ok (.multianewarray 9 2, 4) := dg_cX4_init_69.2.2.2.2.2.1
theorem dX4_init_13 : decode cX4_init 13 = .ok (.putfield 11, 3) := dg_cX4_init_69.2.2.2.2.2.2.1
theorem dX4_init_16 : decode cX4_init 16 = .ok (.aload_n 0, 1) := dg_cX4_init_69.2.2.2.2.2.2.2.1
theorem dX4_init_17 : decode cX4_init 17 = .ok (.bipush 12, 2) := dg_cX4_init_69.2.2.2.2.2.2.2.2.1
theorem dX4_init_19 : decode cX4_init 19 = .ok (.newarray .int, 2) := dg_cX4_init_69.2.2.2.2.2.2.2.2.2.1
theorem dX4_init_21 : decode cX4_init 21 = .ok (.putfield 16, 3) := dg_cX4_init_69.2.2.2.2.2.2.2.2.2.2.1
theorem dX4_init_24 : decode cX4_init 24 = .ok (.aload_n 0, 1) := dg_cX4_init_69.2.2.2.2.2.2.2.2.2.2.2.1
theorem dX4_init_25 : decode cX4_init 25 = .ok (.aload_n 1, 1) := dg_cX4_init_69.2.2.2.2.2.2.2.2.2.2.2.2.1
theorem dX4_init_26 : decode cX4_init 26 = .ok (.putfield 20, 3) := dg_cX4_init_69.2.2.2.2.2.2.2.2.2.2.2.2.2.1
theorem dX4_init_29 : decode cX4_init 29 = .ok (.aload_n 0, 1) := dg_cX4_init_69.2.2.2.2.2.2.2.2.2.2.2.2.2.2.1
theorem dX4_init_30 : decode cX4_init 30 = .ok (.aload_n 1, 1) := dg_cX4_init_69.2.2.2.2.2.2.2.2.2.2.2.2.2.2.2
set_option maxRecDepth 100000 in
theorem dg_cX4_init_70 : (decode cX4_init 31 = .ok (.getfield 24, 3)) ∧ (decode cX4_init 34 = .ok (.putfield 30, 3)) ∧ (decode cX4_init 37 = .ok (.return_, 1)) := by decide +kernel
theorem dX4_init_31 : decode cX4_init 31 = .ok (.getfield 24, 3) := dg_cX4_init_70.1
theorem dX4_init_34 : decode cX4_init 34 = .ok (.putfield 30, 3) := dg_cX4_init_70.2.1
theorem dX4_init_37 : decode cX4_init 37 = .ok (.return_, 1) := dg_cX4_init_70.2.2
set_option maxRecDepth 100000 in
theorem dg_cX4_find_71 : (decode cX4_find 0 = .ok (.aload_n 0, 1)) ∧ (decode cX4_find 1 = .ok (.getfield 20, 3)) ∧ (decode cX4_find 4 = .ok (.getfield 31, 3)) ∧ (decode cX4_find 7 = .ok (.iload_n 1, 1)) ∧ (decode cX4_find 8 = .ok (.iaload, 1)) ∧ (decode cX4_find 9 = .ok (.istore_n 3, 1)) ∧ (decode cX4_find 10 = .ok (.iload_n 3, 1)) ∧ (decode cX4_find 11 = .ok (.iconst 1, 1)) ∧ (decode cX4_find 12 = .ok (.isub, 1)) ∧ (decode cX4_find 13 = .ok (.istore 4, 2)) ∧ (decode cX4_find 15 = .ok (.iload 4, 2)) ∧ (decode cX4_find 17 = .ok (.ifCond .lt 50, 3)) ∧ (decode cX4_find 20 = .ok (.iconst 0, 1)) ∧ (decode cX4_find 21 = .ok (.istore 5, 2)) ∧ (decode cX4_find 23 = .ok (.iload 5, 2)) ∧ (decode cX4_find 25 = .ok (.aload_n 0, 1)) := by decide +kernel
theorem dX4_find_0 : decode cX4_find 0 = .ok (.aload_n 0, 1) := dg_cX4_find_71.1
theorem dX4_find_1 : decode cX4_find 1 = .ok (.getfield 20, 3) := dg_cX4_find_71.2.1
theorem dX4_find_4 : decode cX4_find 4 = .ok (.getfield 31, 3) := dg_cX4_find_71.2.2.1
theorem dX4_find_7 : decode cX4_find 7 = .ok (.iload_n 1, 1) := dg_cX4_find_71.2.2.2.1
theorem dX4_find_8 : decode cX4_find 8 = .ok (.iaload, 1) := dg_cX4_find_71.2.2.2.2.1
theorem dX4_find_9 : decode cX4_find 9 = .ok (.istore_n 3, 1) := dg_cX4_find_71.2.2.2.2.2.1
theorem dX4_find_10 : decode cX4_find 10 = .ok (.iload_n 3, 1) := dg_cX4_find_71.2.2.2.2.2.2.1
theorem dX4_find_11 : decode cX4_find 11 = .ok (.iconst 1, 1) := dg_cX4_find_71.2.2.2.2.2.2.2.1
theorem dX4_find_12 : decode cX4_find 12 = .ok (.isub, 1) := dg_cX4_find_71.2.2.2.2.2.2.2.2.1
theorem dX4_find_13 : decode cX4_find 13 = .ok (.istore 4, 2) := dg_cX4_find_71.2.2.2.2.2.2.2.2.2.1
theorem dX4_find_15 : decode cX4_find 15 = .ok (.iload 4, 2) := dg_cX4_find_71.2.2.2.2.2.2.2.2.2.2.1
theorem dX4_find_17 : decode cX4_find 17 = .ok (.ifCond .lt 50, 3) := dg_cX4_find_71.2.2.2.2.2.2.2.2.2.2.2.1
theorem dX4_find_20 : decode cX4_find 20 = .ok (.iconst 0, 1) := dg_cX4_find_71.2.2.2.2.2.2.2.2.2.2.2.2.1
theorem dX4_find_21 : decode cX4_find 21 = .ok (.istore 5, 2) := dg_cX4_find_71.2.2.2.2.2.2.2.2.2.2.2.2.2.1
theorem dX4_find_23 : decode cX4_find 23 = .ok (.iload 5, 2) := dg_cX4_find_71.2.2.2.2.2.2.2.2.2.2.2.2.2.2.1
theorem dX4_find_25 : decode cX4_find 25 = .ok (.aload_n 0, 1) := dg_cX4_find_71.2.2.2.2.2.2.2.2.2.2.2.2.2.2.2
set_option maxRecDepth 100000 in
theorem dg_cX4_find_72 : (decode cX4_find 26 = .ok (.getfield 30, 3)) ∧ (decode cX4_find 29 = .ok (.getfield 34, 3)) ∧ (decode cX4_find 32 = .ok (.if_icmp .ge 29, 3)) ∧ (decode cX4_find 35 = .ok (.aload_n 0, 1)) ∧ (decode cX4_find 36 = .ok (.getfield 11, 3)) ∧ (decode cX4_find 39 = .ok (.iload 4, 2)) ∧ (decode cX4_find 41 = .ok (.aaload, 1)) ∧ (decode cX4_find 42 = .ok (.iload 5, 2)) ∧ (decode cX4_find 44 = .ok (.aload_n 0, 1)) ∧ (decode cX4_find 45 = .ok (.iload_n 1, 1)) ∧ (decode cX4_find 46 = .ok (.iload 4, 2)) ∧ (decode cX4_find 48 = .ok (.iload 5, 2)) ∧ (decode cX4_find 50 = .ok (.iload_n 2, 1)) ∧ (decode cX4_find 51 = .ok (.invokevirtual 40, 3)) ∧ (decode cX4_find 54 = .ok (.iastore, 1)) ∧ (decode cX4_find 55 = .ok (.iinc 5 1, 3)) := by decide +kernel
theorem dX4_find_26 : decode cX4_find 26 = .ok (.getfield 30, 3) := dg_cX4_find_72.1
theorem dX4_find_29 : decode cX4_find 29 = .ok (.getfield 34, 3) := dg_cX4_find_72.2.1
theorem dX4_find_32 : decode cX4_find 32 = .ok (.if_icmp .ge 29, 3) := dg_cX4_find_72.2.2.1
theorem dX4_find_35 : decode cX4_find 35 = .ok (.aload_n 0, 1) := dg_cX4_find_72.2.2.2.1
theorem dX4_find_36 : decode cX4_find 36 = .ok (.getfield 11, 3) := dg_cX4_find_72.2.2.2.2.1
theorem dX4_find_39 : decode cX4_find 39 = .ok (.iload 4, 2) := dg_cX4_find_72.2.2.2.2.2.1
theorem dX4_find_41 : decode cX4_find 41 = .ok (.aaload, 1) := dg_cX4_find_72.2.2.2.2.2.2.1
theorem dX4_find_42 : decode cX4_find 42 = .ok (.iload 5, 2) := dg_cX4_find_72.2.2.2.2.2.2.2.1
theorem dX4_find_44 : decode cX4_find 44 = .ok (.aload_n 0, 1) := dg_cX4_find_72.2.2.2.2.2.2.2.2.1
theorem dX4_find_45 : decode cX4_find 45 = .ok (.iload_n 1, 1) := dg_cX4_find_72.2.2.2.2.2.2.2.2.2.1
theorem dX4_find_46 : decode cX4_find 46 = .ok (.iload 4, 2) := dg_cX4_find_72.2.2.2.2.2.2.2.2.2.2.1
theorem dX4_find_48 : decode cX4_find 48 = .ok (.iload 5, 2) := dg_cX4_find_72.2.2.2.2.2.2.2.2.2.2.2.1
theorem dX4_find_50 : decode cX4_find 50 = .ok (.iload_n 2, 1) := dg_cX4_find_72.2.2.2.2.2.2.2.2.2.2.2.2.1
theorem dX4_find_51 : decode cX4_find 51 = .ok (.invokevirtual 40, 3) := dg_cX4_find_72.2.2.2.2.2.2.2.2.2.2.2.2.2.1
theorem dX4_find_54 : decode cX4_find 54 = .ok (.iastore, 1) := dg_cX4_find_72.2.2.2.2.2.2.2.2.2.2.2.2.2.2.1
theorem dX4_find_55 : decode cX4_find 55 = .ok (.iinc 5 1, 3) := dg_cX4_find_72.2.2.2.2.2.2.2.2.2.2.2.2.2.2.2
set_option maxRecDepth 100000 in
theorem dg_cX4_find_73 : (decode cX4_find 58 = .ok (.goto (-35), 3)) ∧ (decode cX4_find 61 = .ok (.iinc 4 (-1), 3)) ∧ (decode cX4_find 64 = .ok (.goto (-49), 3)) ∧ (decode cX4_find 67 = .ok (.aload_n 0, 1)) ∧ (decode cX4_find 68 = .ok (.iconst 0, 1)) ∧ (decode cX4_find 69 = .ok (.bipush (-4), 2)) ∧ (decode cX4_find 71 = .ok (.invokevirtual 44, 3)) ∧ (decode cX4_find 74 = .ok (.istore 4, 2)) ∧ (decode cX4_find 76 = .ok (.aload_n 0, 1)) ∧ (decode cX4_find 77 = .ok (.iload 4, 2)) ∧ (decode cX4_find 79 = .ok (.bipush (-4), 2)) ∧ (decode cX4_find 81 = .ok (.if_icmp .ne 8, 3)) ∧ (decode cX4_find 84 = .ok (.ldc 48, 2)) ∧ (decode cX4_find 86 = .ok (.goto 12, 3)) ∧ (decode cX4_find 89 = .ok (.aload_n 0, 1)) ∧ (decode cX4_find 90 = .ok (.getfield 11, 3)) := by decide +kernel
theorem dX4_find_58 : decode cX4_find 58 = .ok (.goto (-35), 3) := dg_cX4_find_73.1
theorem dX4_find_61 : decode cX4_find 61 = .ok (.iinc 4 (-1), 3) := dg_cX4_find_73.2.1
theorem dX4_find_64 : decode cX4_find 64 = .ok (.goto (-49), 3) := dg_cX4_find_73.2.2.1
theorem dX4_find_67 : decode cX4_find 67 = .ok (.aload_n 0, 1) := dg_cX4_find_73.2.2.2.1
theorem dX4_find_68 : decode cX4_find 68 = .ok (.iconst 0, 1) := dg_cX4_find_73.2.2.2.2.1
theorem dX4_find_69 : decode cX4_find 69 = .ok (.bipush (-4), 2) := dg_cX4_find_73.2.2.2.2.2.1
theorem dX4_find_71 : decode cX4_find 71 = .ok (.invokevirtual 44, 3) := dg_cX4_find_73.2.2.2.2.2.2.1
theorem dX4_find_74 : decode cX4_find 74 = .ok (.istore 4, 2) := dg_cX4_find_73.2.2.2.2.2.2.2.1
theorem dX4_find_76 : decode cX4_find 76 = .ok (.aload_n 0, 1) := dg_cX4_find_73.2.2.2.2.2.2.2.2.1
theorem dX4_find_77 : decode cX4_find 77 = .ok (.iload 4, 2) := dg_cX4_find_73.2.2.2.2.2.2.2.2.2.1
theorem dX4_find_79 : decode cX4_find 79 = .ok (.bipush (-4), 2) := dg_cX4_find_73.2.2.2.2.2.2.2.2.2.2.1
theorem dX4_find_81 : decode cX4_find 81 = .ok (.if_icmp .ne 8, 3) := dg_cX4_find_73.2.2.2.2.2.2.2.2.2.2.2.1
theorem dX4_find_84 : decode cX4_find 84 = .ok (.ldc 48, 2) := dg_cX4_find_73.2.2.2.2.2.2.2.2.2.2.2.2.1
theorem dX4_find_86 : decode cX4_find 86 = .ok (.goto 12, 3) := dg_cX4_find_73.2.2.2.2.2.2.2.2.2.2.2.2.2.1
theorem dX4_find_89 : decode cX4_find 89 = .ok (.aload_n 0, 1) := dg_cX4_find_73.2.2.2.2.2.2.2.2.2.2.2.2.2.2.1
theorem dX4_find_90 : decode cX4_find 90 = .ok (.getfield 11, 3) := dg_cX4_find_73.2.2.2.2.2.2.2.2.2.2.2.2.2.2.2
set_option maxRecDepth 100000 in
theorem dg_cX4_find_74 : (decode cX4_find 93 = .ok (.iconst 0, 1)) ∧ (decode cX4_find 94 = .ok (.aaload, 1)) ∧ (decode cX4_find 95 = .ok (.iload 4, 2)) ∧ (decode cX4_find 97 = .ok (.iaload, 1)) ∧ (decode cX4_find 98 = .ok (.putfield 49, 3)) ∧ (decode cX4_find 101 = .ok (.aload_n 0, 1)) ∧ (decode cX4_find 102 = .ok (.getfield 16, 3)) ∧ (decode cX4_find 105 = .ok (.iconst 0, 1)) ∧ (decode cX4_find 106 = .ok (.iload 4, 2)) ∧ (decode cX4_find 108 = .ok (.iastore, 1)) ∧ (decode cX4_find 109 = .ok (.iconst 1, 1)) ∧ (decode cX4_find 110 = .ok (.istore 5, 2)) ∧ (decode cX4_find 112 = .ok (.iload 5, 2)) ∧ (decode cX4_find 114 = .ok (.iload_n 3, 1)) ∧ (decode cX4_find 115 = .ok (.if_icmp .ge 31, 3)) ∧ (decode cX4_find 118 = .ok (.aload_n 0, 1)) := by decide +kernel
theorem dX4_find_93 : decode cX4_find 93 = .ok (.iconst 0, 1) := dg_cX4_find_74.1
theorem dX4_find_94 : decode cX4_find 94 = .ok (.aaload, 1) := dg_cX4_find_74.2.1
theorem dX4_find_95 : decode cX4_find 95 = .ok (.iload 4, 2) := dg_cX4_find_74.2.2.1
theorem dX4_find_97 : decode cX4_find 97 = .ok (.iaload, 1) := dg_cX4_find_74.2.2.2.1
theorem dX4_find_98 : decode cX4_find 98 = .ok (.putfield 49, 3) := dg_cX4_find_74.2.2.2.2.1
theorem dX4_find_101 : decode cX4_find 101 = .ok (.aload_n 0, 1) := dg_cX4_find_74.2.2.2.2.2.1
theorem dX4_find_102 : decode cX4_find 102 = .ok (.getfield 16, 3) := dg_cX4_find_74.2.2.2.2.2.2.1
theorem dX4_find_105 : decode cX4_find 105 = .ok (.iconst 0, 1) := dg_cX4_find_74.2.2.2.2.2.2.2.1
theorem dX4_find_106 : decode cX4_find 106 = .ok (.iload 4, 2) := dg_cX4_find_74.2.2.2.2.2.2.2.2.1
theorem dX4_find_108 : decode cX4_find 108 = .ok (.iastore, 1) := dg_cX4_find_74.2.2.2.2.2.2.2.2.2.1
theorem dX4_find_109 : decode cX4_find 109 = .ok (.iconst 1, 1) := dg_cX4_find_74.2.2.2.2.2.2.2.2.2.2.1
theorem dX4_find_110 : decode cX4_find 110 = .ok (.istore 5, 2) := dg_cX4_find_74.2.2.2.2.2.2.2.2.2.2.2.1
theorem dX4_find_112 : decode cX4_find 112 = .ok (.iload 5, 2) := dg_cX4_find_74.2.2.2.2.2.2.2.2.2.2.2.2.1
theorem dX4_find_114 : decode cX4_find 114 = .ok (.iload_n 3, 1) := dg_cX4_find_74.2.2.2.2.2.2.2.2.2.2.2.2.2.1
theorem dX4_find_115 : decode cX4_find 115 = .ok (.if_icmp .ge 31, 3) := dg_cX4_find_74.2.2.2.2.2.2.2.2.2.2.2.2.2.2.1
theorem dX4_find_118 : decode cX4_find 118 = .ok (.aload_n 0, 1) := dg_cX4_find_74.2.2.2.2.2.2.2.2.2.2.2.2.2.2.2
set_option maxRecDepth 100000 in
theorem dg_cX4_find_75 : (decode cX4_find 119 = .ok (.getfield 16, 3)) ∧ (decode cX4_find 122 = .ok (.iload 5, 2)) ∧ (decode cX4_find 124 = .ok (.aload_n 0, 1)) ∧ (decode cX4_find 125 = .ok (.iload 5, 2)) ∧ (decode cX4_find 127 = .ok (.aload_n 0, 1)) ∧ (decode cX4_find 128 = .ok (.getfield 16, 3)) ∧ (decode cX4_find 131 = .ok (.iload 5, 2)) ∧ (decode cX4_find 133 = .ok (.iconst 1, 1)) ∧ (decode cX4_find 134 = .ok (.isub, 1)) ∧ (decode cX4_find 135 = .ok (.iaload, 1)) ∧ (decode cX4_find 136 = .ok (.invokevirtual 44, 3)) ∧ (decode cX4_find 139 = .ok (.iastore, 1)) ∧ (decode cX4_find 140 = .ok (.iinc 5 1, 3)) ∧ (decode cX4_find 143 = .ok (.goto (-31), 3)) ∧ (decode cX4_find 146 = .ok (.return_, 1)) := by decide +kernel
theorem dX4_find_119 : decode cX4_find 119 = .ok (.getfield 16, 3) := dg_cX4_find_75.1
theorem dX4_find_122 : decode cX4_find 122 = .ok (.iload 5, 2) := dg_cX4_find_75.2.1
theorem dX4_find_124 : decode cX4_find 124 = .ok (.aload_n 0, 1) := dg_cX4_find_75.2.2.1
theorem dX4_find_125 : decode cX4_find 125 = .ok (.iload 5, 2) := dg_cX4_find_75.2.2.2.1
theorem dX4_find_127 : decode cX4_find 127 = .ok (.aload_n 0, 1) := dg_cX4_find_75.2.2.2.2.1
theorem dX4_find_128 : decode cX4_find 128 = .ok (.getfield 16, 3) := dg_cX4_find_75.2.2.2.2.2.1
theorem dX4_find_131 : decode cX4_find 131 = .ok (.iload 5, 2) := dg_cX4_find_75.2.2.2.2.2.2.1
theorem dX4_find_133 : decode cX4_find 133 = .ok (.iconst 1, 1) := dg_cX4_find_75.2.2.2.2.2.2.2.1
theorem dX4_find_134 : decode cX4_find 134 = .ok (.isub, 1) := dg_cX4_find_75.2.2.2.2.2.2.2.2.1
theorem dX4_find_135 : decode cX4_find 135 = .ok (.iaload, 1) := dg_cX4_find_75.2.2.2.2.2.2.2.2.2.1
theorem dX4_find_136 : decode cX4_find 136 = .ok (.invokevirtual 44, 3) := dg_cX4_find_75.2.2.2.2.2.2.2.2.2.2.1
theorem dX4_find_139 : decode cX4_find 139 = .ok (.iastore, 1) := dg_cX4_find_75.2.2.2.2.2.2.2.2.2.2.2.1
theorem dX4_find_140 : decode cX4_find 140 = .ok (.iinc 5 1, 3) := dg_cX4_find_75.2.2.2.2.2.2.2.2.2.2.2.2.1
theorem dX4_find_143 : decode cX4_find 143 = .ok (.goto (-31), 3) := dg_cX4_find_75.2.2.2.2.2.2.2.2.2.2.2.2.2.1
theorem dX4_find_146 : decode cX4_find 146 = .ok (.return_, 1) := dg_cX4_find_75.2.2.2.2.2.2.2.2.2.2.2.2.2.2
set_option maxRecDepth 100000 in
theorem dg_cX4_farFrom_76 : (decode cX4_farFrom 0 = .ok (.iload_n 3, 1)) ∧ (decode cX4_farFrom 1 = .ok (.iload 4, 2)) ∧ (decode cX4_farFrom 3 = .ok (.if_icmp .eq 15, 3)) ∧ (decode cX4_farFrom 6 = .ok (.aload_n 0, 1)) ∧ (decode cX4_farFrom 7 = .ok (.getfield 30, 3)) ∧ (decode cX4_farFrom 10 = .ok (.getfield 52, 3)) ∧ (decode cX4_farFrom 13 = .ok (.iload_n 3, 1)) ∧ (decode cX4_farFrom 14 = .ok (.iaload, 1)) ∧ (decode cX4_farFrom 15 = .ok (.ifCond .eq 6, 3)) ∧ (decode cX4_farFrom 18 = .ok (.ldc 48, 2)) ∧ (decode cX4_farFrom 20 = .ok (.ireturn, 1)) ∧ (decode cX4_farFrom 21 = .ok (.iload_n 3, 1)) ∧ (decode cX4_farFrom 22 = .ok (.aload_n 0, 1)) ∧ (decode cX4_farFrom 23 = .ok (.getfield 20, 3)) ∧ (decode cX4_farFrom 26 = .ok (.getfield 55, 3)) ∧ (decode cX4_farFrom 29 = .ok (.iload_n 1, 1)) := by decide +kernel
theorem dX4_farFrom_0 : decode cX4_farFrom 0 = .ok (.iload_n 3, 1) := dg_cX4_farFrom_76.1
theorem dX4_farFrom_1 : decode cX4_farFrom 1 = .ok (.iload 4, 2) := dg_cX4_farFrom_76.2.1
theorem dX4_farFrom_3 : decode cX4_farFrom 3 = .ok (.if_icmp .eq 15, 3) := dg_cX4_farFrom_76.2.2.1
theorem dX4_farFrom_6 : decode cX4_farFrom 6 = .ok (.aload_n 0, 1) := dg_cX4_farFrom_76.2.2.2.1
theorem dX4_farFrom_7 : decode cX4_farFrom 7 = .ok (.getfield 30, 3) := dg_cX4_farFrom_76.2.2.2.2.1
theorem dX4_farFrom_10 : decode cX4_farFrom 10 = .ok (.getfield 52, 3) := dg_cX4_farFrom_76.2.2.2.2.2.1
theorem dX4_farFrom_13 : decode cX4_farFrom 13 = .ok (.iload_n 3, 1) := dg_cX4_farFrom_76.2.2.2.2.2.2.1
theorem dX4_farFrom_14 : decode cX4_farFrom 14 = .ok (.iaload, 1) := dg_cX4_farFrom_76.2.2.2.2.2.2.2.1
theorem dX4_farFrom_15 : decode cX4_farFrom 15 = .ok (.ifCond .eq 6, 3) := dg_cX4_farFrom_76.2.2.2.2.2.2.2.2.1
theorem dX4_farFrom_18 : decode cX4_farFrom 18 = .ok (.ldc 48, 2) := dg_cX4_farFrom_76.2.2.2.2.2.2.2.2.2.1
theorem dX4_farFrom_20 : decode cX4_farFrom 20 = .ok (.ireturn, 1) := dg_cX4_farFrom_76.2.2.2.2.2.2.2.2.2.2.1
theorem dX4_farFrom_21 : decode cX4_farFrom 21 = .ok (.iload_n 3, 1) := dg_cX4_farFrom_76.2.2.2.2.2.2.2.2.2.2.2.1
theorem dX4_farFrom_22 : decode cX4_farFrom 22 = .ok (.aload_n 0, 1) := dg_cX4_farFrom_76.2.2.2.2.2.2.2.2.2.2.2.2.1
theorem dX4_farFrom_23 : decode cX4_farFrom 23 = .ok (.getfield 20, 3) := dg_cX4_farFrom_76.2.2.2.2.2.2.2.2.2.2.2.2.2.1
theorem dX4_farFrom_26 : decode cX4_farFrom 26 = .ok (.getfield 55, 3) := dg_cX4_farFrom_76.2.2.2.2.2.2.2.2.2.2.2.2.2.2.1
theorem dX4_farFrom_29 : decode cX4_farFrom 29 = .ok (.iload_n 1, 1) := dg_cX4_farFrom_76.2.2.2.2.2.2.2.2.2.2.2.2.2.2.2
set_option maxRecDepth 100000 in
theorem dg_cX4_farFrom_77 : (decode cX4_farFrom 30 = .ok (.aaload, 1)) ∧ (decode cX4_farFrom 31 = .ok (.iload_n 2, 1)) ∧ (decode cX4_farFrom 32 = .ok (.iaload, 1)) ∧ (decode cX4_farFrom 33 = .ok (.isub, 1)) ∧ (decode cX4_farFrom 34 = .ok (.invokestatic 58, 3)) ∧ (decode cX4_farFrom 37 = .ok (.istore 5, 2)) ∧ (decode cX4_farFrom 39 = .ok (.iload_n 2, 1)) ∧ (decode cX4_farFrom 40 = .ok (.iconst 1, 1)) ∧ (decode cX4_farFrom 41 = .ok (.iadd, 1)) ∧ (decode cX4_farFrom 42 = .ok (.aload_n 0, 1)) ∧ (decode cX4_farFrom 43 = .ok (.getfield 20, 3)) ∧ (decode cX4_farFrom 46 = .ok (.getfield 31, 3)) ∧ (decode cX4_farFrom 49 = .ok (.iload_n 1, 1)) ∧ (decode cX4_farFrom 50 = .ok (.iaload, 1)) ∧ (decode cX4_farFrom 51 = .ok (.if_icmp .lt 6, 3)) ∧ (decode cX4_farFrom 54 = .ok (.iload 5, 2)) := by decide +kernel
theorem dX4_farFrom_30 : decode cX4_farFrom 30 = .ok (.aaload, 1) := dg_cX4_farFrom_77.1
theorem dX4_farFrom_31 : decode cX4_farFrom 31 = .ok (.iload_n 2, 1) := dg_cX4_farFrom_77.2.1
theorem dX4_farFrom_32 : decode cX4_farFrom 32 = .ok (.iaload, 1) := dg_cX4_farFrom_77.2.2.1
theorem dX4_farFrom_33 : decode cX4_farFrom 33 = .ok (.isub, 1) := dg_cX4_farFrom_77.2.2.2.1
theorem dX4_farFrom_34 : decode cX4_farFrom 34 = .ok (.invokestatic 58, 3) := dg_cX4_farFrom_77.2.2.2.2.1
theorem dX4_farFrom_37 : decode cX4_farFrom 37 = .ok (.istore 5, 2) := dg_cX4_farFrom_77.2.2.2.2.2.1
theorem dX4_farFrom_39 : decode cX4_farFrom 39 = .ok (.iload_n 2, 1) := dg_cX4_farFrom_77.2.2.2.2.2.2.1
theorem dX4_farFrom_40 : decode cX4_farFrom 40 = .ok (.iconst 1, 1) := dg_cX4_farFrom_77.2.2.2.2.2.2.2.1
theorem dX4_farFrom_41 : decode cX4_farFrom 41 = .ok (.iadd, 1) := dg_cX4_farFrom_77.2.2.2.2.2.2.2.2.1
theorem dX4_farFrom_42 : decode cX4_farFrom 42 = .ok (.aload_n 0, 1) := dg_cX4_farFrom_77.2.2.2.2.2.2.2.2.2.1
theorem dX4_farFrom_43 : decode cX4_farFrom 43 = .ok (.getfield 20, 3) := dg_cX4_farFrom_77.2.2.2.2.2.2.2.2.2.2.1
theorem dX4_farFrom_46 : decode cX4_farFrom 46 = .ok (.getfield 31, 3) := dg_cX4_farFrom_77.2.2.2.2.2.2.2.2.2.2.2.1
theorem dX4_farFrom_49 : decode cX4_farFrom 49 = .ok (.iload_n 1, 1) := dg_cX4_farFrom_77.2.2.2.2.2.2.2.2.2.2.2.2.1
theorem dX4_farFrom_50 : decode cX4_farFrom 50 = .ok (.iaload, 1) := dg_cX4_farFrom_77.2.2.2.2.2.2.2.2.2.2.2.2.2.1
theorem dX4_farFrom_51 : decode cX4_farFrom 51 = .ok (.if_icmp .lt 6, 3) := dg_cX4_farFrom_77.2.2.2.2.2.2.2.2.2.2.2.2.2.2.1
theorem dX4_farFrom_54 : decode cX4_farFrom 54 = .ok (.iload 5, 2) := dg_cX4_farFrom_77.2.2.2.2.2.2.2.2.2.2.2.2.2.2.2
set_option maxRecDepth 100000 in
theorem dg_cX4_farFrom_78 : (decode cX4_farFrom 56 = .ok (.ireturn, 1)) ∧ (decode cX4_farFrom 57 = .ok (.aload_n 0, 1)) ∧ (decode cX4_farFrom 58 = .ok (.iload_n 2, 1)) ∧ (decode cX4_farFrom 59 = .ok (.iconst 1, 1)) ∧ (decode cX4_farFrom 60 = .ok (.iadd, 1)) ∧ (decode cX4_farFrom 61 = .ok (.iload_n 3, 1)) ∧ (decode cX4_farFrom 62 = .ok (.invokevirtual 44, 3)) ∧ (decode cX4_farFrom 65 = .ok (.istore 6, 2)) ∧ (decode cX4_farFrom 67 = .ok (.iload 6, 2)) ∧ (decode cX4_farFrom 69 = .ok (.bipush (-4), 2)) ∧ (decode cX4_farFrom 71 = .ok (.if_icmp .ne 8, 3)) ∧ (decode cX4_farFrom 74 = .ok (.ldc 48, 2)) ∧ (decode cX4_farFrom 76 = .ok (.goto 17, 3)) ∧ (decode cX4_farFrom 79 = .ok (.iload 5, 2)) ∧ (decode cX4_farFrom 81 = .ok (.aload_n 0, 1)) ∧ (decode cX4_farFrom 82 = .ok (.getfield 11, 3)) := by decide +kernel
theorem dX4_farFrom_56 : decode cX4_farFrom 56 = .ok (.ireturn, 1) := dg_cX4_farFrom_78.1
theorem dX4_farFrom_57 : decode cX4_farFrom 57 = .ok (.aload_n 0, 1) := dg_cX4_farFrom_78.2.1
theorem dX4_farFrom_58 : decode cX4_farFrom 58 = .ok (.iload_n 2, 1) := dg_cX4_farFrom_78.2.2.1
theorem dX4_farFrom_59 : decode cX4_farFrom 59 = .ok (.iconst 1, 1) := dg_cX4_farFrom_78.2.2.2.1
theorem dX4_farFrom_60 : decode cX4_farFrom 60 = .ok (.iadd, 1) := dg_cX4_farFrom_78.2.2.2.2.1
theorem dX4_farFrom_61 : decode cX4_farFrom 61 = .ok (.iload_n 3, 1) := dg_cX4_farFrom_78.2.2.2.2.2.1
theorem dX4_farFrom_62 : decode cX4_farFrom 62 = .ok (.invokevirtual 44, 3) := dg_cX4_farFrom_78.2.2.2.2.2.2.1
theorem dX4_farFrom_65 : decode cX4_farFrom 65 = .ok (.istore 6, 2) := dg_cX4_farFrom_78.2.2.2.2.2.2.2.1
theorem dX4_farFrom_67 : decode cX4_farFrom 67 = .ok (.iload 6, 2) := dg_cX4_farFrom_78.2.2.2.2.2.2.2.2.1
theorem dX4_farFrom_69 : decode cX4_farFrom 69 = .ok (.bipush (-4), 2) := dg_cX4_farFrom_78.2.2.2.2.2.2.2.2.2.1
theorem dX4_farFrom_71 : decode cX4_farFrom 71 = .ok (.if_icmp .ne 8, 3) := dg_cX4_farFrom_78.2.2.2.2.2.2.2.2.2.2.1
theorem dX4_farFrom_74 : decode cX4_farFrom 74 = .ok (.ldc 48, 2) := dg_cX4_farFrom_78.2.2.2.2.2.2.2.2.2.2.2.1
theorem dX4_farFrom_76 : decode cX4_farFrom 76 = .ok (.goto 17, 3) := dg_cX4_farFrom_78.2.2.2.2.2.2.2.2.2.2.2.2.1
theorem dX4_farFrom_79 : decode cX4_farFrom 79 = .ok (.iload 5, 2) := dg_cX4_farFrom_78.2.2.2.2.2.2.2.2.2.2.2.2.2.1
theorem dX4_farFrom_81 : decode cX4_farFrom 81 = .ok (.aload_n 0, 1) := dg_cX4_farFrom_78.2.2.2.2.2.2.2.2.2.2.2.2.2.2.1
theorem dX4_farFrom_82 : decode cX4_farFrom 82 = .ok (.getfield 11, 3) := dg_cX4_farFrom_78.2.2.2.2.2.2.2.2.2.2.2.2.2.2.2
set_option maxRecDepth 100000 in
theorem dg_cX4_farFrom_79 : (decode cX4_farFrom 85 = .ok (.iload_n 2, 1)) ∧ (decode cX4_farFrom 86 = .ok (.iconst 1, 1)) ∧ (decode cX4_farFrom 87 = .ok (.iadd, 1)) ∧ (decode cX4_farFrom 88 = .ok (.aaload, 1)) ∧ (decode cX4_farFrom 89 = .ok (.iload 6, 2)) ∧ (decode cX4_farFrom 91 = .ok (.iaload, 1)) ∧ (decode cX4_farFrom 92 = .ok (.iadd, 1)) ∧ (decode cX4_farFrom 93 = .ok (.ireturn, 1)) := by decide +kernel
theorem dX4_farFrom_85 : decode cX4_farFrom 85 = .ok (.iload_n 2, 1) := dg_cX4_farFrom_79.1
theorem dX4_farFrom_86 : decode cX4_farFrom 86 = .ok (.iconst 1, 1) := dg_cX4_farFrom_79.2.1
theorem dX4_farFrom_87 : decode cX4_farFrom 87 = .ok (.iadd, 1) := dg_cX4_farFrom_79.2.2.1
theorem dX4_farFrom_88 : decode cX4_farFrom 88 = .ok (.aaload, 1) := dg_cX4_farFrom_79.2.2.2.1
theorem dX4_farFrom_89 : decode cX4_farFrom 89 = .ok (.iload 6, 2) := dg_cX4_farFrom_79.2.2.2.2.1
theorem dX4_farFrom_91 : decode cX4_farFrom 91 = .ok (.iaload, 1) := dg_cX4_farFrom_79.2.2.2.2.2.1
theorem dX4_farFrom_92 : decode cX4_farFrom 92 = .ok (.iadd, 1) := dg_cX4_farFrom_79.2.2.2.2.2.2.1
theorem dX4_farFrom_93 : decode cX4_farFrom 93 = .ok (.ireturn, 1) := dg_cX4_farFrom_79.2.2.2.2.2.2.2
set_option maxRecDepth 100000 in
theorem dg_cX4_leastBehind_80 : (decode cX4_leastBehind 0 = .ok (.bipush (-4), 2)) ∧ (decode cX4_leastBehind 2 = .ok (.istore_n 3, 1)) ∧ (decode cX4_leastBehind 3 = .ok (.iconst 0, 1)) ∧ (decode cX4_leastBehind 4 = .ok (.istore 4, 2)) ∧ (decode cX4_leastBehind 6 = .ok (.iload 4, 2)) ∧ (decode cX4_leastBehind 8 = .ok (.aload_n 0, 1)) ∧ (decode cX4_leastBehind 9 = .ok (.getfield 30, 3)) ∧ (decode cX4_leastBehind 12 = .ok (.getfield 34, 3)) ∧ (decode cX4_leastBehind 15 = .ok (.if_icmp .ge 90, 3)) ∧ (decode cX4_leastBehind 18 = .ok (.iload_n 2, 1)) ∧ (decode cX4_leastBehind 19 = .ok (.bipush (-4), 2)) ∧ (decode cX4_leastBehind 21 = .ok (.if_icmp .eq 32, 3)) ∧ (decode cX4_leastBehind 24 = .ok (.aload_n 0, 1)) ∧ (decode cX4_leastBehind 25 = .ok (.getfield 30, 3)) ∧ (decode cX4_leastBehind 28 = .ok (.aload_n 0, 1)) ∧ (decode cX4_leastBehind 29 = .ok (.getfield 30, 3)) := by decide +kernel
theorem dX4_leastBehind_0 : decode cX4_leastBehind 0 = .ok (.bipush (-4), 2) := dg_cX4_leastBehind_80.1
theorem dX4_leastBehind_2 : decode cX4_leastBehind 2 = .ok (.istore_n 3, 1) := dg_cX4_leastBehind_80.2.1
theorem dX4_leastBehind_3 : decode cX4_leastBehind 3 = .ok (.iconst 0, 1) := dg_cX4_leastBehind_80.2.2.1
theorem dX4_leastBehind_4 : decode cX4_leastBehind 4 = .ok (.istore 4, 2) := dg_cX4_leastBehind_80.2.2.2.1
theorem dX4_leastBehind_6 : decode cX4_leastBehind 6 = .ok (.iload 4, 2) := dg_cX4_leastBehind_80.2.2.2.2.1
theorem dX4_leastBehind_8 : decode cX4_leastBehind 8 = .ok (.aload_n 0, 1) := dg_cX4_leastBehind_80.2.2.2.2.2.1
theorem dX4_leastBehind_9 : decode cX4_leastBehind 9 = .ok (.getfield 30, 3) := dg_cX4_leastBehind_80.2.2.2.2.2.2.1
theorem dX4_leastBehind_12 : decode cX4_leastBehind 12 = .ok (.getfield 34, 3) := dg_cX4_leastBehind_80.2.2.2.2.2.2.2.1
theorem dX4_leastBehind_15 : decode cX4_leastBehind 15 = .ok (.if_icmp .ge 90, 3) := dg_cX4_leastBehind_80.2.2.2.2.2.2.2.2.1
theorem dX4_leastBehind_18 : decode cX4_leastBehind 18 = .ok (.iload_n 2, 1) := dg_cX4_leastBehind_80.2.2.2.2.2.2.2.2.2.1
theorem dX4_leastBehind_19 : decode cX4_leastBehind 19 = .ok (.bipush (-4), 2) := dg_cX4_leastBehind_80.2.2.2.2.2.2.2.2.2.2.1
theorem dX4_leastBehind_21 : decode cX4_leastBehind 21 = .ok (.if_icmp .eq 32, 3) := dg_cX4_leastBehind_80.2.2.2.2.2.2.2.2.2.2.2.1
theorem dX4_leastBehind_24 : decode cX4_leastBehind 24 = .ok (.aload_n 0, 1) := dg_cX4_leastBehind_80.2.2.2.2.2.2.2.2.2.2.2.2.1
theorem dX4_leastBehind_25 : decode cX4_leastBehind 25 = .ok (.getfield 30, 3) := dg_cX4_leastBehind_80.2.2.2.2.2.2.2.2.2.2.2.2.2.1
theorem dX4_leastBehind_28 : decode cX4_leastBehind 28 = .ok (.aload_n 0, 1) := dg_cX4_leastBehind_80.2.2.2.2.2.2.2.2.2.2.2.2.2.2.1
theorem dX4_leastBehind_29 : decode cX4_leastBehind 29 = .ok (.getfield 30, 3) := dg_cX4_leastBehind_80.2.2.2.2.2.2.2.2.2.2.2.2.2.2.2
set_option maxRecDepth 100000 in
theorem dg_cX4_leastBehind_81 : (decode cX4_leastBehind 32 = .ok (.getfield 64, 3)) ∧ (decode cX4_leastBehind 35 = .ok (.iload 4, 2)) ∧ (decode cX4_leastBehind 37 = .ok (.iaload, 1)) ∧ (decode cX4_leastBehind 38 = .ok (.aload_n 0, 1)) ∧ (decode cX4_leastBehind 39 = .ok (.getfield 30, 3)) ∧ (decode cX4_leastBehind 42 = .ok (.getfield 64, 3)) ∧ (decode cX4_leastBehind 45 = .ok (.iload_n 2, 1)) ∧ (decode cX4_leastBehind 46 = .ok (.iaload, 1)) ∧ (decode cX4_leastBehind 47 = .ok (.invokevirtual 67, 3)) ∧ (decode cX4_leastBehind 50 = .ok (.ifCond .ne 7, 3)) ∧ (decode cX4_leastBehind 53 = .ok (.iconst 1, 1)) ∧ (decode cX4_leastBehind 54 = .ok (.goto 4, 3)) ∧ (decode cX4_leastBehind 57 = .ok (.iconst 0, 1)) ∧ (decode cX4_leastBehind 58 = .ok (.istore 5, 2)) ∧ (decode cX4_leastBehind 60 = .ok (.iload 5, 2)) ∧ (decode cX4_leastBehind 62 = .ok (.ifCond .eq 37, 3)) := by decide +kernel
theorem dX4_leastBehind_32 : decode cX4_leastBehind 32 = .ok (.getfield 64, 3) := dg_cX4_leastBehind_81.1
theorem dX4_leastBehind_35 : decode cX4_leastBehind 35 = .ok (.iload 4, 2) := dg_cX4_leastBehind_81.2.1
theorem dX4_leastBehind_37 : decode cX4_leastBehind 37 = .ok (.iaload, 1) := dg_cX4_leastBehind_81.2.2.1
theorem dX4_leastBehind_38 : decode cX4_leastBehind 38 = .ok (.aload_n 0, 1) := dg_cX4_leastBehind_81.2.2.2.1
theorem dX4_leastBehind_39 : decode cX4_leastBehind 39 = .ok (.getfield 30, 3) := dg_cX4_leastBehind_81.2.2.2.2.1
theorem dX4_leastBehind_42 : decode cX4_leastBehind 42 = .ok (.getfield 64, 3) := dg_cX4_leastBehind_81.2.2.2.2.2.1
theorem dX4_leastBehind_45 : decode cX4_leastBehind 45 = .ok (.iload_n 2, 1) := dg_cX4_leastBehind_81.2.2.2.2.2.2.1
theorem dX4_leastBehind_46 : decode cX4_leastBehind 46 = .ok (.iaload, 1) := dg_cX4_leastBehind_81.2.2.2.2.2.2.2.1
theorem dX4_leastBehind_47 : decode cX4_leastBehind 47 = .ok (.invokevirtual 67, 3) := dg_cX4_leastBehind_81.2.2.2.2.2.2.2.2.1
theorem dX4_leastBehind_50 : decode cX4_leastBehind 50 = .ok (.ifCond .ne 7, 3) := dg_cX4_leastBehind_81.2.2.2.2.2.2.2.2.2.1
theorem dX4_leastBehind_53 : decode cX4_leastBehind 53 = .ok (.iconst 1, 1) := dg_cX4_leastBehind_81.2.2.2.2.2.2.2.2.2.2.1
theorem dX4_leastBehind_54 : decode cX4_leastBehind 54 = .ok (.goto 4, 3) := dg_cX4_leastBehind_81.2.2.2.2.2.2.2.2.2.2.2.1
theorem dX4_leastBehind_57 : decode cX4_leastBehind 57 = .ok (.iconst 0, 1) := dg_cX4_leastBehind_81.2.2.2.2.2.2.2.2.2.2.2.2.1
theorem dX4_leastBehind_58 : decode cX4_leastBehind 58 = .ok (.istore 5, 2) := dg_cX4_leastBehind_81.2.2.2.2.2.2.2.2.2.2.2.2.2.1
theorem dX4_leastBehind_60 : decode cX4_leastBehind 60 = .ok (.iload 5, 2) := dg_cX4_leastBehind_81.2.2.2.2.2.2.2.2.2.2.2.2.2.2.1
theorem dX4_leastBehind_62 : decode cX4_leastBehind 62 = .ok (.ifCond .eq 37, 3) := dg_cX4_leastBehind_81.2.2.2.2.2.2.2.2.2.2.2.2.2.2.2
set_option maxRecDepth 100000 in
theorem dg_cX4_leastBehind_82 : (decode cX4_leastBehind 65 = .ok (.aload_n 0, 1)) ∧ (decode cX4_leastBehind 66 = .ok (.getfield 11, 3)) ∧ (decode cX4_leastBehind 69 = .ok (.iload_n 1, 1)) ∧ (decode cX4_leastBehind 70 = .ok (.aaload, 1)) ∧ (decode cX4_leastBehind 71 = .ok (.iload 4, 2)) ∧ (decode cX4_leastBehind 73 = .ok (.iaload, 1)) ∧ (decode cX4_leastBehind 74 = .ok (.iload_n 3, 1)) ∧ (decode cX4_leastBehind 75 = .ok (.bipush (-4), 2)) ∧ (decode cX4_leastBehind 77 = .ok (.if_icmp .ne 8, 3)) ∧ (decode cX4_leastBehind 80 = .ok (.ldc 48, 2)) ∧ (decode cX4_leastBehind 82 = .ok (.goto 11, 3)) ∧ (decode cX4_leastBehind 85 = .ok (.aload_n 0, 1)) ∧ (decode cX4_leastBehind 86 = .ok (.getfield 11, 3)) ∧ (decode cX4_leastBehind 89 = .ok (.iload_n 1, 1)) ∧ (decode cX4_leastBehind 90 = .ok (.aaload, 1)) ∧ (decode cX4_leastBehind 91 = .ok (.iload_n 3, 1)) := by decide +kernel
theorem dX4_leastBehind_65 : decode cX4_leastBehind 65 = .ok (.aload_n 0, 1) := dg_cX4_leastBehind_82.1
theorem dX4_leastBehind_66 : decode cX4_leastBehind 66 = .ok (.getfield 11, 3) := dg_cX4_leastBehind_82.2.1
theorem dX4_leastBehind_69 : decode cX4_leastBehind 69 = .ok (.iload_n 1, 1) := dg_cX4_leastBehind_82.2.2.1
theorem dX4_leastBehind_70 : decode cX4_leastBehind 70 = .ok (.aaload, 1) := dg_cX4_leastBehind_82.2.2.2.1
theorem dX4_leastBehind_71 : decode cX4_leastBehind 71 = .ok (.iload 4, 2) := dg_cX4_leastBehind_82.2.2.2.2.1
theorem dX4_leastBehind_73 : decode cX4_leastBehind 73 = .ok (.iaload, 1) := dg_cX4_leastBehind_82.2.2.2.2.2.1
theorem dX4_leastBehind_74 : decode cX4_leastBehind 74 = .ok (.iload_n 3, 1) := dg_cX4_leastBehind_82.2.2.2.2.2.2.1
theorem dX4_leastBehind_75 : decode cX4_leastBehind 75 = .ok (.bipush (-4), 2) := dg_cX4_leastBehind_82.2.2.2.2.2.2.2.1
theorem dX4_leastBehind_77 : decode cX4_leastBehind 77 = .ok (.if_icmp .ne 8, 3) := dg_cX4_leastBehind_82.2.2.2.2.2.2.2.2.1
theorem dX4_leastBehind_80 : decode cX4_leastBehind 80 = .ok (.ldc 48, 2) := dg_cX4_leastBehind_82.2.2.2.2.2.2.2.2.2.1
theorem dX4_leastBehind_82 : decode cX4_leastBehind 82 = .ok (.goto 11, 3) := dg_cX4_leastBehind_82.2.2.2.2.2.2.2.2.2.2.1
theorem dX4_leastBehind_85 : decode cX4_leastBehind 85 = .ok (.aload_n 0, 1) := dg_cX4_leastBehind_82.2.2.2.2.2.2.2.2.2.2.2.1
theorem dX4_leastBehind_86 : decode cX4_leastBehind 86 = .ok (.getfield 11, 3) := dg_cX4_leastBehind_82.2.2.2.2.2.2.2.2.2.2.2.2.1
theorem dX4_leastBehind_89 : decode cX4_leastBehind 89 = .ok (.iload_n 1, 1) := dg_cX4_leastBehind_82.2.2.2.2.2.2.2.2.2.2.2.2.2.1
theorem dX4_leastBehind_90 : decode cX4_leastBehind 90 = .ok (.aaload, 1) := dg_cX4_leastBehind_82.2.2.2.2.2.2.2.2.2.2.2.2.2.2.1
theorem dX4_leastBehind_91 : decode cX4_leastBehind 91 = .ok (.iload_n 3, 1) := dg_cX4_leastBehind_82.2.2.2.2.2.2.2.2.2.2.2.2.2.2.2
set_option maxRecDepth 100000 in
theorem dg_cX4_leastBehind_83 : (decode cX4_leastBehind 92 = .ok (.iaload, 1)) ∧ (decode cX4_leastBehind 93 = .ok (.if_icmp .ge 6, 3)) ∧ (decode cX4_leastBehind 96 = .ok (.iload 4, 2)) ∧ (decode cX4_leastBehind 98 = .ok (.istore_n 3, 1)) ∧ (decode cX4_leastBehind 99 = .ok (.iinc 4 1, 3)) ∧ (decode cX4_leastBehind 102 = .ok (.goto (-96), 3)) ∧ (decode cX4_leastBehind 105 = .ok (.iload_n 3, 1)) ∧ (decode cX4_leastBehind 106 = .ok (.ireturn, 1)) := by decide +kernel
theorem dX4_leastBehind_92 : decode cX4_leastBehind 92 = .ok (.iaload, 1) := dg_cX4_leastBehind_83.1
theorem dX4_leastBehind_93 : decode cX4_leastBehind 93 = .ok (.if_icmp .ge 6, 3) := dg_cX4_leastBehind_83.2.1
theorem dX4_leastBehind_96 : decode cX4_leastBehind 96 = .ok (.iload 4, 2) := dg_cX4_leastBehind_83.2.2.1
theorem dX4_leastBehind_98 : decode cX4_leastBehind 98 = .ok (.istore_n 3, 1) := dg_cX4_leastBehind_83.2.2.2.1
theorem dX4_leastBehind_99 : decode cX4_leastBehind 99 = .ok (.iinc 4 1, 3) := dg_cX4_leastBehind_83.2.2.2.2.1
theorem dX4_leastBehind_102 : decode cX4_leastBehind 102 = .ok (.goto (-96), 3) := dg_cX4_leastBehind_83.2.2.2.2.2.1
theorem dX4_leastBehind_105 : decode cX4_leastBehind 105 = .ok (.iload_n 3, 1) := dg_cX4_leastBehind_83.2.2.2.2.2.2.1
theorem dX4_leastBehind_106 : decode cX4_leastBehind 106 = .ok (.ireturn, 1) := dg_cX4_leastBehind_83.2.2.2.2.2.2.2
set_option maxRecDepth 100000 in
theorem dg_cX5_init_84 : (decode cX5_init 0 = .ok (.aload_n 0, 1)) ∧ (decode cX5_init 1 = .ok (.invokespecial 3, 3)) ∧ (decode cX5_init 4 = .ok (.aload_n 0, 1)) ∧ (decode cX5_init 5 = .ok (.new 9, 3)) ∧ (decode cX5_init 8 = .ok (.dup, 1)) ∧ (decode cX5_init 9 = .ok (.invokespecial 11, 3)) ∧ (decode cX5_init 12 = .ok (.putfield 12, 3)) ∧ (decode cX5_init 15 = .ok (.aload_n 0, 1)) ∧ (decode cX5_init 16 = .ok (.aload_n 1, 1)) ∧ (decode cX5_init 17 = .ok (.putfield 18, 3)) ∧ (decode cX5_init 20 = .ok (.return_, 1)) := by decide +kernel
theorem dX5_init_0 : decode cX5_init 0 = .ok (.aload_n 0, 1) := dg_cX5_init_84.1
theorem dX5_init_1 : decode cX5_init 1 = .ok (.invokespecial 3, 3) := dg_cX5_init_84.2.1
theorem dX5_init_4 : decode cX5_init 4 = .ok (.aload_n 0, 1) := dg_cX5_init_84.2.2.1
theorem dX5_init_5 : decode cX5_init 5 = .ok (.new 9, 3) := dg_cX5_init_84.2.2.2.1
theorem dX5_init_8 : decode cX5_init 8 = .ok (.dup, 1) := dg_cX5_init_84.2.2.2.2.1
theorem dX5_init_9 : decode cX5_init 9 = .ok (.invokespecial 11, 3) := dg_cX5_init_84.2.2.2.2.2.1
theorem dX5_init_12 : decode cX5_init 12 = .ok (.putfield 12, 3) := dg_cX5_init_84.2.2.2.2.2.2.1
theorem dX5_init_15 : decode cX5_init 15 = .ok (.aload_n 0, 1) := dg_cX5_init_84.2.2.2.2.2.2.2.1
theorem dX5_init_16 : decode cX5_init 16 = .ok (.aload_n 1, 1) := dg_cX5_init_84.2.2.2.2.2.2.2.2.1
theorem dX5_init_17 : decode cX5_init 17 = .ok (.putfield 18, 3) := dg_cX5_init_84.2.2.2.2.2.2.2.2.2.1
theorem dX5_init_20 : decode cX5_init 20 = .ok (.return_, 1) := dg_cX5_init_84.2.2.2.2.2.2.2.2.2.2
set_option maxRecDepth 100000 in
theorem dg_cX5_readAll_85 : (decode cX5_readAll 0 = .ok (.aload_n 0, 1)) ∧ (decode cX5_readAll 1 = .ok (.getfield 12, 3)) ∧ (decode cX5_readAll 4 = .ok (.invokevirtual 22, 3)) ∧ (decode cX5_readAll 7 = .ok (.aload_n 0, 1)) ∧ (decode cX5_readAll 8 = .ok (.iconst 0, 1)) ∧ (decode cX5_readAll 9 = .ok (.putfield 25, 3)) ∧ (decode cX5_readAll 12 = .ok (.aload_n 0, 1)) ∧ (decode cX5_readAll 13 = .ok (.iconst 0, 1)) ∧ (decode cX5_readAll 14 = .ok (.putfield 29, 3)) ∧ (decode cX5_readAll 17 = .ok (.aload_n 0, 1)) ∧ (decode cX5_readAll 18 = .ok (.iconst 0, 1)) ∧ (decode cX5_readAll 19 = .ok (.putfield 32, 3)) ∧ (decode cX5_readAll 22 = .ok (.aload_n 0, 1)) ∧ (decode cX5_readAll 23 = .ok (.iconst 0, 1)) ∧ (decode cX5_readAll 24 = .ok (.putfield 36, 3)) ∧ (decode cX5_readAll 27 = .ok (.aload_n 0, 1)) := by decide +kernel
theorem dX5_readAll_0 : decode cX5_readAll 0 = .ok (.aload_n 0, 1) := dg_cX5_readAll_85.1
theorem dX5_readAll_1 : decode cX5_readAll 1 = .ok (.getfield 12, 3) := dg_cX5_readAll_85.2.1
theorem dX5_readAll_4 : decode cX5_readAll 4 = .ok (.invokevirtual 22, 3) := dg_cX5_readAll_85.2.2.1
theorem dX5_readAll_7 : decode cX5_readAll 7 = .ok (.aload_n 0, 1) := dg_cX5_readAll_85.2.2.2.1
theorem dX5_readAll_8 : decode cX5_readAll 8 = .ok (.iconst 0, 1) := dg_cX5_readAll_85.2.2.2.2.1
theorem dX5_readAll_9 : decode cX5_readAll 9 = .ok (.putfield 25, 3) := dg_cX5_readAll_85.2.2.2.2.2.1
theorem dX5_readAll_12 : decode cX5_readAll 12 = .ok (.aload_n 0, 1) := dg_cX5_readAll_85.2.2.2.2.2.2.1
theorem dX5_readAll_13 : decode cX5_readAll 13 = .ok (.iconst 0, 1) := dg_cX5_readAll_85.2.2.2.2.2.2.2.1
theorem dX5_readAll_14 : decode cX5_readAll 14 = .ok (.putfield 29, 3) := dg_cX5_readAll_85.2.2.2.2.2.2.2.2.1
theorem dX5_readAll_17 : decode cX5_readAll 17 = .ok (.aload_n 0, 1) := dg_cX5_readAll_85.2.2.2.2.2.2.2.2.2.1
theorem dX5_readAll_18 : decode cX5_readAll 18 = .ok (.iconst 0, 1) := dg_cX5_readAll_85.2.2.2.2.2.2.2.2.2.2.1
theorem dX5_readAll_19 : decode cX5_readAll 19 = .ok (.putfield 32, 3) := dg_cX5_readAll_85.2.2.2.2.2.2.2.2.2.2.2.1
theorem dX5_readAll_22 : decode cX5_readAll 22 = .ok (.aload_n 0, 1) := dg_cX5_readAll_85.2.2.2.2.2.2.2.2.2.2.2.2.1
theorem dX5_readAll_23 : decode cX5_readAll 23 = .ok (.iconst 0, 1) := dg_cX5_readAll_85.2.2.2.2.2.2.2.2.2.2.2.2.2.1
theorem dX5_readAll_24 : decode cX5_readAll 24 = .ok (.putfield 36, 3) := dg_cX5_readAll_85.2.2.2.2.2.2.2.2.2.2.2.2.2.2.1
theorem dX5_readAll_27 : decode cX5_readAll 27 = .ok (.aload_n 0, 1) := dg_cX5_readAll_85.2.2.2.2.2.2.2.2.2.2.2.2.2.2.2
set_option maxRecDepth 100000 in
theorem dg_cX5_readAll_86 : (decode cX5_readAll 28 = .ok (.getfield 18, 3)) ∧ (decode cX5_readAll 31 = .ok (.invokevirtual 39, 3)) ∧ (decode cX5_readAll 34 = .ok (.aload_n 0, 1)) ∧ (decode cX5_readAll 35 = .ok (.invokevirtual 44, 3)) ∧ (decode cX5_readAll 38 = .ok (.istore_n 1, 1)) ∧ (decode cX5_readAll 39 = .ok (.iload_n 1, 1)) ∧ (decode cX5_readAll 40 = .ok (.ifCond .eq 41, 3)) ∧ (decode cX5_readAll 43 = .ok (.aload_n 0, 1)) ∧ (decode cX5_readAll 44 = .ok (.getfield 18, 3)) ∧ (decode cX5_readAll 47 = .ok (.getfield 48, 3)) ∧ (decode cX5_readAll 50 = .ok (.ifCond .eq 31, 3)) ∧ (decode cX5_readAll 53 = .ok (.aload_n 0, 1)) ∧ (decode cX5_readAll 54 = .ok (.getfield 32, 3)) ∧ (decode cX5_readAll 57 = .ok (.sipush 320, 3)) ∧ (decode cX5_readAll 60 = .ok (.if_icmp .ge 21, 3)) ∧ (decode cX5_readAll 63 = .ok (.aload_n 0, 1)) := by decide +kernel
theorem dX5_readAll_28 : decode cX5_readAll 28 = .ok (.getfield 18, 3) := dg_cX5_readAll_86.1
theorem dX5_readAll_31 : decode cX5_readAll 31 = .ok (.invokevirtual 39, 3) := dg_cX5_readAll_86.2.1
theorem dX5_readAll_34 : decode cX5_readAll 34 = .ok (.aload_n 0, 1) := dg_cX5_readAll_86.2.2.1
theorem dX5_readAll_35 : decode cX5_readAll 35 = .ok (.invokevirtual 44, 3) := dg_cX5_readAll_86.2.2.2.1
theorem dX5_readAll_38 : decode cX5_readAll 38 = .ok (.istore_n 1, 1) := dg_cX5_readAll_86.2.2.2.2.1
theorem dX5_readAll_39 : decode cX5_readAll 39 = .ok (.iload_n 1, 1) := dg_cX5_readAll_86.2.2.2.2.2.1
theorem dX5_readAll_40 : decode cX5_readAll 40 = .ok (.ifCond .eq 41, 3) := dg_cX5_readAll_86.2.2.2.2.2.2.1
theorem dX5_readAll_43 : decode cX5_readAll 43 = .ok (.aload_n 0, 1) := dg_cX5_readAll_86.2.2.2.2.2.2.2.1
theorem dX5_readAll_44 : decode cX5_readAll 44 = .ok (.getfield 18, 3) := dg_cX5_readAll_86.2.2.2.2.2.2.2.2.1
theorem dX5_readAll_47 : decode cX5_readAll 47 = .ok (.getfield 48, 3) := dg_cX5_readAll_86.2.2.2.2.2.2.2.2.2.1
theorem dX5_readAll_50 : decode cX5_readAll 50 = .ok (.ifCond .eq 31, 3) := dg_cX5_readAll_86.2.2.2.2.2.2.2.2.2.2.1
theorem dX5_readAll_53 : decode cX5_readAll 53 = .ok (.aload_n 0, 1) := dg_cX5_readAll_86.2.2.2.2.2.2.2.2.2.2.2.1
theorem dX5_readAll_54 : decode cX5_readAll 54 = .ok (.getfield 32, 3) := dg_cX5_readAll_86.2.2.2.2.2.2.2.2.2.2.2.2.1
theorem dX5_readAll_57 : decode cX5_readAll 57 = .ok (.sipush 320, 3) := dg_cX5_readAll_86.2.2.2.2.2.2.2.2.2.2.2.2.2.1
theorem dX5_readAll_60 : decode cX5_readAll 60 = .ok (.if_icmp .ge 21, 3) := dg_cX5_readAll_86.2.2.2.2.2.2.2.2.2.2.2.2.2.2.1
theorem dX5_readAll_63 : decode cX5_readAll 63 = .ok (.aload_n 0, 1) := dg_cX5_readAll_86.2.2.2.2.2.2.2.2.2.2.2.2.2.2.2
set_option maxRecDepth 100000 in
theorem dg_cX5_readAll_87 : (decode cX5_readAll 64 = .ok (.invokevirtual 51, 3)) ∧ (decode cX5_readAll 67 = .ok (.istore_n 1, 1)) ∧ (decode cX5_readAll 68 = .ok (.aload_n 0, 1)) ∧ (decode cX5_readAll 69 = .ok (.dup, 1)) ∧ (decode cX5_readAll 70 = .ok (.getfield 32, 3)) ∧ (decode cX5_readAll 73 = .ok (.iconst 1, 1)) ∧ (decode cX5_readAll 74 = .ok (.iadd, 1)) ∧ (decode cX5_readAll 75 = .ok (.putfield 32, 3)) ∧ (decode cX5_readAll 78 = .ok (.goto (-39), 3)) ∧ (decode cX5_readAll 81 = .ok (.iload_n 1, 1)) ∧ (decode cX5_readAll 82 = .ok (.ifCond .eq 26, 3)) ∧ (decode cX5_readAll 85 = .ok (.aload_n 0, 1)) ∧ (decode cX5_readAll 86 = .ok (.getfield 12, 3)) ∧ (decode cX5_readAll 89 = .ok (.invokevirtual 54, 3)) ∧ (decode cX5_readAll 92 = .ok (.ifCond .ne 12, 3)) ∧ (decode cX5_readAll 95 = .ok (.aload_n 0, 1)) := by decide +kernel
theorem dX5_readAll_64 : decode cX5_readAll 64 = .ok (.invokevirtual 51, 3) := dg_cX5_readAll_87.1
theorem dX5_readAll_67 : decode cX5_readAll 67 = .ok (.istore_n 1, 1) := dg_cX5_readAll_87.2.1
theorem dX5_readAll_68 : decode cX5_readAll 68 = .ok (.aload_n 0, 1) := dg_cX5_readAll_87.2.2.1
theorem dX5_readAll_69 : decode cX5_readAll 69 = .ok (.dup, 1) := dg_cX5_readAll_87.2.2.2.1
theorem dX5_readAll_70 : decode cX5_readAll 70 = .ok (.getfield 32, 3) := dg_cX5_readAll_87.2.2.2.2.1
theorem dX5_readAll_73 : decode cX5_readAll 73 = .ok (.iconst 1, 1) := dg_cX5_readAll_87.2.2.2.2.2.1
theorem dX5_readAll_74 : decode cX5_readAll 74 = .ok (.iadd, 1) := dg_cX5_readAll_87.2.2.2.2.2.2.1
theorem dX5_readAll_75 : decode cX5_readAll 75 = .ok (.putfield 32, 3) := dg_cX5_readAll_87.2.2.2.2.2.2.2.1
theorem dX5_readAll_78 : decode cX5_readAll 78 = .ok (.goto (-39), 3) := dg_cX5_readAll_87.2.2.2.2.2.2.2.2.1
theorem dX5_readAll_81 : decode cX5_readAll 81 = .ok (.iload_n 1, 1) := dg_cX5_readAll_87.2.2.2.2.2.2.2.2.2.1
theorem dX5_readAll_82 : decode cX5_readAll 82 = .ok (.ifCond .eq 26, 3) := dg_cX5_readAll_87.2.2.2.2.2.2.2.2.2.2.1
theorem dX5_readAll_85 : decode cX5_readAll 85 = .ok (.aload_n 0, 1) := dg_cX5_readAll_87.2.2.2.2.2.2.2.2.2.2.2.1
theorem dX5_readAll_86 : decode cX5_readAll 86 = .ok (.getfield 12, 3) := dg_cX5_readAll_87.2.2.2.2.2.2.2.2.2.2.2.2.1
theorem dX5_readAll_89 : decode cX5_readAll 89 = .ok (.invokevirtual 54, 3) := dg_cX5_readAll_87.2.2.2.2.2.2.2.2.2.2.2.2.2.1
theorem dX5_readAll_92 : decode cX5_readAll 92 = .ok (.ifCond .ne 12, 3) := dg_cX5_readAll_87.2.2.2.2.2.2.2.2.2.2.2.2.2.2.1
theorem dX5_readAll_95 : decode cX5_readAll 95 = .ok (.aload_n 0, 1) := dg_cX5_readAll_87.2.2.2.2.2.2.2.2.2.2.2.2.2.2.2
set_option maxRecDepth 100000 in
theorem dg_cX5_readAll_88 : (decode cX5_readAll 96 = .ok (.bipush 6, 2)) ∧ (decode cX5_readAll 98 = .ok (.invokevirtual 57, 3)) ∧ (decode cX5_readAll 101 = .ok (.ifCond .eq 7, 3)) ∧ (decode cX5_readAll 104 = .ok (.iconst 1, 1)) ∧ (decode cX5_readAll 105 = .ok (.goto 4, 3)) ∧ (decode cX5_readAll 108 = .ok (.iconst 0, 1)) ∧ (decode cX5_readAll 109 = .ok (.ireturn, 1)) := by decide +kernel
theorem dX5_readAll_96 : decode cX5_readAll 96 = .ok (.bipush 6, 2) := dg_cX5_readAll_88.1
theorem dX5_readAll_98 : decode cX5_readAll 98 = .ok (.invokevirtual 57, 3) := dg_cX5_readAll_88.2.1
theorem dX5_readAll_101 : decode cX5_readAll 101 = .ok (.ifCond .eq 7, 3) := dg_cX5_readAll_88.2.2.1
theorem dX5_readAll_104 : decode cX5_readAll 104 = .ok (.iconst 1, 1) := dg_cX5_readAll_88.2.2.2.1
theorem dX5_readAll_105 : decode cX5_readAll 105 = .ok (.goto 4, 3) := dg_cX5_readAll_88.2.2.2.2.1
theorem dX5_readAll_108 : decode cX5_readAll 108 = .ok (.iconst 0, 1) := dg_cX5_readAll_88.2.2.2.2.2.1
theorem dX5_readAll_109 : decode cX5_readAll 109 = .ok (.ireturn, 1) := dg_cX5_readAll_88.2.2.2.2.2.2
set_option maxRecDepth 100000 in
theorem dg_cX5_readLine_89 : (decode cX5_readLine 0 = .ok (.aload_n 0, 1)) ∧ (decode cX5_readLine 1 = .ok (.getfield 18, 3)) ∧ (decode cX5_readLine 4 = .ok (.ldc 61, 2)) ∧ (decode cX5_readLine 6 = .ok (.invokevirtual 63, 3)) ∧ (decode cX5_readLine 9 = .ok (.ifCond .eq 8, 3)) ∧ (decode cX5_readLine 12 = .ok (.aload_n 0, 1)) ∧ (decode cX5_readLine 13 = .ok (.invokevirtual 67, 3)) ∧ (decode cX5_readLine 16 = .ok (.ireturn, 1)) ∧ (decode cX5_readLine 17 = .ok (.aload_n 0, 1)) ∧ (decode cX5_readLine 18 = .ok (.getfield 18, 3)) ∧ (decode cX5_readLine 21 = .ok (.ldc 70, 2)) ∧ (decode cX5_readLine 23 = .ok (.invokevirtual 63, 3)) ∧ (decode cX5_readLine 26 = .ok (.ifCond .eq 8, 3)) ∧ (decode cX5_readLine 29 = .ok (.aload_n 0, 1)) ∧ (decode cX5_readLine 30 = .ok (.invokevirtual 72, 3)) ∧ (decode cX5_readLine 33 = .ok (.ireturn, 1)) := by decide +kernel
theorem dX5_readLine_0 : decode cX5_readLine 0 = .ok (.aload_n 0, 1) := dg_cX5_readLine_89.1
theorem dX5_readLine_1 : decode cX5_readLine 1 = .ok (.getfield 18, 3) := dg_cX5_readLine_89.2.1
theorem dX5_readLine_4 : decode cX5_readLine 4 = .ok (.ldc 61, 2) := dg_cX5_readLine_89.2.2.1
theorem dX5_readLine_6 : decode cX5_readLine 6 = .ok (.invokevirtual 63, 3) := dg_cX5_readLine_89.2.2.2.1
theorem dX5_readLine_9 : decode cX5_readLine 9 = .ok (.ifCond .eq 8, 3) := dg_cX5_readLine_89.2.2.2.2.1
theorem dX5_readLine_12 : decode cX5_readLine 12 = .ok (.aload_n 0, 1) := dg_cX5_readLine_89.2.2.2.2.2.1
theorem dX5_readLine_13 : decode cX5_readLine 13 = .ok (.invokevirtual 67, 3) := dg_cX5_readLine_89.2.2.2.2.2.2.1
theorem dX5_readLine_16 : decode cX5_readLine 16 = .ok (.ireturn, 1) := dg_cX5_readLine_89.2.2.2.2.2.2.2.1
theorem dX5_readLine_17 : decode cX5_readLine 17 = .ok (.aload_n 0, 1) := dg_cX5_readLine_89.2.2.2.2.2.2.2.2.1
theorem dX5_readLine_18 : decode cX5_readLine 18 = .ok (.getfield 18, 3) := dg_cX5_readLine_89.2.2.2.2.2.2.2.2.2.1
theorem dX5_readLine_21 : decode cX5_readLine 21 = .ok (.ldc 70, 2) := dg_cX5_readLine_89.2.2.2.2.2.2.2.2.2.2.1
theorem dX5_readLine_23 : decode cX5_readLine 23 = .ok (.invokevirtual 63, 3) := dg_cX5_readLine_89.2.2.2.2.2.2.2.2.2.2.2.1
theorem dX5_readLine_26 : decode cX5_readLine 26 = .ok (.ifCond .eq 8, 3) := dg_cX5_readLine_89.2.2.2.2.2.2.2.2.2.2.2.2.1
theorem dX5_readLine_29 : decode cX5_readLine 29 = .ok (.aload_n 0, 1) := dg_cX5_readLine_89.2.2.2.2.2.2.2.2.2.2.2.2.2.1
theorem dX5_readLine_30 : decode cX5_readLine 30 = .ok (.invokevirtual 72, 3) := dg_cX5_readLine_89.2.2.2.2.2.2.2.2.2.2.2.2.2.2.1
theorem dX5_readLine_33 : decode cX5_readLine 33 = .ok (.ireturn, 1) := dg_cX5_readLine_89.2.2.2.2.2.2.2.2.2.2.2.2.2.2.2
set_option maxRecDepth 100000 in
theorem dg_cX5_readLine_90 : (decode cX5_readLine 34 = .ok (.aload_n 0, 1)) ∧ (decode cX5_readLine 35 = .ok (.getfield 18, 3)) ∧ (decode cX5_readLine 38 = .ok (.ldc 75, 2)) ∧ (decode cX5_readLine 40 = .ok (.invokevirtual 63, 3)) ∧ (decode cX5_readLine 43 = .ok (.ifCond .eq 8, 3)) ∧ (decode cX5_readLine 46 = .ok (.aload_n 0, 1)) ∧ (decode cX5_readLine 47 = .ok (.invokevirtual 77, 3)) ∧ (decode cX5_readLine 50 = .ok (.ireturn, 1)) ∧ (decode cX5_readLine 51 = .ok (.aload_n 0, 1)) ∧ (decode cX5_readLine 52 = .ok (.getfield 18, 3)) ∧ (decode cX5_readLine 55 = .ok (.ldc 80, 2)) ∧ (decode cX5_readLine 57 = .ok (.invokevirtual 63, 3)) ∧ (decode cX5_readLine 60 = .ok (.ifCond .eq 8, 3)) ∧ (decode cX5_readLine 63 = .ok (.aload_n 0, 1)) ∧ (decode cX5_readLine 64 = .ok (.invokevirtual 82, 3)) ∧ (decode cX5_readLine 67 = .ok (.ireturn, 1)) := by decide +kernel
theorem dX5_readLine_34 : decode cX5_readLine 34 = .ok (.aload_n 0, 1) := dg_cX5_readLine_90.1
theorem dX5_readLine_35 : decode cX5_readLine 35 = .ok (.getfield 18, 3) := dg_cX5_readLine_90.2.1
theorem dX5_readLine_38 : decode cX5_readLine 38 = .ok (.ldc 75, 2) := dg_cX5_readLine_90.2.2.1
theorem dX5_readLine_40 : decode cX5_readLine 40 = .ok (.invokevirtual 63, 3) := dg_cX5_readLine_90.2.2.2.1
theorem dX5_readLine_43 : decode cX5_readLine 43 = .ok (.ifCond .eq 8, 3) := dg_cX5_readLine_90.2.2.2.2.1
theorem dX5_readLine_46 : decode cX5_readLine 46 = .ok (.aload_n 0, 1) := dg_cX5_readLine_90.2.2.2.2.2.1
theorem dX5_readLine_47 : decode cX5_readLine 47 = .ok (.invokevirtual 77, 3) := dg_cX5_readLine_90.2.2.2.2.2.2.1
theorem dX5_readLine_50 : decode cX5_readLine 50 = .ok (.ireturn, 1) := dg_cX5_readLine_90.2.2.2.2.2.2.2.1
theorem dX5_readLine_51 : decode cX5_readLine 51 = .ok (.aload_n 0, 1) := dg_cX5_readLine_90.2.2.2.2.2.2.2.2.1
theorem dX5_readLine_52 : decode cX5_readLine 52 = .ok (.getfield 18, 3) := dg_cX5_readLine_90.2.2.2.2.2.2.2.2.2.1
theorem dX5_readLine_55 : decode cX5_readLine 55 = .ok (.ldc 80, 2) := dg_cX5_readLine_90.2.2.2.2.2.2.2.2.2.2.1
theorem dX5_readLine_57 : decode cX5_readLine 57 = .ok (.invokevirtual 63, 3) := dg_cX5_readLine_90.2.2.2.2.2.2.2.2.2.2.2.1
theorem dX5_readLine_60 : decode cX5_readLine 60 = .ok (.ifCond .eq 8, 3) := dg_cX5_readLine_90.2.2.2.2.2.2.2.2.2.2.2.2.1
theorem dX5_readLine_63 : decode cX5_readLine 63 = .ok (.aload_n 0, 1) := dg_cX5_readLine_90.2.2.2.2.2.2.2.2.2.2.2.2.2.1
theorem dX5_readLine_64 : decode cX5_readLine 64 = .ok (.invokevirtual 82, 3) := dg_cX5_readLine_90.2.2.2.2.2.2.2.2.2.2.2.2.2.2.1
theorem dX5_readLine_67 : decode cX5_readLine 67 = .ok (.ireturn, 1) := dg_cX5_readLine_90.2.2.2.2.2.2.2.2.2.2.2.2.2.2.2
set_option maxRecDepth 100000 in
theorem dg_cX5_readLine_91 : (decode cX5_readLine 68 = .ok (.aload_n 0, 1)) ∧ (decode cX5_readLine 69 = .ok (.getfield 18, 3)) ∧ (decode cX5_readLine 72 = .ok (.ldc 85, 2)) ∧ (decode cX5_readLine 74 = .ok (.invokevirtual 63, 3)) ∧ (decode cX5_readLine 77 = .ok (.ifCond .eq 10, 3)) ∧ (decode cX5_readLine 80 = .ok (.aload_n 0, 1)) ∧ (decode cX5_readLine 81 = .ok (.invokevirtual 87, 3)) ∧ (decode cX5_readLine 84 = .ok (.goto 8, 3)) ∧ (decode cX5_readLine 87 = .ok (.aload_n 0, 1)) ∧ (decode cX5_readLine 88 = .ok (.iconst 2, 1)) ∧ (decode cX5_readLine 89 = .ok (.invokevirtual 57, 3)) ∧ (decode cX5_readLine 92 = .ok (.ireturn, 1)) := by decide +kernel
theorem dX5_readLine_68 : decode cX5_readLine 68 = .ok (.aload_n 0, 1) := dg_cX5_readLine_91.1
theorem dX5_readLine_69 : decode cX5_readLine 69 = .ok (.getfield 18, 3) := dg_cX5_readLine_91.2.1
theorem dX5_readLine_72 : decode cX5_readLine 72 = .ok (.ldc 85, 2) := dg_cX5_readLine_91.2.2.1
theorem dX5_readLine_74 : decode cX5_readLine 74 = .ok (.invokevirtual 63, 3) := dg_cX5_readLine_91.2.2.2.1
theorem dX5_readLine_77 : decode cX5_readLine 77 = .ok (.ifCond .eq 10, 3) := dg_cX5_readLine_91.2.2.2.2.1
theorem dX5_readLine_80 : decode cX5_readLine 80 = .ok (.aload_n 0, 1) := dg_cX5_readLine_91.2.2.2.2.2.1
theorem dX5_readLine_81 : decode cX5_readLine 81 = .ok (.invokevirtual 87, 3) := dg_cX5_readLine_91.2.2.2.2.2.2.1
theorem dX5_readLine_84 : decode cX5_readLine 84 = .ok (.goto 8, 3) := dg_cX5_readLine_91.2.2.2.2.2.2.2.1
theorem dX5_readLine_87 : decode cX5_readLine 87 = .ok (.aload_n 0, 1) := dg_cX5_readLine_91.2.2.2.2.2.2.2.2.1
theorem dX5_readLine_88 : decode cX5_readLine 88 = .ok (.iconst 2, 1) := dg_cX5_readLine_91.2.2.2.2.2.2.2.2.2.1
theorem dX5_readLine_89 : decode cX5_readLine 89 = .ok (.invokevirtual 57, 3) := dg_cX5_readLine_91.2.2.2.2.2.2.2.2.2.2.1
theorem dX5_readLine_92 : decode cX5_readLine 92 = .ok (.ireturn, 1) := dg_cX5_readLine_91.2.2.2.2.2.2.2.2.2.2.2
set_option maxRecDepth 100000 in
theorem dg_cX5_readHouses_92 : (decode cX5_readHouses 0 = .ok (.aload_n 0, 1)) ∧ (decode cX5_readHouses 1 = .ok (.getfield 25, 3)) ∧ (decode cX5_readHouses 4 = .ok (.ifCond .eq 9, 3)) ∧ (decode cX5_readHouses 7 = .ok (.aload_n 0, 1)) ∧ (decode cX5_readHouses 8 = .ok (.iconst 4, 1)) ∧ (decode cX5_readHouses 9 = .ok (.invokevirtual 57, 3)) ∧ (decode cX5_readHouses 12 = .ok (.ireturn, 1)) ∧ (decode cX5_readHouses 13 = .ok (.aload_n 0, 1)) ∧ (decode cX5_readHouses 14 = .ok (.iconst 1, 1)) ∧ (decode cX5_readHouses 15 = .ok (.putfield 25, 3)) ∧ (decode cX5_readHouses 18 = .ok (.aload_n 0, 1)) ∧ (decode cX5_readHouses 19 = .ok (.iconst 1, 1)) ∧ (decode cX5_readHouses 20 = .ok (.bipush 6, 2)) ∧ (decode cX5_readHouses 22 = .ok (.invokevirtual 90, 3)) ∧ (decode cX5_readHouses 25 = .ok (.ifCond .ne 5, 3)) ∧ (decode cX5_readHouses 28 = .ok (.iconst 0, 1)) := by decide +kernel
theorem dX5_readHouses_0 : decode cX5_readHouses 0 = .ok (.aload_n 0, 1) := dg_cX5_readHouses_92.1
theorem dX5_readHouses_1 : decode cX5_readHouses 1 = .ok (.getfield 25, 3) := dg_cX5_readHouses_92.2.1
theorem dX5_readHouses_4 : decode cX5_readHouses 4 = .ok (.ifCond .eq 9, 3) := dg_cX5_readHouses_92.2.2.1
theorem dX5_readHouses_7 : decode cX5_readHouses 7 = .ok (.aload_n 0, 1) := dg_cX5_readHouses_92.2.2.2.1
theorem dX5_readHouses_8 : decode cX5_readHouses 8 = .ok (.iconst 4, 1) := dg_cX5_readHouses_92.2.2.2.2.1
theorem dX5_readHouses_9 : decode cX5_readHouses 9 = .ok (.invokevirtual 57, 3) := dg_cX5_readHouses_92.2.2.2.2.2.1
theorem dX5_readHouses_12 : decode cX5_readHouses 12 = .ok (.ireturn, 1) := dg_cX5_readHouses_92.2.2.2.2.2.2.1
theorem dX5_readHouses_13 : decode cX5_readHouses 13 = .ok (.aload_n 0, 1) := dg_cX5_readHouses_92.2.2.2.2.2.2.2.1
theorem dX5_readHouses_14 : decode cX5_readHouses 14 = .ok (.iconst 1, 1) := dg_cX5_readHouses_92.2.2.2.2.2.2.2.2.1
theorem dX5_readHouses_15 : decode cX5_readHouses 15 = .ok (.putfield 25, 3) := dg_cX5_readHouses_92.2.2.2.2.2.2.2.2.2.1
theorem dX5_readHouses_18 : decode cX5_readHouses 18 = .ok (.aload_n 0, 1) := dg_cX5_readHouses_92.2.2.2.2.2.2.2.2.2.2.1
theorem dX5_readHouses_19 : decode cX5_readHouses 19 = .ok (.iconst 1, 1) := dg_cX5_readHouses_92.2.2.2.2.2.2.2.2.2.2.2.1
theorem dX5_readHouses_20 : decode cX5_readHouses 20 = .ok (.bipush 6, 2) := dg_cX5_readHouses_92.2.2.2.2.2.2.2.2.2.2.2.2.1
theorem dX5_readHouses_22 : decode cX5_readHouses 22 = .ok (.invokevirtual 90, 3) := dg_cX5_readHouses_92.2.2.2.2.2.2.2.2.2.2.2.2.2.1
theorem dX5_readHouses_25 : decode cX5_readHouses 25 = .ok (.ifCond .ne 5, 3) := dg_cX5_readHouses_92.2.2.2.2.2.2.2.2.2.2.2.2.2.2.1
theorem dX5_readHouses_28 : decode cX5_readHouses 28 = .ok (.iconst 0, 1) := dg_cX5_readHouses_92.2.2.2.2.2.2.2.2.2.2.2.2.2.2.2
set_option maxRecDepth 100000 in
theorem dg_cX5_readHouses_93 : (decode cX5_readHouses 29 = .ok (.ireturn, 1)) ∧ (decode cX5_readHouses 30 = .ok (.aload_n 0, 1)) ∧ (decode cX5_readHouses 31 = .ok (.getfield 12, 3)) ∧ (decode cX5_readHouses 34 = .ok (.aload_n 0, 1)) ∧ (decode cX5_readHouses 35 = .ok (.getfield 18, 3)) ∧ (decode cX5_readHouses 38 = .ok (.getfield 94, 3)) ∧ (decode cX5_readHouses 41 = .ok (.putfield 97, 3)) ∧ (decode cX5_readHouses 44 = .ok (.aload_n 0, 1)) ∧ (decode cX5_readHouses 45 = .ok (.invokevirtual 44, 3)) ∧ (decode cX5_readHouses 48 = .ok (.ifCond .eq 14, 3)) ∧ (decode cX5_readHouses 51 = .ok (.aload_n 0, 1)) ∧ (decode cX5_readHouses 52 = .ok (.invokevirtual 99, 3)) ∧ (decode cX5_readHouses 55 = .ok (.ifCond .eq 7, 3)) ∧ (decode cX5_readHouses 58 = .ok (.iconst 1, 1)) ∧ (decode cX5_readHouses 59 = .ok (.goto 4, 3)) ∧ (decode cX5_readHouses 62 = .ok (.iconst 0, 1)) := by decide +kernel
theorem dX5_readHouses_29 : decode cX5_readHouses 29 = .ok (.ireturn, 1) := dg_cX5_readHouses_93.1
theorem dX5_readHouses_30 : decode cX5_readHouses 30 = .ok (.aload_n 0, 1) := dg_cX5_readHouses_93.2.1
theorem dX5_readHouses_31 : decode cX5_readHouses 31 = .ok (.getfield 12, 3) := dg_cX5_readHouses_93.2.2.1
theorem dX5_readHouses_34 : decode cX5_readHouses 34 = .ok (.aload_n 0, 1) := dg_cX5_readHouses_93.2.2.2.1
theorem dX5_readHouses_35 : decode cX5_readHouses 35 = .ok (.getfield 18, 3) := dg_cX5_readHouses_93.2.2.2.2.1
theorem dX5_readHouses_38 : decode cX5_readHouses 38 = .ok (.getfield 94, 3) := dg_cX5_readHouses_93.2.2.2.2.2.1
theorem dX5_readHouses_41 : decode cX5_readHouses 41 = .ok (.putfield 97, 3) := dg_cX5_readHouses_93.2.2.2.2.2.2.1
theorem dX5_readHouses_44 : decode cX5_readHouses 44 = .ok (.aload_n 0, 1) := dg_cX5_readHouses_93.2.2.2.2.2.2.2.1
theorem dX5_readHouses_45 : decode cX5_readHouses 45 = .ok (.invokevirtual 44, 3) := dg_cX5_readHouses_93.2.2.2.2.2.2.2.2.1
theorem dX5_readHouses_48 : decode cX5_readHouses 48 = .ok (.ifCond .eq 14, 3) := dg_cX5_readHouses_93.2.2.2.2.2.2.2.2.2.1
theorem dX5_readHouses_51 : decode cX5_readHouses 51 = .ok (.aload_n 0, 1) := dg_cX5_readHouses_93.2.2.2.2.2.2.2.2.2.2.1
theorem dX5_readHouses_52 : decode cX5_readHouses 52 = .ok (.invokevirtual 99, 3) := dg_cX5_readHouses_93.2.2.2.2.2.2.2.2.2.2.2.1
theorem dX5_readHouses_55 : decode cX5_readHouses 55 = .ok (.ifCond .eq 7, 3) := dg_cX5_readHouses_93.2.2.2.2.2.2.2.2.2.2.2.2.1
theorem dX5_readHouses_58 : decode cX5_readHouses 58 = .ok (.iconst 1, 1) := dg_cX5_readHouses_93.2.2.2.2.2.2.2.2.2.2.2.2.2.1
theorem dX5_readHouses_59 : decode cX5_readHouses 59 = .ok (.goto 4, 3) := dg_cX5_readHouses_93.2.2.2.2.2.2.2.2.2.2.2.2.2.2.1
theorem dX5_readHouses_62 : decode cX5_readHouses 62 = .ok (.iconst 0, 1) := dg_cX5_readHouses_93.2.2.2.2.2.2.2.2.2.2.2.2.2.2.2
theorem dX5_readHouses_63 : decode cX5_readHouses 63 = .ok (.ireturn, 1) := by decide +kernel
set_option maxRecDepth 100000 in
theorem dg_cX5_readGap_94 : (decode cX5_readGap 0 = .ok (.aload_n 0, 1)) ∧ (decode cX5_readGap 1 = .ok (.getfield 29, 3)) ∧ (decode cX5_readGap 4 = .ok (.ifCond .eq 9, 3)) ∧ (decode cX5_readGap 7 = .ok (.aload_n 0, 1)) ∧ (decode cX5_readGap 8 = .ok (.iconst 4, 1)) ∧ (decode cX5_readGap 9 = .ok (.invokevirtual 57, 3)) ∧ (decode cX5_readGap 12 = .ok (.ireturn, 1)) ∧ (decode cX5_readGap 13 = .ok (.aload_n 0, 1)) ∧ (decode cX5_readGap 14 = .ok (.iconst 1, 1)) ∧ (decode cX5_readGap 15 = .ok (.putfield 29, 3)) ∧ (decode cX5_readGap 18 = .ok (.aload_n 0, 1)) ∧ (decode cX5_readGap 19 = .ok (.iconst 0, 1)) ∧ (decode cX5_readGap 20 = .ok (.bipush 9, 2)) ∧ (decode cX5_readGap 22 = .ok (.invokevirtual 90, 3)) ∧ (decode cX5_readGap 25 = .ok (.ifCond .ne 5, 3)) ∧ (decode cX5_readGap 28 = .ok (.iconst 0, 1)) := by decide +kernel
theorem dX5_readGap_0 : decode cX5_readGap 0 = .ok (.aload_n 0, 1) := dg_cX5_readGap_94.1
theorem dX5_readGap_1 : decode cX5_readGap 1 = .ok (.getfield 29, 3) := dg_cX5_readGap_94.2.1
theorem dX5_readGap_4 : decode cX5_readGap 4 = .ok (.ifCond .eq 9, 3) := dg_cX5_readGap_94.2.2.1
theorem dX5_readGap_7 : decode cX5_readGap 7 = .ok (.aload_n 0, 1) := dg_cX5_readGap_94.2.2.2.1
theorem dX5_readGap_8 : decode cX5_readGap 8 = .ok (.iconst 4, 1) := dg_cX5_readGap_94.2.2.2.2.1
theorem dX5_readGap_9 : decode cX5_readGap 9 = .ok (.invokevirtual 57, 3) := dg_cX5_readGap_94.2.2.2.2.2.1
theorem dX5_readGap_12 : decode cX5_readGap 12 = .ok (.ireturn, 1) := dg_cX5_readGap_94.2.2.2.2.2.2.1
theorem dX5_readGap_13 : decode cX5_readGap 13 = .ok (.aload_n 0, 1) := dg_cX5_readGap_94.2.2.2.2.2.2.2.1
theorem dX5_readGap_14 : decode cX5_readGap 14 = .ok (.iconst 1, 1) := dg_cX5_readGap_94.2.2.2.2.2.2.2.2.1
theorem dX5_readGap_15 : decode cX5_readGap 15 = .ok (.putfield 29, 3) := dg_cX5_readGap_94.2.2.2.2.2.2.2.2.2.1
theorem dX5_readGap_18 : decode cX5_readGap 18 = .ok (.aload_n 0, 1) := dg_cX5_readGap_94.2.2.2.2.2.2.2.2.2.2.1
theorem dX5_readGap_19 : decode cX5_readGap 19 = .ok (.iconst 0, 1) := dg_cX5_readGap_94.2.2.2.2.2.2.2.2.2.2.2.1
theorem dX5_readGap_20 : decode cX5_readGap 20 = .ok (.bipush 9, 2) := dg_cX5_readGap_94.2.2.2.2.2.2.2.2.2.2.2.2.1
theorem dX5_readGap_22 : decode cX5_readGap 22 = .ok (.invokevirtual 90, 3) := dg_cX5_readGap_94.2.2.2.2.2.2.2.2.2.2.2.2.2.1
theorem dX5_readGap_25 : decode cX5_readGap 25 = .ok (.ifCond .ne 5, 3) := dg_cX5_readGap_94.2.2.2.2.2.2.2.2.2.2.2.2.2.2.1
theorem dX5_readGap_28 : decode cX5_readGap 28 = .ok (.iconst 0, 1) := dg_cX5_readGap_94.2.2.2.2.2.2.2.2.2.2.2.2.2.2.2
set_option maxRecDepth 100000 in
theorem dg_cX5_readGap_95 : (decode cX5_readGap 29 = .ok (.ireturn, 1)) ∧ (decode cX5_readGap 30 = .ok (.aload_n 0, 1)) ∧ (decode cX5_readGap 31 = .ok (.getfield 12, 3)) ∧ (decode cX5_readGap 34 = .ok (.aload_n 0, 1)) ∧ (decode cX5_readGap 35 = .ok (.getfield 18, 3)) ∧ (decode cX5_readGap 38 = .ok (.getfield 94, 3)) ∧ (decode cX5_readGap 41 = .ok (.putfield 102, 3)) ∧ (decode cX5_readGap 44 = .ok (.aload_n 0, 1)) ∧ (decode cX5_readGap 45 = .ok (.invokevirtual 44, 3)) ∧ (decode cX5_readGap 48 = .ok (.ifCond .eq 14, 3)) ∧ (decode cX5_readGap 51 = .ok (.aload_n 0, 1)) ∧ (decode cX5_readGap 52 = .ok (.invokevirtual 99, 3)) ∧ (decode cX5_readGap 55 = .ok (.ifCond .eq 7, 3)) ∧ (decode cX5_readGap 58 = .ok (.iconst 1, 1)) ∧ (decode cX5_readGap 59 = .ok (.goto 4, 3)) ∧ (decode cX5_readGap 62 = .ok (.iconst 0, 1)) := by decide +kernel
theorem dX5_readGap_29 : decode cX5_readGap 29 = .ok (.ireturn, 1) := dg_cX5_readGap_95.1
theorem dX5_readGap_30 : decode cX5_readGap 30 = .ok (.aload_n 0, 1) := dg_cX5_readGap_95.2.1
theorem dX5_readGap_31 : decode cX5_readGap 31 = .ok (.getfield 12, 3) := dg_cX5_readGap_95.2.2.1
theorem dX5_readGap_34 : decode cX5_readGap 34 = .ok (.aload_n 0, 1) := dg_cX5_readGap_95.2.2.2.1
theorem dX5_readGap_35 : decode cX5_readGap 35 = .ok (.getfield 18, 3) := dg_cX5_readGap_95.2.2.2.2.1
theorem dX5_readGap_38 : decode cX5_readGap 38 = .ok (.getfield 94, 3) := dg_cX5_readGap_95.2.2.2.2.2.1
theorem dX5_readGap_41 : decode cX5_readGap 41 = .ok (.putfield 102, 3) := dg_cX5_readGap_95.2.2.2.2.2.2.1
theorem dX5_readGap_44 : decode cX5_readGap 44 = .ok (.aload_n 0, 1) := dg_cX5_readGap_95.2.2.2.2.2.2.2.1
theorem dX5_readGap_45 : decode cX5_readGap 45 = .ok (.invokevirtual 44, 3) := dg_cX5_readGap_95.2.2.2.2.2.2.2.2.1
theorem dX5_readGap_48 : decode cX5_readGap 48 = .ok (.ifCond .eq 14, 3) := dg_cX5_readGap_95.2.2.2.2.2.2.2.2.2.1
theorem dX5_readGap_51 : decode cX5_readGap 51 = .ok (.aload_n 0, 1) := dg_cX5_readGap_95.2.2.2.2.2.2.2.2.2.2.1
theorem dX5_readGap_52 : decode cX5_readGap 52 = .ok (.invokevirtual 99, 3) := dg_cX5_readGap_95.2.2.2.2.2.2.2.2.2.2.2.1
theorem dX5_readGap_55 : decode cX5_readGap 55 = .ok (.ifCond .eq 7, 3) := dg_cX5_readGap_95.2.2.2.2.2.2.2.2.2.2.2.2.1
theorem dX5_readGap_58 : decode cX5_readGap 58 = .ok (.iconst 1, 1) := dg_cX5_readGap_95.2.2.2.2.2.2.2.2.2.2.2.2.2.1
theorem dX5_readGap_59 : decode cX5_readGap 59 = .ok (.goto 4, 3) := dg_cX5_readGap_95.2.2.2.2.2.2.2.2.2.2.2.2.2.2.1
theorem dX5_readGap_62 : decode cX5_readGap 62 = .ok (.iconst 0, 1) := dg_cX5_readGap_95.2.2.2.2.2.2.2.2.2.2.2.2.2.2.2
theorem dX5_readGap_63 : decode cX5_readGap 63 = .ok (.ireturn, 1) := by decide +kernel
set_option maxRecDepth 100000 in
theorem dg_cX5_readBell_96 : (decode cX5_readBell 0 = .ok (.aload_n 0, 1)) ∧ (decode cX5_readBell 1 = .ok (.getfield 12, 3)) ∧ (decode cX5_readBell 4 = .ok (.getfield 104, 3)) ∧ (decode cX5_readBell 7 = .ok (.astore_n 1, 1)) ∧ (decode cX5_readBell 8 = .ok (.aload_n 1, 1)) ∧ (decode cX5_readBell 9 = .ok (.getfield 108, 3)) ∧ (decode cX5_readBell 12 = .ok (.bipush 12, 2)) ∧ (decode cX5_readBell 14 = .ok (.if_icmp .lt 9, 3)) ∧ (decode cX5_readBell 17 = .ok (.aload_n 0, 1)) ∧ (decode cX5_readBell 18 = .ok (.iconst 5, 1)) ∧ (decode cX5_readBell 19 = .ok (.invokevirtual 57, 3)) ∧ (decode cX5_readBell 22 = .ok (.ireturn, 1)) ∧ (decode cX5_readBell 23 = .ok (.aload_n 1, 1)) ∧ (decode cX5_readBell 24 = .ok (.getfield 108, 3)) ∧ (decode cX5_readBell 27 = .ok (.istore_n 2, 1)) ∧ (decode cX5_readBell 28 = .ok (.aload_n 1, 1)) := by decide +kernel
theorem dX5_readBell_0 : decode cX5_readBell 0 = .ok (.aload_n 0, 1) := dg_cX5_readBell_96.1
theorem dX5_readBell_1 : decode cX5_readBell 1 = .ok (.getfield 12, 3) := dg_cX5_readBell_96.2.1
theorem dX5_readBell_4 : decode cX5_readBell 4 = .ok (.getfield 104, 3) := dg_cX5_readBell_96.2.2.1
theorem dX5_readBell_7 : decode cX5_readBell 7 = .ok (.astore_n 1, 1) := dg_cX5_readBell_96.2.2.2.1
theorem dX5_readBell_8 : decode cX5_readBell 8 = .ok (.aload_n 1, 1) := dg_cX5_readBell_96.2.2.2.2.1
theorem dX5_readBell_9 : decode cX5_readBell 9 = .ok (.getfield 108, 3) := dg_cX5_readBell_96.2.2.2.2.2.1
theorem dX5_readBell_12 : decode cX5_readBell 12 = .ok (.bipush 12, 2) := dg_cX5_readBell_96.2.2.2.2.2.2.1
theorem dX5_readBell_14 : decode cX5_readBell 14 = .ok (.if_icmp .lt 9, 3) := dg_cX5_readBell_96.2.2.2.2.2.2.2.1
theorem dX5_readBell_17 : decode cX5_readBell 17 = .ok (.aload_n 0, 1) := dg_cX5_readBell_96.2.2.2.2.2.2.2.2.1
theorem dX5_readBell_18 : decode cX5_readBell 18 = .ok (.iconst 5, 1) := dg_cX5_readBell_96.2.2.2.2.2.2.2.2.2.1
theorem dX5_readBell_19 : decode cX5_readBell 19 = .ok (.invokevirtual 57, 3) := dg_cX5_readBell_96.2.2.2.2.2.2.2.2.2.2.1
theorem dX5_readBell_22 : decode cX5_readBell 22 = .ok (.ireturn, 1) := dg_cX5_readBell_96.2.2.2.2.2.2.2.2.2.2.2.1
theorem dX5_readBell_23 : decode cX5_readBell 23 = .ok (.aload_n 1, 1) := dg_cX5_readBell_96.2.2.2.2.2.2.2.2.2.2.2.2.1
theorem dX5_readBell_24 : decode cX5_readBell 24 = .ok (.getfield 108, 3) := dg_cX5_readBell_96.2.2.2.2.2.2.2.2.2.2.2.2.2.1
theorem dX5_readBell_27 : decode cX5_readBell 27 = .ok (.istore_n 2, 1) := dg_cX5_readBell_96.2.2.2.2.2.2.2.2.2.2.2.2.2.2.1
theorem dX5_readBell_28 : decode cX5_readBell 28 = .ok (.aload_n 1, 1) := dg_cX5_readBell_96.2.2.2.2.2.2.2.2.2.2.2.2.2.2.2
set_option maxRecDepth 100000 in
theorem dg_cX5_readBell_97 : (decode cX5_readBell 29 = .ok (.getfield 113, 3)) ∧ (decode cX5_readBell 32 = .ok (.iload_n 2, 1)) ∧ (decode cX5_readBell 33 = .ok (.bipush (-4), 2)) ∧ (decode cX5_readBell 35 = .ok (.iastore, 1)) ∧ (decode cX5_readBell 36 = .ok (.aload_n 1, 1)) ∧ (decode cX5_readBell 37 = .ok (.getfield 117, 3)) ∧ (decode cX5_readBell 40 = .ok (.iload_n 2, 1)) ∧ (decode cX5_readBell 41 = .ok (.iconst 0, 1)) ∧ (decode cX5_readBell 42 = .ok (.iastore, 1)) ∧ (decode cX5_readBell 43 = .ok (.aload_n 0, 1)) ∧ (decode cX5_readBell 44 = .ok (.iconst 0, 1)) ∧ (decode cX5_readBell 45 = .ok (.iconst 5, 1)) ∧ (decode cX5_readBell 46 = .ok (.invokevirtual 90, 3)) ∧ (decode cX5_readBell 49 = .ok (.ifCond .ne 5, 3)) ∧ (decode cX5_readBell 52 = .ok (.iconst 0, 1)) ∧ (decode cX5_readBell 53 = .ok (.ireturn, 1)) := by decide +kernel
theorem dX5_readBell_29 : decode cX5_readBell 29 = .ok (.getfield 113, 3) := dg_cX5_readBell_97.1
theorem dX5_readBell_32 : decode cX5_readBell 32 = .ok (.iload_n 2, 1) := dg_cX5_readBell_97.2.1
theorem dX5_readBell_33 : decode cX5_readBell 33 = .ok (.bipush (-4), 2) := dg_cX5_readBell_97.2.2.1
theorem dX5_readBell_35 : decode cX5_readBell 35 = .ok (.iastore, 1) := dg_cX5_readBell_97.2.2.2.1
theorem dX5_readBell_36 : decode cX5_readBell 36 = .ok (.aload_n 1, 1) := dg_cX5_readBell_97.2.2.2.2.1
theorem dX5_readBell_37 : decode cX5_readBell 37 = .ok (.getfield 117, 3) := dg_cX5_readBell_97.2.2.2.2.2.1
theorem dX5_readBell_40 : decode cX5_readBell 40 = .ok (.iload_n 2, 1) := dg_cX5_readBell_97.2.2.2.2.2.2.1
theorem dX5_readBell_41 : decode cX5_readBell 41 = .ok (.iconst 0, 1) := dg_cX5_readBell_97.2.2.2.2.2.2.2.1
theorem dX5_readBell_42 : decode cX5_readBell 42 = .ok (.iastore, 1) := dg_cX5_readBell_97.2.2.2.2.2.2.2.2.1
theorem dX5_readBell_43 : decode cX5_readBell 43 = .ok (.aload_n 0, 1) := dg_cX5_readBell_97.2.2.2.2.2.2.2.2.2.1
theorem dX5_readBell_44 : decode cX5_readBell 44 = .ok (.iconst 0, 1) := dg_cX5_readBell_97.2.2.2.2.2.2.2.2.2.2.1
theorem dX5_readBell_45 : decode cX5_readBell 45 = .ok (.iconst 5, 1) := dg_cX5_readBell_97.2.2.2.2.2.2.2.2.2.2.2.1
theorem dX5_readBell_46 : decode cX5_readBell 46 = .ok (.invokevirtual 90, 3) := dg_cX5_readBell_97.2.2.2.2.2.2.2.2.2.2.2.2.1
theorem dX5_readBell_49 : decode cX5_readBell 49 = .ok (.ifCond .ne 5, 3) := dg_cX5_readBell_97.2.2.2.2.2.2.2.2.2.2.2.2.2.1
theorem dX5_readBell_52 : decode cX5_readBell 52 = .ok (.iconst 0, 1) := dg_cX5_readBell_97.2.2.2.2.2.2.2.2.2.2.2.2.2.2.1
theorem dX5_readBell_53 : decode cX5_readBell 53 = .ok (.ireturn, 1) := dg_cX5_readBell_97.2.2.2.2.2.2.2.2.2.2.2.2.2.2.2
set_option maxRecDepth 100000 in
theorem dg_cX5_readBell_98 : (decode cX5_readBell 54 = .ok (.aload_n 1, 1)) ∧ (decode cX5_readBell 55 = .ok (.getfield 120, 3)) ∧ (decode cX5_readBell 58 = .ok (.iload_n 2, 1)) ∧ (decode cX5_readBell 59 = .ok (.aload_n 0, 1)) ∧ (decode cX5_readBell 60 = .ok (.getfield 18, 3)) ∧ (decode cX5_readBell 63 = .ok (.getfield 94, 3)) ∧ (decode cX5_readBell 66 = .ok (.iastore, 1)) ∧ (decode cX5_readBell 67 = .ok (.aload_n 0, 1)) ∧ (decode cX5_readBell 68 = .ok (.iconst 0, 1)) ∧ (decode cX5_readBell 69 = .ok (.bipush 20, 2)) ∧ (decode cX5_readBell 71 = .ok (.invokevirtual 90, 3)) ∧ (decode cX5_readBell 74 = .ok (.ifCond .ne 5, 3)) ∧ (decode cX5_readBell 77 = .ok (.iconst 0, 1)) ∧ (decode cX5_readBell 78 = .ok (.ireturn, 1)) ∧ (decode cX5_readBell 79 = .ok (.aload_n 1, 1)) ∧ (decode cX5_readBell 80 = .ok (.getfield 123, 3)) := by decide +kernel
theorem dX5_readBell_54 : decode cX5_readBell 54 = .ok (.aload_n 1, 1) := dg_cX5_readBell_98.1
theorem dX5_readBell_55 : decode cX5_readBell 55 = .ok (.getfield 120, 3) := dg_cX5_readBell_98.2.1
theorem dX5_readBell_58 : decode cX5_readBell 58 = .ok (.iload_n 2, 1) := dg_cX5_readBell_98.2.2.1
theorem dX5_readBell_59 : decode cX5_readBell 59 = .ok (.aload_n 0, 1) := dg_cX5_readBell_98.2.2.2.1
theorem dX5_readBell_60 : decode cX5_readBell 60 = .ok (.getfield 18, 3) := dg_cX5_readBell_98.2.2.2.2.1
theorem dX5_readBell_63 : decode cX5_readBell 63 = .ok (.getfield 94, 3) := dg_cX5_readBell_98.2.2.2.2.2.1
theorem dX5_readBell_66 : decode cX5_readBell 66 = .ok (.iastore, 1) := dg_cX5_readBell_98.2.2.2.2.2.2.1
theorem dX5_readBell_67 : decode cX5_readBell 67 = .ok (.aload_n 0, 1) := dg_cX5_readBell_98.2.2.2.2.2.2.2.1
theorem dX5_readBell_68 : decode cX5_readBell 68 = .ok (.iconst 0, 1) := dg_cX5_readBell_98.2.2.2.2.2.2.2.2.1
theorem dX5_readBell_69 : decode cX5_readBell 69 = .ok (.bipush 20, 2) := dg_cX5_readBell_98.2.2.2.2.2.2.2.2.2.1
theorem dX5_readBell_71 : decode cX5_readBell 71 = .ok (.invokevirtual 90, 3) := dg_cX5_readBell_98.2.2.2.2.2.2.2.2.2.2.1
theorem dX5_readBell_74 : decode cX5_readBell 74 = .ok (.ifCond .ne 5, 3) := dg_cX5_readBell_98.2.2.2.2.2.2.2.2.2.2.2.1
theorem dX5_readBell_77 : decode cX5_readBell 77 = .ok (.iconst 0, 1) := dg_cX5_readBell_98.2.2.2.2.2.2.2.2.2.2.2.2.1
theorem dX5_readBell_78 : decode cX5_readBell 78 = .ok (.ireturn, 1) := dg_cX5_readBell_98.2.2.2.2.2.2.2.2.2.2.2.2.2.1
theorem dX5_readBell_79 : decode cX5_readBell 79 = .ok (.aload_n 1, 1) := dg_cX5_readBell_98.2.2.2.2.2.2.2.2.2.2.2.2.2.2.1
theorem dX5_readBell_80 : decode cX5_readBell 80 = .ok (.getfield 123, 3) := dg_cX5_readBell_98.2.2.2.2.2.2.2.2.2.2.2.2.2.2.2
set_option maxRecDepth 100000 in
theorem dg_cX5_readBell_99 : (decode cX5_readBell 83 = .ok (.iload_n 2, 1)) ∧ (decode cX5_readBell 84 = .ok (.aload_n 0, 1)) ∧ (decode cX5_readBell 85 = .ok (.getfield 18, 3)) ∧ (decode cX5_readBell 88 = .ok (.getfield 94, 3)) ∧ (decode cX5_readBell 91 = .ok (.iastore, 1)) ∧ (decode cX5_readBell 92 = .ok (.aload_n 0, 1)) ∧ (decode cX5_readBell 93 = .ok (.iconst 0, 1)) ∧ (decode cX5_readBell 94 = .ok (.bipush 9, 2)) ∧ (decode cX5_readBell 96 = .ok (.invokevirtual 90, 3)) ∧ (decode cX5_readBell 99 = .ok (.ifCond .ne 5, 3)) ∧ (decode cX5_readBell 102 = .ok (.iconst 0, 1)) ∧ (decode cX5_readBell 103 = .ok (.ireturn, 1)) ∧ (decode cX5_readBell 104 = .ok (.aload_n 1, 1)) ∧ (decode cX5_readBell 105 = .ok (.getfield 126, 3)) ∧ (decode cX5_readBell 108 = .ok (.iload_n 2, 1)) ∧ (decode cX5_readBell 109 = .ok (.aload_n 0, 1)) := by decide +kernel
theorem dX5_readBell_83 : decode cX5_readBell 83 = .ok (.iload_n 2, 1) := dg_cX5_readBell_99.1
theorem dX5_readBell_84 : decode cX5_readBell 84 = .ok (.aload_n 0, 1) := dg_cX5_readBell_99.2.1
theorem dX5_readBell_85 : decode cX5_readBell 85 = .ok (.getfield 18, 3) := dg_cX5_readBell_99.2.2.1
theorem dX5_readBell_88 : decode cX5_readBell 88 = .ok (.getfield 94, 3) := dg_cX5_readBell_99.2.2.2.1
theorem dX5_readBell_91 : decode cX5_readBell 91 = .ok (.iastore, 1) := dg_cX5_readBell_99.2.2.2.2.1
theorem dX5_readBell_92 : decode cX5_readBell 92 = .ok (.aload_n 0, 1) := dg_cX5_readBell_99.2.2.2.2.2.1
theorem dX5_readBell_93 : decode cX5_readBell 93 = .ok (.iconst 0, 1) := dg_cX5_readBell_99.2.2.2.2.2.2.1
theorem dX5_readBell_94 : decode cX5_readBell 94 = .ok (.bipush 9, 2) := dg_cX5_readBell_99.2.2.2.2.2.2.2.1
theorem dX5_readBell_96 : decode cX5_readBell 96 = .ok (.invokevirtual 90, 3) := dg_cX5_readBell_99.2.2.2.2.2.2.2.2.1
theorem dX5_readBell_99 : decode cX5_readBell 99 = .ok (.ifCond .ne 5, 3) := dg_cX5_readBell_99.2.2.2.2.2.2.2.2.2.1
theorem dX5_readBell_102 : decode cX5_readBell 102 = .ok (.iconst 0, 1) := dg_cX5_readBell_99.2.2.2.2.2.2.2.2.2.2.1
theorem dX5_readBell_103 : decode cX5_readBell 103 = .ok (.ireturn, 1) := dg_cX5_readBell_99.2.2.2.2.2.2.2.2.2.2.2.1
theorem dX5_readBell_104 : decode cX5_readBell 104 = .ok (.aload_n 1, 1) := dg_cX5_readBell_99.2.2.2.2.2.2.2.2.2.2.2.2.1
theorem dX5_readBell_105 : decode cX5_readBell 105 = .ok (.getfield 126, 3) := dg_cX5_readBell_99.2.2.2.2.2.2.2.2.2.2.2.2.2.1
theorem dX5_readBell_108 : decode cX5_readBell 108 = .ok (.iload_n 2, 1) := dg_cX5_readBell_99.2.2.2.2.2.2.2.2.2.2.2.2.2.2.1
theorem dX5_readBell_109 : decode cX5_readBell 109 = .ok (.aload_n 0, 1) := dg_cX5_readBell_99.2.2.2.2.2.2.2.2.2.2.2.2.2.2.2
set_option maxRecDepth 100000 in
theorem dg_cX5_readBell_100 : (decode cX5_readBell 110 = .ok (.getfield 18, 3)) ∧ (decode cX5_readBell 113 = .ok (.getfield 94, 3)) ∧ (decode cX5_readBell 116 = .ok (.iastore, 1)) ∧ (decode cX5_readBell 117 = .ok (.aload_n 1, 1)) ∧ (decode cX5_readBell 118 = .ok (.dup, 1)) ∧ (decode cX5_readBell 119 = .ok (.getfield 108, 3)) ∧ (decode cX5_readBell 122 = .ok (.iconst 1, 1)) ∧ (decode cX5_readBell 123 = .ok (.iadd, 1)) ∧ (decode cX5_readBell 124 = .ok (.putfield 108, 3)) ∧ (decode cX5_readBell 127 = .ok (.aload_n 0, 1)) ∧ (decode cX5_readBell 128 = .ok (.invokevirtual 44, 3)) ∧ (decode cX5_readBell 131 = .ok (.ifCond .eq 23, 3)) ∧ (decode cX5_readBell 134 = .ok (.aload_n 0, 1)) ∧ (decode cX5_readBell 135 = .ok (.aload_n 1, 1)) ∧ (decode cX5_readBell 136 = .ok (.iload_n 2, 1)) ∧ (decode cX5_readBell 137 = .ok (.invokevirtual 129, 3)) := by decide +kernel
theorem dX5_readBell_110 : decode cX5_readBell 110 = .ok (.getfield 18, 3) := dg_cX5_readBell_100.1
theorem dX5_readBell_113 : decode cX5_readBell 113 = .ok (.getfield 94, 3) := dg_cX5_readBell_100.2.1
theorem dX5_readBell_116 : decode cX5_readBell 116 = .ok (.iastore, 1) := dg_cX5_readBell_100.2.2.1
theorem dX5_readBell_117 : decode cX5_readBell 117 = .ok (.aload_n 1, 1) := dg_cX5_readBell_100.2.2.2.1
theorem dX5_readBell_118 : decode cX5_readBell 118 = .ok (.dup, 1) := dg_cX5_readBell_100.2.2.2.2.1
theorem dX5_readBell_119 : decode cX5_readBell 119 = .ok (.getfield 108, 3) := dg_cX5_readBell_100.2.2.2.2.2.1
theorem dX5_readBell_122 : decode cX5_readBell 122 = .ok (.iconst 1, 1) := dg_cX5_readBell_100.2.2.2.2.2.2.1
theorem dX5_readBell_123 : decode cX5_readBell 123 = .ok (.iadd, 1) := dg_cX5_readBell_100.2.2.2.2.2.2.2.1
theorem dX5_readBell_124 : decode cX5_readBell 124 = .ok (.putfield 108, 3) := dg_cX5_readBell_100.2.2.2.2.2.2.2.2.1
theorem dX5_readBell_127 : decode cX5_readBell 127 = .ok (.aload_n 0, 1) := dg_cX5_readBell_100.2.2.2.2.2.2.2.2.2.1
theorem dX5_readBell_128 : decode cX5_readBell 128 = .ok (.invokevirtual 44, 3) := dg_cX5_readBell_100.2.2.2.2.2.2.2.2.2.2.1
theorem dX5_readBell_131 : decode cX5_readBell 131 = .ok (.ifCond .eq 23, 3) := dg_cX5_readBell_100.2.2.2.2.2.2.2.2.2.2.2.1
theorem dX5_readBell_134 : decode cX5_readBell 134 = .ok (.aload_n 0, 1) := dg_cX5_readBell_100.2.2.2.2.2.2.2.2.2.2.2.2.1
theorem dX5_readBell_135 : decode cX5_readBell 135 = .ok (.aload_n 1, 1) := dg_cX5_readBell_100.2.2.2.2.2.2.2.2.2.2.2.2.2.1
theorem dX5_readBell_136 : decode cX5_readBell 136 = .ok (.iload_n 2, 1) := dg_cX5_readBell_100.2.2.2.2.2.2.2.2.2.2.2.2.2.2.1
theorem dX5_readBell_137 : decode cX5_readBell 137 = .ok (.invokevirtual 129, 3) := dg_cX5_readBell_100.2.2.2.2.2.2.2.2.2.2.2.2.2.2.2
set_option maxRecDepth 100000 in
theorem dg_cX5_readBell_101 : (decode cX5_readBell 140 = .ok (.ifCond .eq 14, 3)) ∧ (decode cX5_readBell 143 = .ok (.aload_n 0, 1)) ∧ (decode cX5_readBell 144 = .ok (.invokevirtual 99, 3)) ∧ (decode cX5_readBell 147 = .ok (.ifCond .eq 7, 3)) ∧ (decode cX5_readBell 150 = .ok (.iconst 1, 1)) ∧ (decode cX5_readBell 151 = .ok (.goto 4, 3)) ∧ (decode cX5_readBell 154 = .ok (.iconst 0, 1)) ∧ (decode cX5_readBell 155 = .ok (.ireturn, 1)) := by decide +kernel
theorem dX5_readBell_140 : decode cX5_readBell 140 = .ok (.ifCond .eq 14, 3) := dg_cX5_readBell_101.1
theorem dX5_readBell_143 : decode cX5_readBell 143 = .ok (.aload_n 0, 1) := dg_cX5_readBell_101.2.1
theorem dX5_readBell_144 : decode cX5_readBell 144 = .ok (.invokevirtual 99, 3) := dg_cX5_readBell_101.2.2.1
theorem dX5_readBell_147 : decode cX5_readBell 147 = .ok (.ifCond .eq 7, 3) := dg_cX5_readBell_101.2.2.2.1
theorem dX5_readBell_150 : decode cX5_readBell 150 = .ok (.iconst 1, 1) := dg_cX5_readBell_101.2.2.2.2.1
theorem dX5_readBell_151 : decode cX5_readBell 151 = .ok (.goto 4, 3) := dg_cX5_readBell_101.2.2.2.2.2.1
theorem dX5_readBell_154 : decode cX5_readBell 154 = .ok (.iconst 0, 1) := dg_cX5_readBell_101.2.2.2.2.2.2.1
theorem dX5_readBell_155 : decode cX5_readBell 155 = .ok (.ireturn, 1) := dg_cX5_readBell_101.2.2.2.2.2.2.2
set_option maxRecDepth 100000 in
theorem dg_cX5_readWiths_102 : (decode cX5_readWiths 0 = .ok (.iconst 0, 1)) ∧ (decode cX5_readWiths 1 = .ok (.istore_n 3, 1)) ∧ (decode cX5_readWiths 2 = .ok (.iload_n 3, 1)) ∧ (decode cX5_readWiths 3 = .ok (.iconst 3, 1)) ∧ (decode cX5_readWiths 4 = .ok (.if_icmp .ge 143, 3)) ∧ (decode cX5_readWiths 7 = .ok (.aload_n 0, 1)) ∧ (decode cX5_readWiths 8 = .ok (.getfield 18, 3)) ∧ (decode cX5_readWiths 11 = .ok (.ldc 133, 2)) ∧ (decode cX5_readWiths 13 = .ok (.invokevirtual 63, 3)) ∧ (decode cX5_readWiths 16 = .ok (.istore 4, 2)) ∧ (decode cX5_readWiths 18 = .ok (.iload 4, 2)) ∧ (decode cX5_readWiths 20 = .ok (.ifCond .ne 17, 3)) ∧ (decode cX5_readWiths 23 = .ok (.aload_n 0, 1)) ∧ (decode cX5_readWiths 24 = .ok (.getfield 18, 3)) ∧ (decode cX5_readWiths 27 = .ok (.ldc 134, 2)) ∧ (decode cX5_readWiths 29 = .ok (.invokevirtual 63, 3)) := by decide +kernel
theorem dX5_readWiths_0 : decode cX5_readWiths 0 = .ok (.iconst 0, 1) := dg_cX5_readWiths_102.1
theorem dX5_readWiths_1 : decode cX5_readWiths 1 = .ok (.istore_n 3, 1) := dg_cX5_readWiths_102.2.1
theorem dX5_readWiths_2 : decode cX5_readWiths 2 = .ok (.iload_n 3, 1) := dg_cX5_readWiths_102.2.2.1
theorem dX5_readWiths_3 : decode cX5_readWiths 3 = .ok (.iconst 3, 1) := dg_cX5_readWiths_102.2.2.2.1
theorem dX5_readWiths_4 : decode cX5_readWiths 4 = .ok (.if_icmp .ge 143, 3) := dg_cX5_readWiths_102.2.2.2.2.1
theorem dX5_readWiths_7 : decode cX5_readWiths 7 = .ok (.aload_n 0, 1) := dg_cX5_readWiths_102.2.2.2.2.2.1
theorem dX5_readWiths_8 : decode cX5_readWiths 8 = .ok (.getfield 18, 3) := dg_cX5_readWiths_102.2.2.2.2.2.2.1
theorem dX5_readWiths_11 : decode cX5_readWiths 11 = .ok (.ldc 133, 2) := dg_cX5_readWiths_102.2.2.2.2.2.2.2.1
theorem dX5_readWiths_13 : decode cX5_readWiths 13 = .ok (.invokevirtual 63, 3) := dg_cX5_readWiths_102.2.2.2.2.2.2.2.2.1
theorem dX5_readWiths_16 : decode cX5_readWiths 16 = .ok (.istore 4, 2) := dg_cX5_readWiths_102.2.2.2.2.2.2.2.2.2.1
theorem dX5_readWiths_18 : decode cX5_readWiths 18 = .ok (.iload 4, 2) := dg_cX5_readWiths_102.2.2.2.2.2.2.2.2.2.2.1
theorem dX5_readWiths_20 : decode cX5_readWiths 20 = .ok (.ifCond .ne 17, 3) := dg_cX5_readWiths_102.2.2.2.2.2.2.2.2.2.2.2.1
theorem dX5_readWiths_23 : decode cX5_readWiths 23 = .ok (.aload_n 0, 1) := dg_cX5_readWiths_102.2.2.2.2.2.2.2.2.2.2.2.2.1
theorem dX5_readWiths_24 : decode cX5_readWiths 24 = .ok (.getfield 18, 3) := dg_cX5_readWiths_102.2.2.2.2.2.2.2.2.2.2.2.2.2.1
theorem dX5_readWiths_27 : decode cX5_readWiths 27 = .ok (.ldc 134, 2) := dg_cX5_readWiths_102.2.2.2.2.2.2.2.2.2.2.2.2.2.2.1
theorem dX5_readWiths_29 : decode cX5_readWiths 29 = .ok (.invokevirtual 63, 3) := dg_cX5_readWiths_102.2.2.2.2.2.2.2.2.2.2.2.2.2.2.2
set_option maxRecDepth 100000 in
theorem dg_cX5_readWiths_103 : (decode cX5_readWiths 32 = .ok (.ifCond .ne 5, 3)) ∧ (decode cX5_readWiths 35 = .ok (.iconst 1, 1)) ∧ (decode cX5_readWiths 36 = .ok (.ireturn, 1)) ∧ (decode cX5_readWiths 37 = .ok (.iload 4, 2)) ∧ (decode cX5_readWiths 39 = .ok (.ifCond .eq 17, 3)) ∧ (decode cX5_readWiths 42 = .ok (.aload_n 1, 1)) ∧ (decode cX5_readWiths 43 = .ok (.getfield 113, 3)) ∧ (decode cX5_readWiths 46 = .ok (.iload_n 2, 1)) ∧ (decode cX5_readWiths 47 = .ok (.iaload, 1)) ∧ (decode cX5_readWiths 48 = .ok (.bipush (-4), 2)) ∧ (decode cX5_readWiths 50 = .ok (.if_icmp .eq 21, 3)) ∧ (decode cX5_readWiths 53 = .ok (.goto 12, 3)) ∧ (decode cX5_readWiths 56 = .ok (.aload_n 1, 1)) ∧ (decode cX5_readWiths 57 = .ok (.getfield 117, 3)) ∧ (decode cX5_readWiths 60 = .ok (.iload_n 2, 1)) ∧ (decode cX5_readWiths 61 = .ok (.iaload, 1)) := by decide +kernel
theorem dX5_readWiths_32 : decode cX5_readWiths 32 = .ok (.ifCond .ne 5, 3) := dg_cX5_readWiths_103.1
theorem dX5_readWiths_35 : decode cX5_readWiths 35 = .ok (.iconst 1, 1) := dg_cX5_readWiths_103.2.1
theorem dX5_readWiths_36 : decode cX5_readWiths 36 = .ok (.ireturn, 1) := dg_cX5_readWiths_103.2.2.1
theorem dX5_readWiths_37 : decode cX5_readWiths 37 = .ok (.iload 4, 2) := dg_cX5_readWiths_103.2.2.2.1
theorem dX5_readWiths_39 : decode cX5_readWiths 39 = .ok (.ifCond .eq 17, 3) := dg_cX5_readWiths_103.2.2.2.2.1
theorem dX5_readWiths_42 : decode cX5_readWiths 42 = .ok (.aload_n 1, 1) := dg_cX5_readWiths_103.2.2.2.2.2.1
theorem dX5_readWiths_43 : decode cX5_readWiths 43 = .ok (.getfield 113, 3) := dg_cX5_readWiths_103.2.2.2.2.2.2.1
theorem dX5_readWiths_46 : decode cX5_readWiths 46 = .ok (.iload_n 2, 1) := dg_cX5_readWiths_103.2.2.2.2.2.2.2.1
theorem dX5_readWiths_47 : decode cX5_readWiths 47 = .ok (.iaload, 1) := dg_cX5_readWiths_103.2.2.2.2.2.2.2.2.1
theorem dX5_readWiths_48 : decode cX5_readWiths 48 = .ok (.bipush (-4), 2) := dg_cX5_readWiths_103.2.2.2.2.2.2.2.2.2.1
theorem dX5_readWiths_50 : decode cX5_readWiths 50 = .ok (.if_icmp .eq 21, 3) := dg_cX5_readWiths_103.2.2.2.2.2.2.2.2.2.2.1
theorem dX5_readWiths_53 : decode cX5_readWiths 53 = .ok (.goto 12, 3) := dg_cX5_readWiths_103.2.2.2.2.2.2.2.2.2.2.2.1
theorem dX5_readWiths_56 : decode cX5_readWiths 56 = .ok (.aload_n 1, 1) := dg_cX5_readWiths_103.2.2.2.2.2.2.2.2.2.2.2.2.1
theorem dX5_readWiths_57 : decode cX5_readWiths 57 = .ok (.getfield 117, 3) := dg_cX5_readWiths_103.2.2.2.2.2.2.2.2.2.2.2.2.2.1
theorem dX5_readWiths_60 : decode cX5_readWiths 60 = .ok (.iload_n 2, 1) := dg_cX5_readWiths_103.2.2.2.2.2.2.2.2.2.2.2.2.2.2.1
theorem dX5_readWiths_61 : decode cX5_readWiths 61 = .ok (.iaload, 1) := dg_cX5_readWiths_103.2.2.2.2.2.2.2.2.2.2.2.2.2.2.2
set_option maxRecDepth 100000 in
theorem dg_cX5_readWiths_104 : (decode cX5_readWiths 62 = .ok (.ifCond .eq 9, 3)) ∧ (decode cX5_readWiths 65 = .ok (.aload_n 0, 1)) ∧ (decode cX5_readWiths 66 = .ok (.iconst 4, 1)) ∧ (decode cX5_readWiths 67 = .ok (.invokevirtual 57, 3)) ∧ (decode cX5_readWiths 70 = .ok (.ireturn, 1)) ∧ (decode cX5_readWiths 71 = .ok (.iload 4, 2)) ∧ (decode cX5_readWiths 73 = .ok (.ifCond .ne 13, 3)) ∧ (decode cX5_readWiths 76 = .ok (.aload_n 1, 1)) ∧ (decode cX5_readWiths 77 = .ok (.getfield 117, 3)) ∧ (decode cX5_readWiths 80 = .ok (.iload_n 2, 1)) ∧ (decode cX5_readWiths 81 = .ok (.iconst 1, 1)) ∧ (decode cX5_readWiths 82 = .ok (.iastore, 1)) ∧ (decode cX5_readWiths 83 = .ok (.goto 49, 3)) ∧ (decode cX5_readWiths 86 = .ok (.aload_n 0, 1)) ∧ (decode cX5_readWiths 87 = .ok (.iconst 0, 1)) ∧ (decode cX5_readWiths 88 = .ok (.iconst 5, 1)) := by decide +kernel
theorem dX5_readWiths_62 : decode cX5_readWiths 62 = .ok (.ifCond .eq 9, 3) := dg_cX5_readWiths_104.1
theorem dX5_readWiths_65 : decode cX5_readWiths 65 = .ok (.aload_n 0, 1) := dg_cX5_readWiths_104.2.1
theorem dX5_readWiths_66 : decode cX5_readWiths 66 = .ok (.iconst 4, 1) := dg_cX5_readWiths_104.2.2.1
theorem dX5_readWiths_67 : decode cX5_readWiths 67 = .ok (.invokevirtual 57, 3) := dg_cX5_readWiths_104.2.2.2.1
theorem dX5_readWiths_70 : decode cX5_readWiths 70 = .ok (.ireturn, 1) := dg_cX5_readWiths_104.2.2.2.2.1
theorem dX5_readWiths_71 : decode cX5_readWiths 71 = .ok (.iload 4, 2) := dg_cX5_readWiths_104.2.2.2.2.2.1
theorem dX5_readWiths_73 : decode cX5_readWiths 73 = .ok (.ifCond .ne 13, 3) := dg_cX5_readWiths_104.2.2.2.2.2.2.1
theorem dX5_readWiths_76 : decode cX5_readWiths 76 = .ok (.aload_n 1, 1) := dg_cX5_readWiths_104.2.2.2.2.2.2.2.1
theorem dX5_readWiths_77 : decode cX5_readWiths 77 = .ok (.getfield 117, 3) := dg_cX5_readWiths_104.2.2.2.2.2.2.2.2.1
theorem dX5_readWiths_80 : decode cX5_readWiths 80 = .ok (.iload_n 2, 1) := dg_cX5_readWiths_104.2.2.2.2.2.2.2.2.2.1
theorem dX5_readWiths_81 : decode cX5_readWiths 81 = .ok (.iconst 1, 1) := dg_cX5_readWiths_104.2.2.2.2.2.2.2.2.2.2.1
theorem dX5_readWiths_82 : decode cX5_readWiths 82 = .ok (.iastore, 1) := dg_cX5_readWiths_104.2.2.2.2.2.2.2.2.2.2.2.1
theorem dX5_readWiths_83 : decode cX5_readWiths 83 = .ok (.goto 49, 3) := dg_cX5_readWiths_104.2.2.2.2.2.2.2.2.2.2.2.2.1
theorem dX5_readWiths_86 : decode cX5_readWiths 86 = .ok (.aload_n 0, 1) := dg_cX5_readWiths_104.2.2.2.2.2.2.2.2.2.2.2.2.2.1
theorem dX5_readWiths_87 : decode cX5_readWiths 87 = .ok (.iconst 0, 1) := dg_cX5_readWiths_104.2.2.2.2.2.2.2.2.2.2.2.2.2.2.1
theorem dX5_readWiths_88 : decode cX5_readWiths 88 = .ok (.iconst 5, 1) := dg_cX5_readWiths_104.2.2.2.2.2.2.2.2.2.2.2.2.2.2.2
set_option maxRecDepth 100000 in
theorem dg_cX5_readWiths_105 : (decode cX5_readWiths 89 = .ok (.invokevirtual 90, 3)) ∧ (decode cX5_readWiths 92 = .ok (.ifCond .ne 5, 3)) ∧ (decode cX5_readWiths 95 = .ok (.iconst 0, 1)) ∧ (decode cX5_readWiths 96 = .ok (.ireturn, 1)) ∧ (decode cX5_readWiths 97 = .ok (.aload_n 0, 1)) ∧ (decode cX5_readWiths 98 = .ok (.getfield 18, 3)) ∧ (decode cX5_readWiths 101 = .ok (.getfield 94, 3)) ∧ (decode cX5_readWiths 104 = .ok (.aload_n 1, 1)) ∧ (decode cX5_readWiths 105 = .ok (.getfield 120, 3)) ∧ (decode cX5_readWiths 108 = .ok (.iload_n 2, 1)) ∧ (decode cX5_readWiths 109 = .ok (.iaload, 1)) ∧ (decode cX5_readWiths 110 = .ok (.if_icmp .ne 9, 3)) ∧ (decode cX5_readWiths 113 = .ok (.aload_n 0, 1)) ∧ (decode cX5_readWiths 114 = .ok (.iconst 4, 1)) ∧ (decode cX5_readWiths 115 = .ok (.invokevirtual 57, 3)) ∧ (decode cX5_readWiths 118 = .ok (.ireturn, 1)) := by decide +kernel
theorem dX5_readWiths_89 : decode cX5_readWiths 89 = .ok (.invokevirtual 90, 3) := dg_cX5_readWiths_105.1
theorem dX5_readWiths_92 : decode cX5_readWiths 92 = .ok (.ifCond .ne 5, 3) := dg_cX5_readWiths_105.2.1
theorem dX5_readWiths_95 : decode cX5_readWiths 95 = .ok (.iconst 0, 1) := dg_cX5_readWiths_105.2.2.1
theorem dX5_readWiths_96 : decode cX5_readWiths 96 = .ok (.ireturn, 1) := dg_cX5_readWiths_105.2.2.2.1
theorem dX5_readWiths_97 : decode cX5_readWiths 97 = .ok (.aload_n 0, 1) := dg_cX5_readWiths_105.2.2.2.2.1
theorem dX5_readWiths_98 : decode cX5_readWiths 98 = .ok (.getfield 18, 3) := dg_cX5_readWiths_105.2.2.2.2.2.1
theorem dX5_readWiths_101 : decode cX5_readWiths 101 = .ok (.getfield 94, 3) := dg_cX5_readWiths_105.2.2.2.2.2.2.1
theorem dX5_readWiths_104 : decode cX5_readWiths 104 = .ok (.aload_n 1, 1) := dg_cX5_readWiths_105.2.2.2.2.2.2.2.1
theorem dX5_readWiths_105 : decode cX5_readWiths 105 = .ok (.getfield 120, 3) := dg_cX5_readWiths_105.2.2.2.2.2.2.2.2.1
theorem dX5_readWiths_108 : decode cX5_readWiths 108 = .ok (.iload_n 2, 1) := dg_cX5_readWiths_105.2.2.2.2.2.2.2.2.2.1
theorem dX5_readWiths_109 : decode cX5_readWiths 109 = .ok (.iaload, 1) := dg_cX5_readWiths_105.2.2.2.2.2.2.2.2.2.2.1
theorem dX5_readWiths_110 : decode cX5_readWiths 110 = .ok (.if_icmp .ne 9, 3) := dg_cX5_readWiths_105.2.2.2.2.2.2.2.2.2.2.2.1
theorem dX5_readWiths_113 : decode cX5_readWiths 113 = .ok (.aload_n 0, 1) := dg_cX5_readWiths_105.2.2.2.2.2.2.2.2.2.2.2.2.1
theorem dX5_readWiths_114 : decode cX5_readWiths 114 = .ok (.iconst 4, 1) := dg_cX5_readWiths_105.2.2.2.2.2.2.2.2.2.2.2.2.2.1
theorem dX5_readWiths_115 : decode cX5_readWiths 115 = .ok (.invokevirtual 57, 3) := dg_cX5_readWiths_105.2.2.2.2.2.2.2.2.2.2.2.2.2.2.1
theorem dX5_readWiths_118 : decode cX5_readWiths 118 = .ok (.ireturn, 1) := dg_cX5_readWiths_105.2.2.2.2.2.2.2.2.2.2.2.2.2.2.2
set_option maxRecDepth 100000 in
theorem dg_cX5_readWiths_106 : (decode cX5_readWiths 119 = .ok (.aload_n 1, 1)) ∧ (decode cX5_readWiths 120 = .ok (.getfield 113, 3)) ∧ (decode cX5_readWiths 123 = .ok (.iload_n 2, 1)) ∧ (decode cX5_readWiths 124 = .ok (.aload_n 0, 1)) ∧ (decode cX5_readWiths 125 = .ok (.getfield 18, 3)) ∧ (decode cX5_readWiths 128 = .ok (.getfield 94, 3)) ∧ (decode cX5_readWiths 131 = .ok (.iastore, 1)) ∧ (decode cX5_readWiths 132 = .ok (.aload_n 0, 1)) ∧ (decode cX5_readWiths 133 = .ok (.invokevirtual 44, 3)) ∧ (decode cX5_readWiths 136 = .ok (.ifCond .ne 5, 3)) ∧ (decode cX5_readWiths 139 = .ok (.iconst 0, 1)) ∧ (decode cX5_readWiths 140 = .ok (.ireturn, 1)) ∧ (decode cX5_readWiths 141 = .ok (.iinc 3 1, 3)) ∧ (decode cX5_readWiths 144 = .ok (.goto (-142), 3)) ∧ (decode cX5_readWiths 147 = .ok (.iconst 1, 1)) ∧ (decode cX5_readWiths 148 = .ok (.ireturn, 1)) := by decide +kernel
theorem dX5_readWiths_119 : decode cX5_readWiths 119 = .ok (.aload_n 1, 1) := dg_cX5_readWiths_106.1
theorem dX5_readWiths_120 : decode cX5_readWiths 120 = .ok (.getfield 113, 3) := dg_cX5_readWiths_106.2.1
theorem dX5_readWiths_123 : decode cX5_readWiths 123 = .ok (.iload_n 2, 1) := dg_cX5_readWiths_106.2.2.1
theorem dX5_readWiths_124 : decode cX5_readWiths 124 = .ok (.aload_n 0, 1) := dg_cX5_readWiths_106.2.2.2.1
theorem dX5_readWiths_125 : decode cX5_readWiths 125 = .ok (.getfield 18, 3) := dg_cX5_readWiths_106.2.2.2.2.1
theorem dX5_readWiths_128 : decode cX5_readWiths 128 = .ok (.getfield 94, 3) := dg_cX5_readWiths_106.2.2.2.2.2.1
theorem dX5_readWiths_131 : decode cX5_readWiths 131 = .ok (.iastore, 1) := dg_cX5_readWiths_106.2.2.2.2.2.2.1
theorem dX5_readWiths_132 : decode cX5_readWiths 132 = .ok (.aload_n 0, 1) := dg_cX5_readWiths_106.2.2.2.2.2.2.2.1
theorem dX5_readWiths_133 : decode cX5_readWiths 133 = .ok (.invokevirtual 44, 3) := dg_cX5_readWiths_106.2.2.2.2.2.2.2.2.1
theorem dX5_readWiths_136 : decode cX5_readWiths 136 = .ok (.ifCond .ne 5, 3) := dg_cX5_readWiths_106.2.2.2.2.2.2.2.2.2.1
theorem dX5_readWiths_139 : decode cX5_readWiths 139 = .ok (.iconst 0, 1) := dg_cX5_readWiths_106.2.2.2.2.2.2.2.2.2.2.1
theorem dX5_readWiths_140 : decode cX5_readWiths 140 = .ok (.ireturn, 1) := dg_cX5_readWiths_106.2.2.2.2.2.2.2.2.2.2.2.1
theorem dX5_readWiths_141 : decode cX5_readWiths 141 = .ok (.iinc 3 1, 3) := dg_cX5_readWiths_106.2.2.2.2.2.2.2.2.2.2.2.2.1
theorem dX5_readWiths_144 : decode cX5_readWiths 144 = .ok (.goto (-142), 3) := dg_cX5_readWiths_106.2.2.2.2.2.2.2.2.2.2.2.2.2.1
theorem dX5_readWiths_147 : decode cX5_readWiths 147 = .ok (.iconst 1, 1) := dg_cX5_readWiths_106.2.2.2.2.2.2.2.2.2.2.2.2.2.2.1
theorem dX5_readWiths_148 : decode cX5_readWiths 148 = .ok (.ireturn, 1) := dg_cX5_readWiths_106.2.2.2.2.2.2.2.2.2.2.2.2.2.2.2
set_option maxRecDepth 100000 in
theorem dg_cX5_readTune_107 : (decode cX5_readTune 0 = .ok (.aload_n 0, 1)) ∧ (decode cX5_readTune 1 = .ok (.getfield 12, 3)) ∧ (decode cX5_readTune 4 = .ok (.getfield 135, 3)) ∧ (decode cX5_readTune 7 = .ok (.bipush 6, 2)) ∧ (decode cX5_readTune 9 = .ok (.if_icmp .lt 9, 3)) ∧ (decode cX5_readTune 12 = .ok (.aload_n 0, 1)) ∧ (decode cX5_readTune 13 = .ok (.iconst 5, 1)) ∧ (decode cX5_readTune 14 = .ok (.invokevirtual 57, 3)) ∧ (decode cX5_readTune 17 = .ok (.ireturn, 1)) ∧ (decode cX5_readTune 18 = .ok (.aload_n 0, 1)) ∧ (decode cX5_readTune 19 = .ok (.getfield 12, 3)) ∧ (decode cX5_readTune 22 = .ok (.getfield 135, 3)) ∧ (decode cX5_readTune 25 = .ok (.istore_n 1, 1)) ∧ (decode cX5_readTune 26 = .ok (.aload_n 0, 1)) ∧ (decode cX5_readTune 27 = .ok (.iconst 0, 1)) ∧ (decode cX5_readTune 28 = .ok (.bipush 99, 2)) := by decide +kernel
theorem dX5_readTune_0 : decode cX5_readTune 0 = .ok (.aload_n 0, 1) := dg_cX5_readTune_107.1
theorem dX5_readTune_1 : decode cX5_readTune 1 = .ok (.getfield 12, 3) := dg_cX5_readTune_107.2.1
theorem dX5_readTune_4 : decode cX5_readTune 4 = .ok (.getfield 135, 3) := dg_cX5_readTune_107.2.2.1
theorem dX5_readTune_7 : decode cX5_readTune 7 = .ok (.bipush 6, 2) := dg_cX5_readTune_107.2.2.2.1
theorem dX5_readTune_9 : decode cX5_readTune 9 = .ok (.if_icmp .lt 9, 3) := dg_cX5_readTune_107.2.2.2.2.1
theorem dX5_readTune_12 : decode cX5_readTune 12 = .ok (.aload_n 0, 1) := dg_cX5_readTune_107.2.2.2.2.2.1
theorem dX5_readTune_13 : decode cX5_readTune 13 = .ok (.iconst 5, 1) := dg_cX5_readTune_107.2.2.2.2.2.2.1
theorem dX5_readTune_14 : decode cX5_readTune 14 = .ok (.invokevirtual 57, 3) := dg_cX5_readTune_107.2.2.2.2.2.2.2.1
theorem dX5_readTune_17 : decode cX5_readTune 17 = .ok (.ireturn, 1) := dg_cX5_readTune_107.2.2.2.2.2.2.2.2.1
theorem dX5_readTune_18 : decode cX5_readTune 18 = .ok (.aload_n 0, 1) := dg_cX5_readTune_107.2.2.2.2.2.2.2.2.2.1
theorem dX5_readTune_19 : decode cX5_readTune 19 = .ok (.getfield 12, 3) := dg_cX5_readTune_107.2.2.2.2.2.2.2.2.2.2.1
theorem dX5_readTune_22 : decode cX5_readTune 22 = .ok (.getfield 135, 3) := dg_cX5_readTune_107.2.2.2.2.2.2.2.2.2.2.2.1
theorem dX5_readTune_25 : decode cX5_readTune 25 = .ok (.istore_n 1, 1) := dg_cX5_readTune_107.2.2.2.2.2.2.2.2.2.2.2.2.1
theorem dX5_readTune_26 : decode cX5_readTune 26 = .ok (.aload_n 0, 1) := dg_cX5_readTune_107.2.2.2.2.2.2.2.2.2.2.2.2.2.1
theorem dX5_readTune_27 : decode cX5_readTune 27 = .ok (.iconst 0, 1) := dg_cX5_readTune_107.2.2.2.2.2.2.2.2.2.2.2.2.2.2.1
theorem dX5_readTune_28 : decode cX5_readTune 28 = .ok (.bipush 99, 2) := dg_cX5_readTune_107.2.2.2.2.2.2.2.2.2.2.2.2.2.2.2
set_option maxRecDepth 100000 in
theorem dg_cX5_readTune_108 : (decode cX5_readTune 30 = .ok (.invokevirtual 90, 3)) ∧ (decode cX5_readTune 33 = .ok (.ifCond .ne 5, 3)) ∧ (decode cX5_readTune 36 = .ok (.iconst 0, 1)) ∧ (decode cX5_readTune 37 = .ok (.ireturn, 1)) ∧ (decode cX5_readTune 38 = .ok (.aload_n 0, 1)) ∧ (decode cX5_readTune 39 = .ok (.getfield 12, 3)) ∧ (decode cX5_readTune 42 = .ok (.getfield 138, 3)) ∧ (decode cX5_readTune 45 = .ok (.iload_n 1, 1)) ∧ (decode cX5_readTune 46 = .ok (.aload_n 0, 1)) ∧ (decode cX5_readTune 47 = .ok (.getfield 18, 3)) ∧ (decode cX5_readTune 50 = .ok (.getfield 94, 3)) ∧ (decode cX5_readTune 53 = .ok (.iastore, 1)) ∧ (decode cX5_readTune 54 = .ok (.aload_n 0, 1)) ∧ (decode cX5_readTune 55 = .ok (.getfield 12, 3)) ∧ (decode cX5_readTune 58 = .ok (.dup, 1)) ∧ (decode cX5_readTune 59 = .ok (.getfield 135, 3)) := by decide +kernel
theorem dX5_readTune_30 : decode cX5_readTune 30 = .ok (.invokevirtual 90, 3) := dg_cX5_readTune_108.1
theorem dX5_readTune_33 : decode cX5_readTune 33 = .ok (.ifCond .ne 5, 3) := dg_cX5_readTune_108.2.1
theorem dX5_readTune_36 : decode cX5_readTune 36 = .ok (.iconst 0, 1) := dg_cX5_readTune_108.2.2.1
theorem dX5_readTune_37 : decode cX5_readTune 37 = .ok (.ireturn, 1) := dg_cX5_readTune_108.2.2.2.1
theorem dX5_readTune_38 : decode cX5_readTune 38 = .ok (.aload_n 0, 1) := dg_cX5_readTune_108.2.2.2.2.1
theorem dX5_readTune_39 : decode cX5_readTune 39 = .ok (.getfield 12, 3) := dg_cX5_readTune_108.2.2.2.2.2.1
theorem dX5_readTune_42 : decode cX5_readTune 42 = .ok (.getfield 138, 3) := dg_cX5_readTune_108.2.2.2.2.2.2.1
theorem dX5_readTune_45 : decode cX5_readTune 45 = .ok (.iload_n 1, 1) := dg_cX5_readTune_108.2.2.2.2.2.2.2.1
theorem dX5_readTune_46 : decode cX5_readTune 46 = .ok (.aload_n 0, 1) := dg_cX5_readTune_108.2.2.2.2.2.2.2.2.1
theorem dX5_readTune_47 : decode cX5_readTune 47 = .ok (.getfield 18, 3) := dg_cX5_readTune_108.2.2.2.2.2.2.2.2.2.1
theorem dX5_readTune_50 : decode cX5_readTune 50 = .ok (.getfield 94, 3) := dg_cX5_readTune_108.2.2.2.2.2.2.2.2.2.2.1
theorem dX5_readTune_53 : decode cX5_readTune 53 = .ok (.iastore, 1) := dg_cX5_readTune_108.2.2.2.2.2.2.2.2.2.2.2.1
theorem dX5_readTune_54 : decode cX5_readTune 54 = .ok (.aload_n 0, 1) := dg_cX5_readTune_108.2.2.2.2.2.2.2.2.2.2.2.2.1
theorem dX5_readTune_55 : decode cX5_readTune 55 = .ok (.getfield 12, 3) := dg_cX5_readTune_108.2.2.2.2.2.2.2.2.2.2.2.2.2.1
theorem dX5_readTune_58 : decode cX5_readTune 58 = .ok (.dup, 1) := dg_cX5_readTune_108.2.2.2.2.2.2.2.2.2.2.2.2.2.2.1
theorem dX5_readTune_59 : decode cX5_readTune 59 = .ok (.getfield 135, 3) := dg_cX5_readTune_108.2.2.2.2.2.2.2.2.2.2.2.2.2.2.2
set_option maxRecDepth 100000 in
theorem dg_cX5_readTune_109 : (decode cX5_readTune 62 = .ok (.iconst 1, 1)) ∧ (decode cX5_readTune 63 = .ok (.iadd, 1)) ∧ (decode cX5_readTune 64 = .ok (.putfield 135, 3)) ∧ (decode cX5_readTune 67 = .ok (.aload_n 0, 1)) ∧ (decode cX5_readTune 68 = .ok (.invokevirtual 44, 3)) ∧ (decode cX5_readTune 71 = .ok (.ifCond .eq 22, 3)) ∧ (decode cX5_readTune 74 = .ok (.aload_n 0, 1)) ∧ (decode cX5_readTune 75 = .ok (.iload_n 1, 1)) ∧ (decode cX5_readTune 76 = .ok (.invokevirtual 141, 3)) ∧ (decode cX5_readTune 79 = .ok (.ifCond .eq 14, 3)) ∧ (decode cX5_readTune 82 = .ok (.aload_n 0, 1)) ∧ (decode cX5_readTune 83 = .ok (.invokevirtual 99, 3)) ∧ (decode cX5_readTune 86 = .ok (.ifCond .eq 7, 3)) ∧ (decode cX5_readTune 89 = .ok (.iconst 1, 1)) ∧ (decode cX5_readTune 90 = .ok (.goto 4, 3)) ∧ (decode cX5_readTune 93 = .ok (.iconst 0, 1)) := by decide +kernel
theorem dX5_readTune_62 : decode cX5_readTune 62 = .ok (.iconst 1, 1) := dg_cX5_readTune_109.1
theorem dX5_readTune_63 : decode cX5_readTune 63 = .ok (.iadd, 1) := dg_cX5_readTune_109.2.1
theorem dX5_readTune_64 : decode cX5_readTune 64 = .ok (.putfield 135, 3) := dg_cX5_readTune_109.2.2.1
theorem dX5_readTune_67 : decode cX5_readTune 67 = .ok (.aload_n 0, 1) := dg_cX5_readTune_109.2.2.2.1
theorem dX5_readTune_68 : decode cX5_readTune 68 = .ok (.invokevirtual 44, 3) := dg_cX5_readTune_109.2.2.2.2.1
theorem dX5_readTune_71 : decode cX5_readTune 71 = .ok (.ifCond .eq 22, 3) := dg_cX5_readTune_109.2.2.2.2.2.1
theorem dX5_readTune_74 : decode cX5_readTune 74 = .ok (.aload_n 0, 1) := dg_cX5_readTune_109.2.2.2.2.2.2.1
theorem dX5_readTune_75 : decode cX5_readTune 75 = .ok (.iload_n 1, 1) := dg_cX5_readTune_109.2.2.2.2.2.2.2.1
theorem dX5_readTune_76 : decode cX5_readTune 76 = .ok (.invokevirtual 141, 3) := dg_cX5_readTune_109.2.2.2.2.2.2.2.2.1
theorem dX5_readTune_79 : decode cX5_readTune 79 = .ok (.ifCond .eq 14, 3) := dg_cX5_readTune_109.2.2.2.2.2.2.2.2.2.1
theorem dX5_readTune_82 : decode cX5_readTune 82 = .ok (.aload_n 0, 1) := dg_cX5_readTune_109.2.2.2.2.2.2.2.2.2.2.1
theorem dX5_readTune_83 : decode cX5_readTune 83 = .ok (.invokevirtual 99, 3) := dg_cX5_readTune_109.2.2.2.2.2.2.2.2.2.2.2.1
theorem dX5_readTune_86 : decode cX5_readTune 86 = .ok (.ifCond .eq 7, 3) := dg_cX5_readTune_109.2.2.2.2.2.2.2.2.2.2.2.2.1
theorem dX5_readTune_89 : decode cX5_readTune 89 = .ok (.iconst 1, 1) := dg_cX5_readTune_109.2.2.2.2.2.2.2.2.2.2.2.2.2.1
theorem dX5_readTune_90 : decode cX5_readTune 90 = .ok (.goto 4, 3) := dg_cX5_readTune_109.2.2.2.2.2.2.2.2.2.2.2.2.2.2.1
theorem dX5_readTune_93 : decode cX5_readTune 93 = .ok (.iconst 0, 1) := dg_cX5_readTune_109.2.2.2.2.2.2.2.2.2.2.2.2.2.2.2
theorem dX5_readTune_94 : decode cX5_readTune 94 = .ok (.ireturn, 1) := by decide +kernel
set_option maxRecDepth 100000 in
theorem dg_cX5_readStrokes_110 : (decode cX5_readStrokes 0 = .ok (.iconst 0, 1)) ∧ (decode cX5_readStrokes 1 = .ok (.istore_n 2, 1)) ∧ (decode cX5_readStrokes 2 = .ok (.iload_n 2, 1)) ∧ (decode cX5_readStrokes 3 = .ok (.bipush 12, 2)) ∧ (decode cX5_readStrokes 5 = .ok (.if_icmp .gt 95, 3)) ∧ (decode cX5_readStrokes 8 = .ok (.iload_n 2, 1)) ∧ (decode cX5_readStrokes 9 = .ok (.ifCond .le 16, 3)) ∧ (decode cX5_readStrokes 12 = .ok (.aload_n 0, 1)) ∧ (decode cX5_readStrokes 13 = .ok (.getfield 18, 3)) ∧ (decode cX5_readStrokes 16 = .ok (.getfield 48, 3)) ∧ (decode cX5_readStrokes 19 = .ok (.iconst 2, 1)) ∧ (decode cX5_readStrokes 20 = .ok (.if_icmp .eq 5, 3)) ∧ (decode cX5_readStrokes 23 = .ok (.iconst 1, 1)) ∧ (decode cX5_readStrokes 24 = .ok (.ireturn, 1)) ∧ (decode cX5_readStrokes 25 = .ok (.aload_n 0, 1)) ∧ (decode cX5_readStrokes 26 = .ok (.iconst 0, 1)) := by decide +kernel
theorem dX5_readStrokes_0 : decode cX5_readStrokes 0 = .ok (.iconst 0, 1) := dg_cX5_readStrokes_110.1
theorem dX5_readStrokes_1 : decode cX5_readStrokes 1 = .ok (.istore_n 2, 1) := dg_cX5_readStrokes_110.2.1
theorem dX5_readStrokes_2 : decode cX5_readStrokes 2 = .ok (.iload_n 2, 1) := dg_cX5_readStrokes_110.2.2.1
theorem dX5_readStrokes_3 : decode cX5_readStrokes 3 = .ok (.bipush 12, 2) := dg_cX5_readStrokes_110.2.2.2.1
theorem dX5_readStrokes_5 : decode cX5_readStrokes 5 = .ok (.if_icmp .gt 95, 3) := dg_cX5_readStrokes_110.2.2.2.2.1
theorem dX5_readStrokes_8 : decode cX5_readStrokes 8 = .ok (.iload_n 2, 1) := dg_cX5_readStrokes_110.2.2.2.2.2.1
theorem dX5_readStrokes_9 : decode cX5_readStrokes 9 = .ok (.ifCond .le 16, 3) := dg_cX5_readStrokes_110.2.2.2.2.2.2.1
theorem dX5_readStrokes_12 : decode cX5_readStrokes 12 = .ok (.aload_n 0, 1) := dg_cX5_readStrokes_110.2.2.2.2.2.2.2.1
theorem dX5_readStrokes_13 : decode cX5_readStrokes 13 = .ok (.getfield 18, 3) := dg_cX5_readStrokes_110.2.2.2.2.2.2.2.2.1
theorem dX5_readStrokes_16 : decode cX5_readStrokes 16 = .ok (.getfield 48, 3) := dg_cX5_readStrokes_110.2.2.2.2.2.2.2.2.2.1
theorem dX5_readStrokes_19 : decode cX5_readStrokes 19 = .ok (.iconst 2, 1) := dg_cX5_readStrokes_110.2.2.2.2.2.2.2.2.2.2.1
theorem dX5_readStrokes_20 : decode cX5_readStrokes 20 = .ok (.if_icmp .eq 5, 3) := dg_cX5_readStrokes_110.2.2.2.2.2.2.2.2.2.2.2.1
theorem dX5_readStrokes_23 : decode cX5_readStrokes 23 = .ok (.iconst 1, 1) := dg_cX5_readStrokes_110.2.2.2.2.2.2.2.2.2.2.2.2.1
theorem dX5_readStrokes_24 : decode cX5_readStrokes 24 = .ok (.ireturn, 1) := dg_cX5_readStrokes_110.2.2.2.2.2.2.2.2.2.2.2.2.2.1
theorem dX5_readStrokes_25 : decode cX5_readStrokes 25 = .ok (.aload_n 0, 1) := dg_cX5_readStrokes_110.2.2.2.2.2.2.2.2.2.2.2.2.2.2.1
theorem dX5_readStrokes_26 : decode cX5_readStrokes 26 = .ok (.iconst 0, 1) := dg_cX5_readStrokes_110.2.2.2.2.2.2.2.2.2.2.2.2.2.2.2
set_option maxRecDepth 100000 in
theorem dg_cX5_readStrokes_111 : (decode cX5_readStrokes 27 = .ok (.bipush 11, 2)) ∧ (decode cX5_readStrokes 29 = .ok (.invokevirtual 144, 3)) ∧ (decode cX5_readStrokes 32 = .ok (.istore_n 3, 1)) ∧ (decode cX5_readStrokes 33 = .ok (.iload_n 3, 1)) ∧ (decode cX5_readStrokes 34 = .ok (.ifCond .eq 9, 3)) ∧ (decode cX5_readStrokes 37 = .ok (.aload_n 0, 1)) ∧ (decode cX5_readStrokes 38 = .ok (.iload_n 3, 1)) ∧ (decode cX5_readStrokes 39 = .ok (.invokevirtual 57, 3)) ∧ (decode cX5_readStrokes 42 = .ok (.ireturn, 1)) ∧ (decode cX5_readStrokes 43 = .ok (.iload_n 2, 1)) ∧ (decode cX5_readStrokes 44 = .ok (.bipush 12, 2)) ∧ (decode cX5_readStrokes 46 = .ok (.if_icmp .lt 9, 3)) ∧ (decode cX5_readStrokes 49 = .ok (.aload_n 0, 1)) ∧ (decode cX5_readStrokes 50 = .ok (.iconst 5, 1)) ∧ (decode cX5_readStrokes 51 = .ok (.invokevirtual 57, 3)) ∧ (decode cX5_readStrokes 54 = .ok (.ireturn, 1)) := by decide +kernel
theorem dX5_readStrokes_27 : decode cX5_readStrokes 27 = .ok (.bipush 11, 2) := dg_cX5_readStrokes_111.1
theorem dX5_readStrokes_29 : decode cX5_readStrokes 29 = .ok (.invokevirtual 144, 3) := dg_cX5_readStrokes_111.2.1
theorem dX5_readStrokes_32 : decode cX5_readStrokes 32 = .ok (.istore_n 3, 1) := dg_cX5_readStrokes_111.2.2.1
theorem dX5_readStrokes_33 : decode cX5_readStrokes 33 = .ok (.iload_n 3, 1) := dg_cX5_readStrokes_111.2.2.2.1
theorem dX5_readStrokes_34 : decode cX5_readStrokes 34 = .ok (.ifCond .eq 9, 3) := dg_cX5_readStrokes_111.2.2.2.2.1
theorem dX5_readStrokes_37 : decode cX5_readStrokes 37 = .ok (.aload_n 0, 1) := dg_cX5_readStrokes_111.2.2.2.2.2.1
theorem dX5_readStrokes_38 : decode cX5_readStrokes 38 = .ok (.iload_n 3, 1) := dg_cX5_readStrokes_111.2.2.2.2.2.2.1
theorem dX5_readStrokes_39 : decode cX5_readStrokes 39 = .ok (.invokevirtual 57, 3) := dg_cX5_readStrokes_111.2.2.2.2.2.2.2.1
theorem dX5_readStrokes_42 : decode cX5_readStrokes 42 = .ok (.ireturn, 1) := dg_cX5_readStrokes_111.2.2.2.2.2.2.2.2.1
theorem dX5_readStrokes_43 : decode cX5_readStrokes 43 = .ok (.iload_n 2, 1) := dg_cX5_readStrokes_111.2.2.2.2.2.2.2.2.2.1
theorem dX5_readStrokes_44 : decode cX5_readStrokes 44 = .ok (.bipush 12, 2) := dg_cX5_readStrokes_111.2.2.2.2.2.2.2.2.2.2.1
theorem dX5_readStrokes_46 : decode cX5_readStrokes 46 = .ok (.if_icmp .lt 9, 3) := dg_cX5_readStrokes_111.2.2.2.2.2.2.2.2.2.2.2.1
theorem dX5_readStrokes_49 : decode cX5_readStrokes 49 = .ok (.aload_n 0, 1) := dg_cX5_readStrokes_111.2.2.2.2.2.2.2.2.2.2.2.2.1
theorem dX5_readStrokes_50 : decode cX5_readStrokes 50 = .ok (.iconst 5, 1) := dg_cX5_readStrokes_111.2.2.2.2.2.2.2.2.2.2.2.2.2.1
theorem dX5_readStrokes_51 : decode cX5_readStrokes 51 = .ok (.invokevirtual 57, 3) := dg_cX5_readStrokes_111.2.2.2.2.2.2.2.2.2.2.2.2.2.2.1
theorem dX5_readStrokes_54 : decode cX5_readStrokes 54 = .ok (.ireturn, 1) := dg_cX5_readStrokes_111.2.2.2.2.2.2.2.2.2.2.2.2.2.2.2
set_option maxRecDepth 100000 in
theorem dg_cX5_readStrokes_112 : (decode cX5_readStrokes 55 = .ok (.aload_n 0, 1)) ∧ (decode cX5_readStrokes 56 = .ok (.getfield 12, 3)) ∧ (decode cX5_readStrokes 59 = .ok (.getfield 148, 3)) ∧ (decode cX5_readStrokes 62 = .ok (.iload_n 1, 1)) ∧ (decode cX5_readStrokes 63 = .ok (.aaload, 1)) ∧ (decode cX5_readStrokes 64 = .ok (.iload_n 2, 1)) ∧ (decode cX5_readStrokes 65 = .ok (.aload_n 0, 1)) ∧ (decode cX5_readStrokes 66 = .ok (.getfield 18, 3)) ∧ (decode cX5_readStrokes 69 = .ok (.getfield 94, 3)) ∧ (decode cX5_readStrokes 72 = .ok (.iastore, 1)) ∧ (decode cX5_readStrokes 73 = .ok (.aload_n 0, 1)) ∧ (decode cX5_readStrokes 74 = .ok (.getfield 12, 3)) ∧ (decode cX5_readStrokes 77 = .ok (.getfield 152, 3)) ∧ (decode cX5_readStrokes 80 = .ok (.iload_n 1, 1)) ∧ (decode cX5_readStrokes 81 = .ok (.iload_n 2, 1)) ∧ (decode cX5_readStrokes 82 = .ok (.iconst 1, 1)) := by decide +kernel
theorem dX5_readStrokes_55 : decode cX5_readStrokes 55 = .ok (.aload_n 0, 1) := dg_cX5_readStrokes_112.1
theorem dX5_readStrokes_56 : decode cX5_readStrokes 56 = .ok (.getfield 12, 3) := dg_cX5_readStrokes_112.2.1
theorem dX5_readStrokes_59 : decode cX5_readStrokes 59 = .ok (.getfield 148, 3) := dg_cX5_readStrokes_112.2.2.1
theorem dX5_readStrokes_62 : decode cX5_readStrokes 62 = .ok (.iload_n 1, 1) := dg_cX5_readStrokes_112.2.2.2.1
theorem dX5_readStrokes_63 : decode cX5_readStrokes 63 = .ok (.aaload, 1) := dg_cX5_readStrokes_112.2.2.2.2.1
theorem dX5_readStrokes_64 : decode cX5_readStrokes 64 = .ok (.iload_n 2, 1) := dg_cX5_readStrokes_112.2.2.2.2.2.1
theorem dX5_readStrokes_65 : decode cX5_readStrokes 65 = .ok (.aload_n 0, 1) := dg_cX5_readStrokes_112.2.2.2.2.2.2.1
theorem dX5_readStrokes_66 : decode cX5_readStrokes 66 = .ok (.getfield 18, 3) := dg_cX5_readStrokes_112.2.2.2.2.2.2.2.1
theorem dX5_readStrokes_69 : decode cX5_readStrokes 69 = .ok (.getfield 94, 3) := dg_cX5_readStrokes_112.2.2.2.2.2.2.2.2.1
theorem dX5_readStrokes_72 : decode cX5_readStrokes 72 = .ok (.iastore, 1) := dg_cX5_readStrokes_112.2.2.2.2.2.2.2.2.2.1
theorem dX5_readStrokes_73 : decode cX5_readStrokes 73 = .ok (.aload_n 0, 1) := dg_cX5_readStrokes_112.2.2.2.2.2.2.2.2.2.2.1
theorem dX5_readStrokes_74 : decode cX5_readStrokes 74 = .ok (.getfield 12, 3) := dg_cX5_readStrokes_112.2.2.2.2.2.2.2.2.2.2.2.1
theorem dX5_readStrokes_77 : decode cX5_readStrokes 77 = .ok (.getfield 152, 3) := dg_cX5_readStrokes_112.2.2.2.2.2.2.2.2.2.2.2.2.1
theorem dX5_readStrokes_80 : decode cX5_readStrokes 80 = .ok (.iload_n 1, 1) := dg_cX5_readStrokes_112.2.2.2.2.2.2.2.2.2.2.2.2.2.1
theorem dX5_readStrokes_81 : decode cX5_readStrokes 81 = .ok (.iload_n 2, 1) := dg_cX5_readStrokes_112.2.2.2.2.2.2.2.2.2.2.2.2.2.2.1
theorem dX5_readStrokes_82 : decode cX5_readStrokes 82 = .ok (.iconst 1, 1) := dg_cX5_readStrokes_112.2.2.2.2.2.2.2.2.2.2.2.2.2.2.2
set_option maxRecDepth 100000 in
theorem dg_cX5_readStrokes_113 : (decode cX5_readStrokes 83 = .ok (.iadd, 1)) ∧ (decode cX5_readStrokes 84 = .ok (.iastore, 1)) ∧ (decode cX5_readStrokes 85 = .ok (.aload_n 0, 1)) ∧ (decode cX5_readStrokes 86 = .ok (.invokevirtual 44, 3)) ∧ (decode cX5_readStrokes 89 = .ok (.ifCond .ne 5, 3)) ∧ (decode cX5_readStrokes 92 = .ok (.iconst 0, 1)) ∧ (decode cX5_readStrokes 93 = .ok (.ireturn, 1)) ∧ (decode cX5_readStrokes 94 = .ok (.iinc 2 1, 3)) ∧ (decode cX5_readStrokes 97 = .ok (.goto (-95), 3)) ∧ (decode cX5_readStrokes 100 = .ok (.iconst 1, 1)) ∧ (decode cX5_readStrokes 101 = .ok (.ireturn, 1)) := by decide +kernel
theorem dX5_readStrokes_83 : decode cX5_readStrokes 83 = .ok (.iadd, 1) := dg_cX5_readStrokes_113.1
theorem dX5_readStrokes_84 : decode cX5_readStrokes 84 = .ok (.iastore, 1) := dg_cX5_readStrokes_113.2.1
theorem dX5_readStrokes_85 : decode cX5_readStrokes 85 = .ok (.aload_n 0, 1) := dg_cX5_readStrokes_113.2.2.1
theorem dX5_readStrokes_86 : decode cX5_readStrokes 86 = .ok (.invokevirtual 44, 3) := dg_cX5_readStrokes_113.2.2.2.1
theorem dX5_readStrokes_89 : decode cX5_readStrokes 89 = .ok (.ifCond .ne 5, 3) := dg_cX5_readStrokes_113.2.2.2.2.1
theorem dX5_readStrokes_92 : decode cX5_readStrokes 92 = .ok (.iconst 0, 1) := dg_cX5_readStrokes_113.2.2.2.2.2.1
theorem dX5_readStrokes_93 : decode cX5_readStrokes 93 = .ok (.ireturn, 1) := dg_cX5_readStrokes_113.2.2.2.2.2.2.1
theorem dX5_readStrokes_94 : decode cX5_readStrokes 94 = .ok (.iinc 2 1, 3) := dg_cX5_readStrokes_113.2.2.2.2.2.2.2.1
theorem dX5_readStrokes_97 : decode cX5_readStrokes 97 = .ok (.goto (-95), 3) := dg_cX5_readStrokes_113.2.2.2.2.2.2.2.2.1
theorem dX5_readStrokes_100 : decode cX5_readStrokes 100 = .ok (.iconst 1, 1) := dg_cX5_readStrokes_113.2.2.2.2.2.2.2.2.2.1
theorem dX5_readStrokes_101 : decode cX5_readStrokes 101 = .ok (.ireturn, 1) := dg_cX5_readStrokes_113.2.2.2.2.2.2.2.2.2.2
set_option maxRecDepth 100000 in
theorem dg_cX5_readFeud_114 : (decode cX5_readFeud 0 = .ok (.aload_n 0, 1)) ∧ (decode cX5_readFeud 1 = .ok (.iconst 0, 1)) ∧ (decode cX5_readFeud 2 = .ok (.iconst 5, 1)) ∧ (decode cX5_readFeud 3 = .ok (.invokevirtual 90, 3)) ∧ (decode cX5_readFeud 6 = .ok (.ifCond .ne 5, 3)) ∧ (decode cX5_readFeud 9 = .ok (.iconst 0, 1)) ∧ (decode cX5_readFeud 10 = .ok (.ireturn, 1)) ∧ (decode cX5_readFeud 11 = .ok (.aload_n 0, 1)) ∧ (decode cX5_readFeud 12 = .ok (.getfield 18, 3)) ∧ (decode cX5_readFeud 15 = .ok (.getfield 94, 3)) ∧ (decode cX5_readFeud 18 = .ok (.istore_n 1, 1)) ∧ (decode cX5_readFeud 19 = .ok (.aload_n 0, 1)) ∧ (decode cX5_readFeud 20 = .ok (.iconst 0, 1)) ∧ (decode cX5_readFeud 21 = .ok (.iconst 5, 1)) ∧ (decode cX5_readFeud 22 = .ok (.invokevirtual 90, 3)) ∧ (decode cX5_readFeud 25 = .ok (.ifCond .ne 5, 3)) := by decide +kernel
theorem dX5_readFeud_0 : decode cX5_readFeud 0 = .ok (.aload_n 0, 1) := dg_cX5_readFeud_114.1
theorem dX5_readFeud_1 : decode cX5_readFeud 1 = .ok (.iconst 0, 1) := dg_cX5_readFeud_114.2.1
theorem dX5_readFeud_2 : decode cX5_readFeud 2 = .ok (.iconst 5, 1) := dg_cX5_readFeud_114.2.2.1
theorem dX5_readFeud_3 : decode cX5_readFeud 3 = .ok (.invokevirtual 90, 3) := dg_cX5_readFeud_114.2.2.2.1
theorem dX5_readFeud_6 : decode cX5_readFeud 6 = .ok (.ifCond .ne 5, 3) := dg_cX5_readFeud_114.2.2.2.2.1
theorem dX5_readFeud_9 : decode cX5_readFeud 9 = .ok (.iconst 0, 1) := dg_cX5_readFeud_114.2.2.2.2.2.1
theorem dX5_readFeud_10 : decode cX5_readFeud 10 = .ok (.ireturn, 1) := dg_cX5_readFeud_114.2.2.2.2.2.2.1
theorem dX5_readFeud_11 : decode cX5_readFeud 11 = .ok (.aload_n 0, 1) := dg_cX5_readFeud_114.2.2.2.2.2.2.2.1
theorem dX5_readFeud_12 : decode cX5_readFeud 12 = .ok (.getfield 18, 3) := dg_cX5_readFeud_114.2.2.2.2.2.2.2.2.1
theorem dX5_readFeud_15 : decode cX5_readFeud 15 = .ok (.getfield 94, 3) := dg_cX5_readFeud_114.2.2.2.2.2.2.2.2.2.1
theorem dX5_readFeud_18 : decode cX5_readFeud 18 = .ok (.istore_n 1, 1) := dg_cX5_readFeud_114.2.2.2.2.2.2.2.2.2.2.1
theorem dX5_readFeud_19 : decode cX5_readFeud 19 = .ok (.aload_n 0, 1) := dg_cX5_readFeud_114.2.2.2.2.2.2.2.2.2.2.2.1
theorem dX5_readFeud_20 : decode cX5_readFeud 20 = .ok (.iconst 0, 1) := dg_cX5_readFeud_114.2.2.2.2.2.2.2.2.2.2.2.2.1
theorem dX5_readFeud_21 : decode cX5_readFeud 21 = .ok (.iconst 5, 1) := dg_cX5_readFeud_114.2.2.2.2.2.2.2.2.2.2.2.2.2.1
theorem dX5_readFeud_22 : decode cX5_readFeud 22 = .ok (.invokevirtual 90, 3) := dg_cX5_readFeud_114.2.2.2.2.2.2.2.2.2.2.2.2.2.2.1
theorem dX5_readFeud_25 : decode cX5_readFeud 25 = .ok (.ifCond .ne 5, 3) := dg_cX5_readFeud_114.2.2.2.2.2.2.2.2.2.2.2.2.2.2.2
set_option maxRecDepth 100000 in
theorem dg_cX5_readFeud_115 : (decode cX5_readFeud 28 = .ok (.iconst 0, 1)) ∧ (decode cX5_readFeud 29 = .ok (.ireturn, 1)) ∧ (decode cX5_readFeud 30 = .ok (.aload_n 0, 1)) ∧ (decode cX5_readFeud 31 = .ok (.getfield 18, 3)) ∧ (decode cX5_readFeud 34 = .ok (.getfield 94, 3)) ∧ (decode cX5_readFeud 37 = .ok (.iload_n 1, 1)) ∧ (decode cX5_readFeud 38 = .ok (.if_icmp .ne 9, 3)) ∧ (decode cX5_readFeud 41 = .ok (.aload_n 0, 1)) ∧ (decode cX5_readFeud 42 = .ok (.iconst 4, 1)) ∧ (decode cX5_readFeud 43 = .ok (.invokevirtual 57, 3)) ∧ (decode cX5_readFeud 46 = .ok (.ireturn, 1)) ∧ (decode cX5_readFeud 47 = .ok (.aload_n 0, 1)) ∧ (decode cX5_readFeud 48 = .ok (.getfield 12, 3)) ∧ (decode cX5_readFeud 51 = .ok (.getfield 104, 3)) ∧ (decode cX5_readFeud 54 = .ok (.iload_n 1, 1)) ∧ (decode cX5_readFeud 55 = .ok (.aload_n 0, 1)) := by decide +kernel
theorem dX5_readFeud_28 : decode cX5_readFeud 28 = .ok (.iconst 0, 1) := dg_cX5_readFeud_115.1
theorem dX5_readFeud_29 : decode cX5_readFeud 29 = .ok (.ireturn, 1) := dg_cX5_readFeud_115.2.1
theorem dX5_readFeud_30 : decode cX5_readFeud 30 = .ok (.aload_n 0, 1) := dg_cX5_readFeud_115.2.2.1
theorem dX5_readFeud_31 : decode cX5_readFeud 31 = .ok (.getfield 18, 3) := dg_cX5_readFeud_115.2.2.2.1
theorem dX5_readFeud_34 : decode cX5_readFeud 34 = .ok (.getfield 94, 3) := dg_cX5_readFeud_115.2.2.2.2.1
theorem dX5_readFeud_37 : decode cX5_readFeud 37 = .ok (.iload_n 1, 1) := dg_cX5_readFeud_115.2.2.2.2.2.1
theorem dX5_readFeud_38 : decode cX5_readFeud 38 = .ok (.if_icmp .ne 9, 3) := dg_cX5_readFeud_115.2.2.2.2.2.2.1
theorem dX5_readFeud_41 : decode cX5_readFeud 41 = .ok (.aload_n 0, 1) := dg_cX5_readFeud_115.2.2.2.2.2.2.2.1
theorem dX5_readFeud_42 : decode cX5_readFeud 42 = .ok (.iconst 4, 1) := dg_cX5_readFeud_115.2.2.2.2.2.2.2.2.1
theorem dX5_readFeud_43 : decode cX5_readFeud 43 = .ok (.invokevirtual 57, 3) := dg_cX5_readFeud_115.2.2.2.2.2.2.2.2.2.1
theorem dX5_readFeud_46 : decode cX5_readFeud 46 = .ok (.ireturn, 1) := dg_cX5_readFeud_115.2.2.2.2.2.2.2.2.2.2.1
theorem dX5_readFeud_47 : decode cX5_readFeud 47 = .ok (.aload_n 0, 1) := dg_cX5_readFeud_115.2.2.2.2.2.2.2.2.2.2.2.1
theorem dX5_readFeud_48 : decode cX5_readFeud 48 = .ok (.getfield 12, 3) := dg_cX5_readFeud_115.2.2.2.2.2.2.2.2.2.2.2.2.1
theorem dX5_readFeud_51 : decode cX5_readFeud 51 = .ok (.getfield 104, 3) := dg_cX5_readFeud_115.2.2.2.2.2.2.2.2.2.2.2.2.2.1
theorem dX5_readFeud_54 : decode cX5_readFeud 54 = .ok (.iload_n 1, 1) := dg_cX5_readFeud_115.2.2.2.2.2.2.2.2.2.2.2.2.2.2.1
theorem dX5_readFeud_55 : decode cX5_readFeud 55 = .ok (.aload_n 0, 1) := dg_cX5_readFeud_115.2.2.2.2.2.2.2.2.2.2.2.2.2.2.2
set_option maxRecDepth 100000 in
theorem dg_cX5_readFeud_116 : (decode cX5_readFeud 56 = .ok (.getfield 18, 3)) ∧ (decode cX5_readFeud 59 = .ok (.getfield 94, 3)) ∧ (decode cX5_readFeud 62 = .ok (.iconst 1, 1)) ∧ (decode cX5_readFeud 63 = .ok (.invokevirtual 155, 3)) ∧ (decode cX5_readFeud 66 = .ok (.aload_n 0, 1)) ∧ (decode cX5_readFeud 67 = .ok (.invokevirtual 44, 3)) ∧ (decode cX5_readFeud 70 = .ok (.ifCond .eq 14, 3)) ∧ (decode cX5_readFeud 73 = .ok (.aload_n 0, 1)) ∧ (decode cX5_readFeud 74 = .ok (.invokevirtual 99, 3)) ∧ (decode cX5_readFeud 77 = .ok (.ifCond .eq 7, 3)) ∧ (decode cX5_readFeud 80 = .ok (.iconst 1, 1)) ∧ (decode cX5_readFeud 81 = .ok (.goto 4, 3)) ∧ (decode cX5_readFeud 84 = .ok (.iconst 0, 1)) ∧ (decode cX5_readFeud 85 = .ok (.ireturn, 1)) := by decide +kernel
theorem dX5_readFeud_56 : decode cX5_readFeud 56 = .ok (.getfield 18, 3) := dg_cX5_readFeud_116.1
theorem dX5_readFeud_59 : decode cX5_readFeud 59 = .ok (.getfield 94, 3) := dg_cX5_readFeud_116.2.1
theorem dX5_readFeud_62 : decode cX5_readFeud 62 = .ok (.iconst 1, 1) := dg_cX5_readFeud_116.2.2.1
theorem dX5_readFeud_63 : decode cX5_readFeud 63 = .ok (.invokevirtual 155, 3) := dg_cX5_readFeud_116.2.2.2.1
theorem dX5_readFeud_66 : decode cX5_readFeud 66 = .ok (.aload_n 0, 1) := dg_cX5_readFeud_116.2.2.2.2.1
theorem dX5_readFeud_67 : decode cX5_readFeud 67 = .ok (.invokevirtual 44, 3) := dg_cX5_readFeud_116.2.2.2.2.2.1
theorem dX5_readFeud_70 : decode cX5_readFeud 70 = .ok (.ifCond .eq 14, 3) := dg_cX5_readFeud_116.2.2.2.2.2.2.1
theorem dX5_readFeud_73 : decode cX5_readFeud 73 = .ok (.aload_n 0, 1) := dg_cX5_readFeud_116.2.2.2.2.2.2.2.1
theorem dX5_readFeud_74 : decode cX5_readFeud 74 = .ok (.invokevirtual 99, 3) := dg_cX5_readFeud_116.2.2.2.2.2.2.2.2.1
theorem dX5_readFeud_77 : decode cX5_readFeud 77 = .ok (.ifCond .eq 7, 3) := dg_cX5_readFeud_116.2.2.2.2.2.2.2.2.2.1
theorem dX5_readFeud_80 : decode cX5_readFeud 80 = .ok (.iconst 1, 1) := dg_cX5_readFeud_116.2.2.2.2.2.2.2.2.2.2.1
theorem dX5_readFeud_81 : decode cX5_readFeud 81 = .ok (.goto 4, 3) := dg_cX5_readFeud_116.2.2.2.2.2.2.2.2.2.2.2.1
theorem dX5_readFeud_84 : decode cX5_readFeud 84 = .ok (.iconst 0, 1) := dg_cX5_readFeud_116.2.2.2.2.2.2.2.2.2.2.2.2.1
theorem dX5_readFeud_85 : decode cX5_readFeud 85 = .ok (.ireturn, 1) := dg_cX5_readFeud_116.2.2.2.2.2.2.2.2.2.2.2.2.2
set_option maxRecDepth 100000 in
theorem dg_cX5_endLine_117 : (decode cX5_endLine 0 = .ok (.aload_n 0, 1)) ∧ (decode cX5_endLine 1 = .ok (.getfield 18, 3)) ∧ (decode cX5_endLine 4 = .ok (.getfield 48, 3)) ∧ (decode cX5_endLine 7 = .ok (.iconst 3, 1)) ∧ (decode cX5_endLine 8 = .ok (.if_icmp .ne 10, 3)) ∧ (decode cX5_endLine 11 = .ok (.aload_n 0, 1)) ∧ (decode cX5_endLine 12 = .ok (.invokevirtual 44, 3)) ∧ (decode cX5_endLine 15 = .ok (.goto 8, 3)) ∧ (decode cX5_endLine 18 = .ok (.aload_n 0, 1)) ∧ (decode cX5_endLine 19 = .ok (.iconst 2, 1)) ∧ (decode cX5_endLine 20 = .ok (.invokevirtual 57, 3)) ∧ (decode cX5_endLine 23 = .ok (.ireturn, 1)) := by decide +kernel
theorem dX5_endLine_0 : decode cX5_endLine 0 = .ok (.aload_n 0, 1) := dg_cX5_endLine_117.1
theorem dX5_endLine_1 : decode cX5_endLine 1 = .ok (.getfield 18, 3) := dg_cX5_endLine_117.2.1
theorem dX5_endLine_4 : decode cX5_endLine 4 = .ok (.getfield 48, 3) := dg_cX5_endLine_117.2.2.1
theorem dX5_endLine_7 : decode cX5_endLine 7 = .ok (.iconst 3, 1) := dg_cX5_endLine_117.2.2.2.1
theorem dX5_endLine_8 : decode cX5_endLine 8 = .ok (.if_icmp .ne 10, 3) := dg_cX5_endLine_117.2.2.2.2.1
theorem dX5_endLine_11 : decode cX5_endLine 11 = .ok (.aload_n 0, 1) := dg_cX5_endLine_117.2.2.2.2.2.1
theorem dX5_endLine_12 : decode cX5_endLine 12 = .ok (.invokevirtual 44, 3) := dg_cX5_endLine_117.2.2.2.2.2.2.1
theorem dX5_endLine_15 : decode cX5_endLine 15 = .ok (.goto 8, 3) := dg_cX5_endLine_117.2.2.2.2.2.2.2.1
theorem dX5_endLine_18 : decode cX5_endLine 18 = .ok (.aload_n 0, 1) := dg_cX5_endLine_117.2.2.2.2.2.2.2.2.1
theorem dX5_endLine_19 : decode cX5_endLine 19 = .ok (.iconst 2, 1) := dg_cX5_endLine_117.2.2.2.2.2.2.2.2.2.1
theorem dX5_endLine_20 : decode cX5_endLine 20 = .ok (.invokevirtual 57, 3) := dg_cX5_endLine_117.2.2.2.2.2.2.2.2.2.2.1
theorem dX5_endLine_23 : decode cX5_endLine 23 = .ok (.ireturn, 1) := dg_cX5_endLine_117.2.2.2.2.2.2.2.2.2.2.2
set_option maxRecDepth 100000 in
theorem dg_cX5_nextNumber_118 : (decode cX5_nextNumber 0 = .ok (.aload_n 0, 1)) ∧ (decode cX5_nextNumber 1 = .ok (.getfield 18, 3)) ∧ (decode cX5_nextNumber 4 = .ok (.invokevirtual 159, 3)) ∧ (decode cX5_nextNumber 7 = .ok (.aload_n 0, 1)) ∧ (decode cX5_nextNumber 8 = .ok (.iload_n 1, 1)) ∧ (decode cX5_nextNumber 9 = .ok (.iload_n 2, 1)) ∧ (decode cX5_nextNumber 10 = .ok (.invokevirtual 144, 3)) ∧ (decode cX5_nextNumber 13 = .ok (.istore_n 3, 1)) ∧ (decode cX5_nextNumber 14 = .ok (.iload_n 3, 1)) ∧ (decode cX5_nextNumber 15 = .ok (.ifCond .eq 11, 3)) ∧ (decode cX5_nextNumber 18 = .ok (.aload_n 0, 1)) ∧ (decode cX5_nextNumber 19 = .ok (.iload_n 3, 1)) ∧ (decode cX5_nextNumber 20 = .ok (.invokevirtual 57, 3)) ∧ (decode cX5_nextNumber 23 = .ok (.ifCond .eq 7, 3)) ∧ (decode cX5_nextNumber 26 = .ok (.iconst 1, 1)) ∧ (decode cX5_nextNumber 27 = .ok (.goto 4, 3)) := by decide +kernel
theorem dX5_nextNumber_0 : decode cX5_nextNumber 0 = .ok (.aload_n 0, 1) := dg_cX5_nextNumber_118.1
theorem dX5_nextNumber_1 : decode cX5_nextNumber 1 = .ok (.getfield 18, 3) := dg_cX5_nextNumber_118.2.1
theorem dX5_nextNumber_4 : decode cX5_nextNumber 4 = .ok (.invokevirtual 159, 3) := dg_cX5_nextNumber_118.2.2.1
theorem dX5_nextNumber_7 : decode cX5_nextNumber 7 = .ok (.aload_n 0, 1) := dg_cX5_nextNumber_118.2.2.2.1
theorem dX5_nextNumber_8 : decode cX5_nextNumber 8 = .ok (.iload_n 1, 1) := dg_cX5_nextNumber_118.2.2.2.2.1
theorem dX5_nextNumber_9 : decode cX5_nextNumber 9 = .ok (.iload_n 2, 1) := dg_cX5_nextNumber_118.2.2.2.2.2.1
theorem dX5_nextNumber_10 : decode cX5_nextNumber 10 = .ok (.invokevirtual 144, 3) := dg_cX5_nextNumber_118.2.2.2.2.2.2.1
theorem dX5_nextNumber_13 : decode cX5_nextNumber 13 = .ok (.istore_n 3, 1) := dg_cX5_nextNumber_118.2.2.2.2.2.2.2.1
theorem dX5_nextNumber_14 : decode cX5_nextNumber 14 = .ok (.iload_n 3, 1) := dg_cX5_nextNumber_118.2.2.2.2.2.2.2.2.1
theorem dX5_nextNumber_15 : decode cX5_nextNumber 15 = .ok (.ifCond .eq 11, 3) := dg_cX5_nextNumber_118.2.2.2.2.2.2.2.2.2.1
theorem dX5_nextNumber_18 : decode cX5_nextNumber 18 = .ok (.aload_n 0, 1) := dg_cX5_nextNumber_118.2.2.2.2.2.2.2.2.2.2.1
theorem dX5_nextNumber_19 : decode cX5_nextNumber 19 = .ok (.iload_n 3, 1) := dg_cX5_nextNumber_118.2.2.2.2.2.2.2.2.2.2.2.1
theorem dX5_nextNumber_20 : decode cX5_nextNumber 20 = .ok (.invokevirtual 57, 3) := dg_cX5_nextNumber_118.2.2.2.2.2.2.2.2.2.2.2.2.1
theorem dX5_nextNumber_23 : decode cX5_nextNumber 23 = .ok (.ifCond .eq 7, 3) := dg_cX5_nextNumber_118.2.2.2.2.2.2.2.2.2.2.2.2.2.1
theorem dX5_nextNumber_26 : decode cX5_nextNumber 26 = .ok (.iconst 1, 1) := dg_cX5_nextNumber_118.2.2.2.2.2.2.2.2.2.2.2.2.2.2.1
theorem dX5_nextNumber_27 : decode cX5_nextNumber 27 = .ok (.goto 4, 3) := dg_cX5_nextNumber_118.2.2.2.2.2.2.2.2.2.2.2.2.2.2.2
set_option maxRecDepth 100000 in
theorem dg_cX5_nextNumber_119 : (decode cX5_nextNumber 30 = .ok (.iconst 0, 1)) ∧ (decode cX5_nextNumber 31 = .ok (.ireturn, 1)) := by decide +kernel
theorem dX5_nextNumber_30 : decode cX5_nextNumber 30 = .ok (.iconst 0, 1) := dg_cX5_nextNumber_119.1
theorem dX5_nextNumber_31 : decode cX5_nextNumber 31 = .ok (.ireturn, 1) := dg_cX5_nextNumber_119.2
set_option maxRecDepth 100000 in
theorem dg_cX5_faultOfNumber_120 : (decode cX5_faultOfNumber 0 = .ok (.aload_n 0, 1)) ∧ (decode cX5_faultOfNumber 1 = .ok (.getfield 18, 3)) ∧ (decode cX5_faultOfNumber 4 = .ok (.getfield 48, 3)) ∧ (decode cX5_faultOfNumber 7 = .ok (.iconst 4, 1)) ∧ (decode cX5_faultOfNumber 8 = .ok (.if_icmp .ne 5, 3)) ∧ (decode cX5_faultOfNumber 11 = .ok (.iconst 1, 1)) ∧ (decode cX5_faultOfNumber 12 = .ok (.ireturn, 1)) ∧ (decode cX5_faultOfNumber 13 = .ok (.aload_n 0, 1)) ∧ (decode cX5_faultOfNumber 14 = .ok (.getfield 18, 3)) ∧ (decode cX5_faultOfNumber 17 = .ok (.getfield 48, 3)) ∧ (decode cX5_faultOfNumber 20 = .ok (.iconst 2, 1)) ∧ (decode cX5_faultOfNumber 21 = .ok (.if_icmp .eq 5, 3)) ∧ (decode cX5_faultOfNumber 24 = .ok (.iconst 2, 1)) ∧ (decode cX5_faultOfNumber 25 = .ok (.ireturn, 1)) ∧ (decode cX5_faultOfNumber 26 = .ok (.aload_n 0, 1)) ∧ (decode cX5_faultOfNumber 27 = .ok (.getfield 18, 3)) := by decide +kernel
theorem dX5_faultOfNumber_0 : decode cX5_faultOfNumber 0 = .ok (.aload_n 0, 1) := dg_cX5_faultOfNumber_120.1
theorem dX5_faultOfNumber_1 : decode cX5_faultOfNumber 1 = .ok (.getfield 18, 3) := dg_cX5_faultOfNumber_120.2.1
theorem dX5_faultOfNumber_4 : decode cX5_faultOfNumber 4 = .ok (.getfield 48, 3) := dg_cX5_faultOfNumber_120.2.2.1
theorem dX5_faultOfNumber_7 : decode cX5_faultOfNumber 7 = .ok (.iconst 4, 1) := dg_cX5_faultOfNumber_120.2.2.2.1
theorem dX5_faultOfNumber_8 : decode cX5_faultOfNumber 8 = .ok (.if_icmp .ne 5, 3) := dg_cX5_faultOfNumber_120.2.2.2.2.1
theorem dX5_faultOfNumber_11 : decode cX5_faultOfNumber 11 = .ok (.iconst 1, 1) := dg_cX5_faultOfNumber_120.2.2.2.2.2.1
theorem dX5_faultOfNumber_12 : decode cX5_faultOfNumber 12 = .ok (.ireturn, 1) := dg_cX5_faultOfNumber_120.2.2.2.2.2.2.1
theorem dX5_faultOfNumber_13 : decode cX5_faultOfNumber 13 = .ok (.aload_n 0, 1) := dg_cX5_faultOfNumber_120.2.2.2.2.2.2.2.1
theorem dX5_faultOfNumber_14 : decode cX5_faultOfNumber 14 = .ok (.getfield 18, 3) := dg_cX5_faultOfNumber_120.2.2.2.2.2.2.2.2.1
theorem dX5_faultOfNumber_17 : decode cX5_faultOfNumber 17 = .ok (.getfield 48, 3) := dg_cX5_faultOfNumber_120.2.2.2.2.2.2.2.2.2.1
theorem dX5_faultOfNumber_20 : decode cX5_faultOfNumber 20 = .ok (.iconst 2, 1) := dg_cX5_faultOfNumber_120.2.2.2.2.2.2.2.2.2.2.1
theorem dX5_faultOfNumber_21 : decode cX5_faultOfNumber 21 = .ok (.if_icmp .eq 5, 3) := dg_cX5_faultOfNumber_120.2.2.2.2.2.2.2.2.2.2.2.1
theorem dX5_faultOfNumber_24 : decode cX5_faultOfNumber 24 = .ok (.iconst 2, 1) := dg_cX5_faultOfNumber_120.2.2.2.2.2.2.2.2.2.2.2.2.1
theorem dX5_faultOfNumber_25 : decode cX5_faultOfNumber 25 = .ok (.ireturn, 1) := dg_cX5_faultOfNumber_120.2.2.2.2.2.2.2.2.2.2.2.2.2.1
theorem dX5_faultOfNumber_26 : decode cX5_faultOfNumber 26 = .ok (.aload_n 0, 1) := dg_cX5_faultOfNumber_120.2.2.2.2.2.2.2.2.2.2.2.2.2.2.1
theorem dX5_faultOfNumber_27 : decode cX5_faultOfNumber 27 = .ok (.getfield 18, 3) := dg_cX5_faultOfNumber_120.2.2.2.2.2.2.2.2.2.2.2.2.2.2.2
set_option maxRecDepth 100000 in
theorem dg_cX5_faultOfNumber_121 : (decode cX5_faultOfNumber 30 = .ok (.getfield 94, 3)) ∧ (decode cX5_faultOfNumber 33 = .ok (.iload_n 1, 1)) ∧ (decode cX5_faultOfNumber 34 = .ok (.if_icmp .lt 14, 3)) ∧ (decode cX5_faultOfNumber 37 = .ok (.aload_n 0, 1)) ∧ (decode cX5_faultOfNumber 38 = .ok (.getfield 18, 3)) ∧ (decode cX5_faultOfNumber 41 = .ok (.getfield 94, 3)) ∧ (decode cX5_faultOfNumber 44 = .ok (.iload_n 2, 1)) ∧ (decode cX5_faultOfNumber 45 = .ok (.if_icmp .le 7, 3)) ∧ (decode cX5_faultOfNumber 48 = .ok (.iconst 3, 1)) ∧ (decode cX5_faultOfNumber 49 = .ok (.goto 4, 3)) ∧ (decode cX5_faultOfNumber 52 = .ok (.iconst 0, 1)) ∧ (decode cX5_faultOfNumber 53 = .ok (.ireturn, 1)) := by decide +kernel
theorem dX5_faultOfNumber_30 : decode cX5_faultOfNumber 30 = .ok (.getfield 94, 3) := dg_cX5_faultOfNumber_121.1
theorem dX5_faultOfNumber_33 : decode cX5_faultOfNumber 33 = .ok (.iload_n 1, 1) := dg_cX5_faultOfNumber_121.2.1
theorem dX5_faultOfNumber_34 : decode cX5_faultOfNumber 34 = .ok (.if_icmp .lt 14, 3) := dg_cX5_faultOfNumber_121.2.2.1
theorem dX5_faultOfNumber_37 : decode cX5_faultOfNumber 37 = .ok (.aload_n 0, 1) := dg_cX5_faultOfNumber_121.2.2.2.1
theorem dX5_faultOfNumber_38 : decode cX5_faultOfNumber 38 = .ok (.getfield 18, 3) := dg_cX5_faultOfNumber_121.2.2.2.2.1
theorem dX5_faultOfNumber_41 : decode cX5_faultOfNumber 41 = .ok (.getfield 94, 3) := dg_cX5_faultOfNumber_121.2.2.2.2.2.1
theorem dX5_faultOfNumber_44 : decode cX5_faultOfNumber 44 = .ok (.iload_n 2, 1) := dg_cX5_faultOfNumber_121.2.2.2.2.2.2.1
theorem dX5_faultOfNumber_45 : decode cX5_faultOfNumber 45 = .ok (.if_icmp .le 7, 3) := dg_cX5_faultOfNumber_121.2.2.2.2.2.2.2.1
theorem dX5_faultOfNumber_48 : decode cX5_faultOfNumber 48 = .ok (.iconst 3, 1) := dg_cX5_faultOfNumber_121.2.2.2.2.2.2.2.2.1
theorem dX5_faultOfNumber_49 : decode cX5_faultOfNumber 49 = .ok (.goto 4, 3) := dg_cX5_faultOfNumber_121.2.2.2.2.2.2.2.2.2.1
theorem dX5_faultOfNumber_52 : decode cX5_faultOfNumber 52 = .ok (.iconst 0, 1) := dg_cX5_faultOfNumber_121.2.2.2.2.2.2.2.2.2.2.1
theorem dX5_faultOfNumber_53 : decode cX5_faultOfNumber 53 = .ok (.ireturn, 1) := dg_cX5_faultOfNumber_121.2.2.2.2.2.2.2.2.2.2.2
set_option maxRecDepth 100000 in
theorem dg_cX5_advance_122 : (decode cX5_advance 0 = .ok (.aload_n 0, 1)) ∧ (decode cX5_advance 1 = .ok (.getfield 18, 3)) ∧ (decode cX5_advance 4 = .ok (.invokevirtual 159, 3)) ∧ (decode cX5_advance 7 = .ok (.aload_n 0, 1)) ∧ (decode cX5_advance 8 = .ok (.getfield 18, 3)) ∧ (decode cX5_advance 11 = .ok (.getfield 48, 3)) ∧ (decode cX5_advance 14 = .ok (.iconst 4, 1)) ∧ (decode cX5_advance 15 = .ok (.if_icmp .ne 11, 3)) ∧ (decode cX5_advance 18 = .ok (.aload_n 0, 1)) ∧ (decode cX5_advance 19 = .ok (.iconst 1, 1)) ∧ (decode cX5_advance 20 = .ok (.invokevirtual 57, 3)) ∧ (decode cX5_advance 23 = .ok (.ifCond .eq 7, 3)) ∧ (decode cX5_advance 26 = .ok (.iconst 1, 1)) ∧ (decode cX5_advance 27 = .ok (.goto 4, 3)) ∧ (decode cX5_advance 30 = .ok (.iconst 0, 1)) ∧ (decode cX5_advance 31 = .ok (.ireturn, 1)) := by decide +kernel
theorem dX5_advance_0 : decode cX5_advance 0 = .ok (.aload_n 0, 1) := dg_cX5_advance_122.1
theorem dX5_advance_1 : decode cX5_advance 1 = .ok (.getfield 18, 3) := dg_cX5_advance_122.2.1
theorem dX5_advance_4 : decode cX5_advance 4 = .ok (.invokevirtual 159, 3) := dg_cX5_advance_122.2.2.1
theorem dX5_advance_7 : decode cX5_advance 7 = .ok (.aload_n 0, 1) := dg_cX5_advance_122.2.2.2.1
theorem dX5_advance_8 : decode cX5_advance 8 = .ok (.getfield 18, 3) := dg_cX5_advance_122.2.2.2.2.1
theorem dX5_advance_11 : decode cX5_advance 11 = .ok (.getfield 48, 3) := dg_cX5_advance_122.2.2.2.2.2.1
theorem dX5_advance_14 : decode cX5_advance 14 = .ok (.iconst 4, 1) := dg_cX5_advance_122.2.2.2.2.2.2.1
theorem dX5_advance_15 : decode cX5_advance 15 = .ok (.if_icmp .ne 11, 3) := dg_cX5_advance_122.2.2.2.2.2.2.2.1
theorem dX5_advance_18 : decode cX5_advance 18 = .ok (.aload_n 0, 1) := dg_cX5_advance_122.2.2.2.2.2.2.2.2.1
theorem dX5_advance_19 : decode cX5_advance 19 = .ok (.iconst 1, 1) := dg_cX5_advance_122.2.2.2.2.2.2.2.2.2.1
theorem dX5_advance_20 : decode cX5_advance 20 = .ok (.invokevirtual 57, 3) := dg_cX5_advance_122.2.2.2.2.2.2.2.2.2.2.1
theorem dX5_advance_23 : decode cX5_advance 23 = .ok (.ifCond .eq 7, 3) := dg_cX5_advance_122.2.2.2.2.2.2.2.2.2.2.2.1
theorem dX5_advance_26 : decode cX5_advance 26 = .ok (.iconst 1, 1) := dg_cX5_advance_122.2.2.2.2.2.2.2.2.2.2.2.2.1
theorem dX5_advance_27 : decode cX5_advance 27 = .ok (.goto 4, 3) := dg_cX5_advance_122.2.2.2.2.2.2.2.2.2.2.2.2.2.1
theorem dX5_advance_30 : decode cX5_advance 30 = .ok (.iconst 0, 1) := dg_cX5_advance_122.2.2.2.2.2.2.2.2.2.2.2.2.2.2.1
theorem dX5_advance_31 : decode cX5_advance 31 = .ok (.ireturn, 1) := dg_cX5_advance_122.2.2.2.2.2.2.2.2.2.2.2.2.2.2.2
set_option maxRecDepth 100000 in
theorem dg_cX5_refuse_123 : (decode cX5_refuse 0 = .ok (.aload_n 0, 1)) ∧ (decode cX5_refuse 1 = .ok (.iload_n 1, 1)) ∧ (decode cX5_refuse 2 = .ok (.putfield 36, 3)) ∧ (decode cX5_refuse 5 = .ok (.aload_n 0, 1)) ∧ (decode cX5_refuse 6 = .ok (.aload_n 0, 1)) ∧ (decode cX5_refuse 7 = .ok (.getfield 18, 3)) ∧ (decode cX5_refuse 10 = .ok (.getfield 162, 3)) ∧ (decode cX5_refuse 13 = .ok (.putfield 165, 3)) ∧ (decode cX5_refuse 16 = .ok (.iconst 0, 1)) ∧ (decode cX5_refuse 17 = .ok (.ireturn, 1)) := by decide +kernel
theorem dX5_refuse_0 : decode cX5_refuse 0 = .ok (.aload_n 0, 1) := dg_cX5_refuse_123.1
theorem dX5_refuse_1 : decode cX5_refuse 1 = .ok (.iload_n 1, 1) := dg_cX5_refuse_123.2.1
theorem dX5_refuse_2 : decode cX5_refuse 2 = .ok (.putfield 36, 3) := dg_cX5_refuse_123.2.2.1
theorem dX5_refuse_5 : decode cX5_refuse 5 = .ok (.aload_n 0, 1) := dg_cX5_refuse_123.2.2.2.1
theorem dX5_refuse_6 : decode cX5_refuse 6 = .ok (.aload_n 0, 1) := dg_cX5_refuse_123.2.2.2.2.1
theorem dX5_refuse_7 : decode cX5_refuse 7 = .ok (.getfield 18, 3) := dg_cX5_refuse_123.2.2.2.2.2.1
theorem dX5_refuse_10 : decode cX5_refuse 10 = .ok (.getfield 162, 3) := dg_cX5_refuse_123.2.2.2.2.2.2.1
theorem dX5_refuse_13 : decode cX5_refuse 13 = .ok (.putfield 165, 3) := dg_cX5_refuse_123.2.2.2.2.2.2.2.1
theorem dX5_refuse_16 : decode cX5_refuse 16 = .ok (.iconst 0, 1) := dg_cX5_refuse_123.2.2.2.2.2.2.2.2.1
theorem dX5_refuse_17 : decode cX5_refuse 17 = .ok (.ireturn, 1) := dg_cX5_refuse_123.2.2.2.2.2.2.2.2.2
set_option maxRecDepth 100000 in
theorem dg_cX6_init_124 : (decode cX6_init 0 = .ok (.aload_n 0, 1)) ∧ (decode cX6_init 1 = .ok (.invokespecial 3, 3)) ∧ (decode cX6_init 4 = .ok (.aload_n 0, 1)) ∧ (decode cX6_init 5 = .ok (.aload_n 1, 1)) ∧ (decode cX6_init 6 = .ok (.putfield 9, 3)) ∧ (decode cX6_init 9 = .ok (.aload_n 0, 1)) ∧ (decode cX6_init 10 = .ok (.aload_n 1, 1)) ∧ (decode cX6_init 11 = .ok (.getfield 15, 3)) ∧ (decode cX6_init 14 = .ok (.putfield 21, 3)) ∧ (decode cX6_init 17 = .ok (.return_, 1)) := by decide +kernel
theorem dX6_init_0 : decode cX6_init 0 = .ok (.aload_n 0, 1) := dg_cX6_init_124.1
theorem dX6_init_1 : decode cX6_init 1 = .ok (.invokespecial 3, 3) := dg_cX6_init_124.2.1
theorem dX6_init_4 : decode cX6_init 4 = .ok (.aload_n 0, 1) := dg_cX6_init_124.2.2.1
theorem dX6_init_5 : decode cX6_init 5 = .ok (.aload_n 1, 1) := dg_cX6_init_124.2.2.2.1
theorem dX6_init_6 : decode cX6_init 6 = .ok (.putfield 9, 3) := dg_cX6_init_124.2.2.2.2.1
theorem dX6_init_9 : decode cX6_init 9 = .ok (.aload_n 0, 1) := dg_cX6_init_124.2.2.2.2.2.1
theorem dX6_init_10 : decode cX6_init 10 = .ok (.aload_n 1, 1) := dg_cX6_init_124.2.2.2.2.2.2.1
theorem dX6_init_11 : decode cX6_init 11 = .ok (.getfield 15, 3) := dg_cX6_init_124.2.2.2.2.2.2.2.1
theorem dX6_init_14 : decode cX6_init 14 = .ok (.putfield 21, 3) := dg_cX6_init_124.2.2.2.2.2.2.2.2.1
theorem dX6_init_17 : decode cX6_init 17 = .ok (.return_, 1) := dg_cX6_init_124.2.2.2.2.2.2.2.2.2
set_option maxRecDepth 100000 in
theorem dg_cX6_play_125 : (decode cX6_play 0 = .ok (.aload_n 0, 1)) ∧ (decode cX6_play 1 = .ok (.iconst 0, 1)) ∧ (decode cX6_play 2 = .ok (.putfield 22, 3)) ∧ (decode cX6_play 5 = .ok (.aload_n 0, 1)) ∧ (decode cX6_play 6 = .ok (.iconst 0, 1)) ∧ (decode cX6_play 7 = .ok (.putfield 26, 3)) ∧ (decode cX6_play 10 = .ok (.aload_n 0, 1)) ∧ (decode cX6_play 11 = .ok (.iconst 0, 1)) ∧ (decode cX6_play 12 = .ok (.putfield 29, 3)) ∧ (decode cX6_play 15 = .ok (.iconst 0, 1)) ∧ (decode cX6_play 16 = .ok (.istore_n 2, 1)) ∧ (decode cX6_play 17 = .ok (.iconst 0, 1)) ∧ (decode cX6_play 18 = .ok (.istore_n 3, 1)) ∧ (decode cX6_play 19 = .ok (.iconst 0, 1)) ∧ (decode cX6_play 20 = .ok (.istore 4, 2)) ∧ (decode cX6_play 22 = .ok (.iload 4, 2)) := by decide +kernel
theorem dX6_play_0 : decode cX6_play 0 = .ok (.aload_n 0, 1) := dg_cX6_play_125.1
theorem dX6_play_1 : decode cX6_play 1 = .ok (.iconst 0, 1) := dg_cX6_play_125.2.1
theorem dX6_play_2 : decode cX6_play 2 = .ok (.putfield 22, 3) := dg_cX6_play_125.2.2.1
theorem dX6_play_5 : decode cX6_play 5 = .ok (.aload_n 0, 1) := dg_cX6_play_125.2.2.2.1
theorem dX6_play_6 : decode cX6_play 6 = .ok (.iconst 0, 1) := dg_cX6_play_125.2.2.2.2.1
theorem dX6_play_7 : decode cX6_play 7 = .ok (.putfield 26, 3) := dg_cX6_play_125.2.2.2.2.2.1
theorem dX6_play_10 : decode cX6_play 10 = .ok (.aload_n 0, 1) := dg_cX6_play_125.2.2.2.2.2.2.1
theorem dX6_play_11 : decode cX6_play 11 = .ok (.iconst 0, 1) := dg_cX6_play_125.2.2.2.2.2.2.2.1
theorem dX6_play_12 : decode cX6_play 12 = .ok (.putfield 29, 3) := dg_cX6_play_125.2.2.2.2.2.2.2.2.1
theorem dX6_play_15 : decode cX6_play 15 = .ok (.iconst 0, 1) := dg_cX6_play_125.2.2.2.2.2.2.2.2.2.1
theorem dX6_play_16 : decode cX6_play 16 = .ok (.istore_n 2, 1) := dg_cX6_play_125.2.2.2.2.2.2.2.2.2.2.1
theorem dX6_play_17 : decode cX6_play 17 = .ok (.iconst 0, 1) := dg_cX6_play_125.2.2.2.2.2.2.2.2.2.2.2.1
theorem dX6_play_18 : decode cX6_play 18 = .ok (.istore_n 3, 1) := dg_cX6_play_125.2.2.2.2.2.2.2.2.2.2.2.2.1
theorem dX6_play_19 : decode cX6_play 19 = .ok (.iconst 0, 1) := dg_cX6_play_125.2.2.2.2.2.2.2.2.2.2.2.2.2.1
theorem dX6_play_20 : decode cX6_play 20 = .ok (.istore 4, 2) := dg_cX6_play_125.2.2.2.2.2.2.2.2.2.2.2.2.2.2.1
theorem dX6_play_22 : decode cX6_play 22 = .ok (.iload 4, 2) := dg_cX6_play_125.2.2.2.2.2.2.2.2.2.2.2.2.2.2.2
set_option maxRecDepth 100000 in
theorem dg_cX6_play_126 : (decode cX6_play 24 = .ok (.aload_n 0, 1)) ∧ (decode cX6_play 25 = .ok (.getfield 9, 3)) ∧ (decode cX6_play 28 = .ok (.getfield 32, 3)) ∧ (decode cX6_play 31 = .ok (.iload_n 1, 1)) ∧ (decode cX6_play 32 = .ok (.iaload, 1)) ∧ (decode cX6_play 33 = .ok (.if_icmp .ge 132, 3)) ∧ (decode cX6_play 36 = .ok (.aload_n 0, 1)) ∧ (decode cX6_play 37 = .ok (.getfield 9, 3)) ∧ (decode cX6_play 40 = .ok (.getfield 36, 3)) ∧ (decode cX6_play 43 = .ok (.iload_n 1, 1)) ∧ (decode cX6_play 44 = .ok (.aaload, 1)) ∧ (decode cX6_play 45 = .ok (.iload 4, 2)) ∧ (decode cX6_play 47 = .ok (.iaload, 1)) ∧ (decode cX6_play 48 = .ok (.istore 5, 2)) ∧ (decode cX6_play 50 = .ok (.aload_n 0, 1)) ∧ (decode cX6_play 51 = .ok (.getfield 21, 3)) := by decide +kernel
theorem dX6_play_24 : decode cX6_play 24 = .ok (.aload_n 0, 1) := dg_cX6_play_126.1
theorem dX6_play_25 : decode cX6_play 25 = .ok (.getfield 9, 3) := dg_cX6_play_126.2.1
theorem dX6_play_28 : decode cX6_play 28 = .ok (.getfield 32, 3) := dg_cX6_play_126.2.2.1
theorem dX6_play_31 : decode cX6_play 31 = .ok (.iload_n 1, 1) := dg_cX6_play_126.2.2.2.1
theorem dX6_play_32 : decode cX6_play 32 = .ok (.iaload, 1) := dg_cX6_play_126.2.2.2.2.1
theorem dX6_play_33 : decode cX6_play 33 = .ok (.if_icmp .ge 132, 3) := dg_cX6_play_126.2.2.2.2.2.1
theorem dX6_play_36 : decode cX6_play 36 = .ok (.aload_n 0, 1) := dg_cX6_play_126.2.2.2.2.2.2.1
theorem dX6_play_37 : decode cX6_play 37 = .ok (.getfield 9, 3) := dg_cX6_play_126.2.2.2.2.2.2.2.1
theorem dX6_play_40 : decode cX6_play 40 = .ok (.getfield 36, 3) := dg_cX6_play_126.2.2.2.2.2.2.2.2.1
theorem dX6_play_43 : decode cX6_play 43 = .ok (.iload_n 1, 1) := dg_cX6_play_126.2.2.2.2.2.2.2.2.2.1
theorem dX6_play_44 : decode cX6_play 44 = .ok (.aaload, 1) := dg_cX6_play_126.2.2.2.2.2.2.2.2.2.2.1
theorem dX6_play_45 : decode cX6_play 45 = .ok (.iload 4, 2) := dg_cX6_play_126.2.2.2.2.2.2.2.2.2.2.2.1
theorem dX6_play_47 : decode cX6_play 47 = .ok (.iaload, 1) := dg_cX6_play_126.2.2.2.2.2.2.2.2.2.2.2.2.1
theorem dX6_play_48 : decode cX6_play 48 = .ok (.istore 5, 2) := dg_cX6_play_126.2.2.2.2.2.2.2.2.2.2.2.2.2.1
theorem dX6_play_50 : decode cX6_play 50 = .ok (.aload_n 0, 1) := dg_cX6_play_126.2.2.2.2.2.2.2.2.2.2.2.2.2.2.1
theorem dX6_play_51 : decode cX6_play 51 = .ok (.getfield 21, 3) := dg_cX6_play_126.2.2.2.2.2.2.2.2.2.2.2.2.2.2.2
set_option maxRecDepth 100000 in
theorem dg_cX6_play_127 : (decode cX6_play 54 = .ok (.getfield 40, 3)) ∧ (decode cX6_play 57 = .ok (.iload 5, 2)) ∧ (decode cX6_play 59 = .ok (.iaload, 1)) ∧ (decode cX6_play 60 = .ok (.istore 6, 2)) ∧ (decode cX6_play 62 = .ok (.aload_n 0, 1)) ∧ (decode cX6_play 63 = .ok (.getfield 21, 3)) ∧ (decode cX6_play 66 = .ok (.getfield 45, 3)) ∧ (decode cX6_play 69 = .ok (.iload 5, 2)) ∧ (decode cX6_play 71 = .ok (.iaload, 1)) ∧ (decode cX6_play 72 = .ok (.ifCond .ne 12, 3)) ∧ (decode cX6_play 75 = .ok (.iload_n 3, 1)) ∧ (decode cX6_play 76 = .ok (.iconst 1, 1)) ∧ (decode cX6_play 77 = .ok (.iload 6, 2)) ∧ (decode cX6_play 79 = .ok (.ishl, 1)) ∧ (decode cX6_play 80 = .ok (.iand, 1)) ∧ (decode cX6_play 81 = .ok (.ifCond .eq 29, 3)) := by decide +kernel
theorem dX6_play_54 : decode cX6_play 54 = .ok (.getfield 40, 3) := dg_cX6_play_127.1
theorem dX6_play_57 : decode cX6_play 57 = .ok (.iload 5, 2) := dg_cX6_play_127.2.1
theorem dX6_play_59 : decode cX6_play 59 = .ok (.iaload, 1) := dg_cX6_play_127.2.2.1
theorem dX6_play_60 : decode cX6_play 60 = .ok (.istore 6, 2) := dg_cX6_play_127.2.2.2.1
theorem dX6_play_62 : decode cX6_play 62 = .ok (.aload_n 0, 1) := dg_cX6_play_127.2.2.2.2.1
theorem dX6_play_63 : decode cX6_play 63 = .ok (.getfield 21, 3) := dg_cX6_play_127.2.2.2.2.2.1
theorem dX6_play_66 : decode cX6_play 66 = .ok (.getfield 45, 3) := dg_cX6_play_127.2.2.2.2.2.2.1
theorem dX6_play_69 : decode cX6_play 69 = .ok (.iload 5, 2) := dg_cX6_play_127.2.2.2.2.2.2.2.1
theorem dX6_play_71 : decode cX6_play 71 = .ok (.iaload, 1) := dg_cX6_play_127.2.2.2.2.2.2.2.2.1
theorem dX6_play_72 : decode cX6_play 72 = .ok (.ifCond .ne 12, 3) := dg_cX6_play_127.2.2.2.2.2.2.2.2.2.1
theorem dX6_play_75 : decode cX6_play 75 = .ok (.iload_n 3, 1) := dg_cX6_play_127.2.2.2.2.2.2.2.2.2.2.1
theorem dX6_play_76 : decode cX6_play 76 = .ok (.iconst 1, 1) := dg_cX6_play_127.2.2.2.2.2.2.2.2.2.2.2.1
theorem dX6_play_77 : decode cX6_play 77 = .ok (.iload 6, 2) := dg_cX6_play_127.2.2.2.2.2.2.2.2.2.2.2.2.1
theorem dX6_play_79 : decode cX6_play 79 = .ok (.ishl, 1) := dg_cX6_play_127.2.2.2.2.2.2.2.2.2.2.2.2.2.1
theorem dX6_play_80 : decode cX6_play 80 = .ok (.iand, 1) := dg_cX6_play_127.2.2.2.2.2.2.2.2.2.2.2.2.2.2.1
theorem dX6_play_81 : decode cX6_play 81 = .ok (.ifCond .eq 29, 3) := dg_cX6_play_127.2.2.2.2.2.2.2.2.2.2.2.2.2.2.2
set_option maxRecDepth 100000 in
theorem dg_cX6_play_128 : (decode cX6_play 84 = .ok (.aload_n 0, 1)) ∧ (decode cX6_play 85 = .ok (.dup, 1)) ∧ (decode cX6_play 86 = .ok (.getfield 29, 3)) ∧ (decode cX6_play 89 = .ok (.iconst 1, 1)) ∧ (decode cX6_play 90 = .ok (.iload 4, 2)) ∧ (decode cX6_play 92 = .ok (.ishl, 1)) ∧ (decode cX6_play 93 = .ok (.ior, 1)) ∧ (decode cX6_play 94 = .ok (.putfield 29, 3)) ∧ (decode cX6_play 97 = .ok (.iload_n 2, 1)) ∧ (decode cX6_play 98 = .ok (.aload_n 0, 1)) ∧ (decode cX6_play 99 = .ok (.getfield 9, 3)) ∧ (decode cX6_play 102 = .ok (.getfield 48, 3)) ∧ (decode cX6_play 105 = .ok (.iadd, 1)) ∧ (decode cX6_play 106 = .ok (.istore_n 2, 1)) ∧ (decode cX6_play 107 = .ok (.goto 52, 3)) ∧ (decode cX6_play 110 = .ok (.aload_n 0, 1)) := by decide +kernel
theorem dX6_play_84 : decode cX6_play 84 = .ok (.aload_n 0, 1) := dg_cX6_play_128.1
theorem dX6_play_85 : decode cX6_play 85 = .ok (.dup, 1) := dg_cX6_play_128.2.1
theorem dX6_play_86 : decode cX6_play 86 = .ok (.getfield 29, 3) := dg_cX6_play_128.2.2.1
theorem dX6_play_89 : decode cX6_play 89 = .ok (.iconst 1, 1) := dg_cX6_play_128.2.2.2.1
theorem dX6_play_90 : decode cX6_play 90 = .ok (.iload 4, 2) := dg_cX6_play_128.2.2.2.2.1
theorem dX6_play_92 : decode cX6_play 92 = .ok (.ishl, 1) := dg_cX6_play_128.2.2.2.2.2.1
theorem dX6_play_93 : decode cX6_play 93 = .ok (.ior, 1) := dg_cX6_play_128.2.2.2.2.2.2.1
theorem dX6_play_94 : decode cX6_play 94 = .ok (.putfield 29, 3) := dg_cX6_play_128.2.2.2.2.2.2.2.1
theorem dX6_play_97 : decode cX6_play 97 = .ok (.iload_n 2, 1) := dg_cX6_play_128.2.2.2.2.2.2.2.2.1
theorem dX6_play_98 : decode cX6_play 98 = .ok (.aload_n 0, 1) := dg_cX6_play_128.2.2.2.2.2.2.2.2.2.1
theorem dX6_play_99 : decode cX6_play 99 = .ok (.getfield 9, 3) := dg_cX6_play_128.2.2.2.2.2.2.2.2.2.2.1
theorem dX6_play_102 : decode cX6_play 102 = .ok (.getfield 48, 3) := dg_cX6_play_128.2.2.2.2.2.2.2.2.2.2.2.1
theorem dX6_play_105 : decode cX6_play 105 = .ok (.iadd, 1) := dg_cX6_play_128.2.2.2.2.2.2.2.2.2.2.2.2.1
theorem dX6_play_106 : decode cX6_play 106 = .ok (.istore_n 2, 1) := dg_cX6_play_128.2.2.2.2.2.2.2.2.2.2.2.2.2.1
theorem dX6_play_107 : decode cX6_play 107 = .ok (.goto 52, 3) := dg_cX6_play_128.2.2.2.2.2.2.2.2.2.2.2.2.2.2.1
theorem dX6_play_110 : decode cX6_play 110 = .ok (.aload_n 0, 1) := dg_cX6_play_128.2.2.2.2.2.2.2.2.2.2.2.2.2.2.2
set_option maxRecDepth 100000 in
theorem dg_cX6_play_129 : (decode cX6_play 111 = .ok (.dup, 1)) ∧ (decode cX6_play 112 = .ok (.getfield 22, 3)) ∧ (decode cX6_play 115 = .ok (.aload_n 0, 1)) ∧ (decode cX6_play 116 = .ok (.getfield 21, 3)) ∧ (decode cX6_play 119 = .ok (.getfield 51, 3)) ∧ (decode cX6_play 122 = .ok (.iload 5, 2)) ∧ (decode cX6_play 124 = .ok (.iaload, 1)) ∧ (decode cX6_play 125 = .ok (.iadd, 1)) ∧ (decode cX6_play 126 = .ok (.putfield 22, 3)) ∧ (decode cX6_play 129 = .ok (.aload_n 0, 1)) ∧ (decode cX6_play 130 = .ok (.dup, 1)) ∧ (decode cX6_play 131 = .ok (.getfield 26, 3)) ∧ (decode cX6_play 134 = .ok (.aload_n 0, 1)) ∧ (decode cX6_play 135 = .ok (.getfield 21, 3)) ∧ (decode cX6_play 138 = .ok (.getfield 54, 3)) ∧ (decode cX6_play 141 = .ok (.iload 5, 2)) := by decide +kernel
theorem dX6_play_111 : decode cX6_play 111 = .ok (.dup, 1) := dg_cX6_play_129.1
theorem dX6_play_112 : decode cX6_play 112 = .ok (.getfield 22, 3) := dg_cX6_play_129.2.1
theorem dX6_play_115 : decode cX6_play 115 = .ok (.aload_n 0, 1) := dg_cX6_play_129.2.2.1
theorem dX6_play_116 : decode cX6_play 116 = .ok (.getfield 21, 3) := dg_cX6_play_129.2.2.2.1
theorem dX6_play_119 : decode cX6_play 119 = .ok (.getfield 51, 3) := dg_cX6_play_129.2.2.2.2.1
theorem dX6_play_122 : decode cX6_play 122 = .ok (.iload 5, 2) := dg_cX6_play_129.2.2.2.2.2.1
theorem dX6_play_124 : decode cX6_play 124 = .ok (.iaload, 1) := dg_cX6_play_129.2.2.2.2.2.2.1
theorem dX6_play_125 : decode cX6_play 125 = .ok (.iadd, 1) := dg_cX6_play_129.2.2.2.2.2.2.2.1
theorem dX6_play_126 : decode cX6_play 126 = .ok (.putfield 22, 3) := dg_cX6_play_129.2.2.2.2.2.2.2.2.1
theorem dX6_play_129 : decode cX6_play 129 = .ok (.aload_n 0, 1) := dg_cX6_play_129.2.2.2.2.2.2.2.2.2.1
theorem dX6_play_130 : decode cX6_play 130 = .ok (.dup, 1) := dg_cX6_play_129.2.2.2.2.2.2.2.2.2.2.1
theorem dX6_play_131 : decode cX6_play 131 = .ok (.getfield 26, 3) := dg_cX6_play_129.2.2.2.2.2.2.2.2.2.2.2.1
theorem dX6_play_134 : decode cX6_play 134 = .ok (.aload_n 0, 1) := dg_cX6_play_129.2.2.2.2.2.2.2.2.2.2.2.2.1
theorem dX6_play_135 : decode cX6_play 135 = .ok (.getfield 21, 3) := dg_cX6_play_129.2.2.2.2.2.2.2.2.2.2.2.2.2.1
theorem dX6_play_138 : decode cX6_play 138 = .ok (.getfield 54, 3) := dg_cX6_play_129.2.2.2.2.2.2.2.2.2.2.2.2.2.2.1
theorem dX6_play_141 : decode cX6_play 141 = .ok (.iload 5, 2) := dg_cX6_play_129.2.2.2.2.2.2.2.2.2.2.2.2.2.2.2
set_option maxRecDepth 100000 in
theorem dg_cX6_play_130 : (decode cX6_play 143 = .ok (.iaload, 1)) ∧ (decode cX6_play 144 = .ok (.iadd, 1)) ∧ (decode cX6_play 145 = .ok (.putfield 26, 3)) ∧ (decode cX6_play 148 = .ok (.aload_n 0, 1)) ∧ (decode cX6_play 149 = .ok (.getfield 21, 3)) ∧ (decode cX6_play 152 = .ok (.getfield 57, 3)) ∧ (decode cX6_play 155 = .ok (.iload 6, 2)) ∧ (decode cX6_play 157 = .ok (.iaload, 1)) ∧ (decode cX6_play 158 = .ok (.istore_n 3, 1)) ∧ (decode cX6_play 159 = .ok (.iinc 4 1, 3)) ∧ (decode cX6_play 162 = .ok (.goto (-140), 3)) ∧ (decode cX6_play 165 = .ok (.aload_n 0, 1)) ∧ (decode cX6_play 166 = .ok (.aload_n 0, 1)) ∧ (decode cX6_play 167 = .ok (.getfield 9, 3)) ∧ (decode cX6_play 170 = .ok (.getfield 60, 3)) ∧ (decode cX6_play 173 = .ok (.iload_n 1, 1)) := by decide +kernel
theorem dX6_play_143 : decode cX6_play 143 = .ok (.iaload, 1) := dg_cX6_play_130.1
theorem dX6_play_144 : decode cX6_play 144 = .ok (.iadd, 1) := dg_cX6_play_130.2.1
theorem dX6_play_145 : decode cX6_play 145 = .ok (.putfield 26, 3) := dg_cX6_play_130.2.2.1
theorem dX6_play_148 : decode cX6_play 148 = .ok (.aload_n 0, 1) := dg_cX6_play_130.2.2.2.1
theorem dX6_play_149 : decode cX6_play 149 = .ok (.getfield 21, 3) := dg_cX6_play_130.2.2.2.2.1
theorem dX6_play_152 : decode cX6_play 152 = .ok (.getfield 57, 3) := dg_cX6_play_130.2.2.2.2.2.1
theorem dX6_play_155 : decode cX6_play 155 = .ok (.iload 6, 2) := dg_cX6_play_130.2.2.2.2.2.2.1
theorem dX6_play_157 : decode cX6_play 157 = .ok (.iaload, 1) := dg_cX6_play_130.2.2.2.2.2.2.2.1
theorem dX6_play_158 : decode cX6_play 158 = .ok (.istore_n 3, 1) := dg_cX6_play_130.2.2.2.2.2.2.2.2.1
theorem dX6_play_159 : decode cX6_play 159 = .ok (.iinc 4 1, 3) := dg_cX6_play_130.2.2.2.2.2.2.2.2.2.1
theorem dX6_play_162 : decode cX6_play 162 = .ok (.goto (-140), 3) := dg_cX6_play_130.2.2.2.2.2.2.2.2.2.2.1
theorem dX6_play_165 : decode cX6_play 165 = .ok (.aload_n 0, 1) := dg_cX6_play_130.2.2.2.2.2.2.2.2.2.2.2.1
theorem dX6_play_166 : decode cX6_play 166 = .ok (.aload_n 0, 1) := dg_cX6_play_130.2.2.2.2.2.2.2.2.2.2.2.2.1
theorem dX6_play_167 : decode cX6_play 167 = .ok (.getfield 9, 3) := dg_cX6_play_130.2.2.2.2.2.2.2.2.2.2.2.2.2.1
theorem dX6_play_170 : decode cX6_play 170 = .ok (.getfield 60, 3) := dg_cX6_play_130.2.2.2.2.2.2.2.2.2.2.2.2.2.2.1
theorem dX6_play_173 : decode cX6_play 173 = .ok (.iload_n 1, 1) := dg_cX6_play_130.2.2.2.2.2.2.2.2.2.2.2.2.2.2.2
set_option maxRecDepth 100000 in
theorem dg_cX6_play_131 : (decode cX6_play 174 = .ok (.iaload, 1)) ∧ (decode cX6_play 175 = .ok (.aload_n 0, 1)) ∧ (decode cX6_play 176 = .ok (.getfield 22, 3)) ∧ (decode cX6_play 179 = .ok (.isub, 1)) ∧ (decode cX6_play 180 = .ok (.aload_n 0, 1)) ∧ (decode cX6_play 181 = .ok (.getfield 26, 3)) ∧ (decode cX6_play 184 = .ok (.isub, 1)) ∧ (decode cX6_play 185 = .ok (.iload_n 2, 1)) ∧ (decode cX6_play 186 = .ok (.isub, 1)) ∧ (decode cX6_play 187 = .ok (.putfield 63, 3)) ∧ (decode cX6_play 190 = .ok (.return_, 1)) := by decide +kernel
theorem dX6_play_174 : decode cX6_play 174 = .ok (.iaload, 1) := dg_cX6_play_131.1
theorem dX6_play_175 : decode cX6_play 175 = .ok (.aload_n 0, 1) := dg_cX6_play_131.2.1
theorem dX6_play_176 : decode cX6_play 176 = .ok (.getfield 22, 3) := dg_cX6_play_131.2.2.1
theorem dX6_play_179 : decode cX6_play 179 = .ok (.isub, 1) := dg_cX6_play_131.2.2.2.1
theorem dX6_play_180 : decode cX6_play 180 = .ok (.aload_n 0, 1) := dg_cX6_play_131.2.2.2.2.1
theorem dX6_play_181 : decode cX6_play 181 = .ok (.getfield 26, 3) := dg_cX6_play_131.2.2.2.2.2.1
theorem dX6_play_184 : decode cX6_play 184 = .ok (.isub, 1) := dg_cX6_play_131.2.2.2.2.2.2.1
theorem dX6_play_185 : decode cX6_play 185 = .ok (.iload_n 2, 1) := dg_cX6_play_131.2.2.2.2.2.2.2.1
theorem dX6_play_186 : decode cX6_play 186 = .ok (.isub, 1) := dg_cX6_play_131.2.2.2.2.2.2.2.2.1
theorem dX6_play_187 : decode cX6_play 187 = .ok (.putfield 63, 3) := dg_cX6_play_131.2.2.2.2.2.2.2.2.2.1
theorem dX6_play_190 : decode cX6_play 190 = .ok (.return_, 1) := dg_cX6_play_131.2.2.2.2.2.2.2.2.2.2
set_option maxRecDepth 100000 in
theorem dg_cX6_rang_132 : (decode cX6_rang 0 = .ok (.aload_n 0, 1)) ∧ (decode cX6_rang 1 = .ok (.getfield 29, 3)) ∧ (decode cX6_rang 4 = .ok (.iconst 1, 1)) ∧ (decode cX6_rang 5 = .ok (.iload_n 1, 1)) ∧ (decode cX6_rang 6 = .ok (.ishl, 1)) ∧ (decode cX6_rang 7 = .ok (.iand, 1)) ∧ (decode cX6_rang 8 = .ok (.ifCond .ne 7, 3)) ∧ (decode cX6_rang 11 = .ok (.iconst 1, 1)) ∧ (decode cX6_rang 12 = .ok (.goto 4, 3)) ∧ (decode cX6_rang 15 = .ok (.iconst 0, 1)) ∧ (decode cX6_rang 16 = .ok (.ireturn, 1)) := by decide +kernel
theorem dX6_rang_0 : decode cX6_rang 0 = .ok (.aload_n 0, 1) := dg_cX6_rang_132.1
theorem dX6_rang_1 : decode cX6_rang 1 = .ok (.getfield 29, 3) := dg_cX6_rang_132.2.1
theorem dX6_rang_4 : decode cX6_rang 4 = .ok (.iconst 1, 1) := dg_cX6_rang_132.2.2.1
theorem dX6_rang_5 : decode cX6_rang 5 = .ok (.iload_n 1, 1) := dg_cX6_rang_132.2.2.2.1
theorem dX6_rang_6 : decode cX6_rang 6 = .ok (.ishl, 1) := dg_cX6_rang_132.2.2.2.2.1
theorem dX6_rang_7 : decode cX6_rang 7 = .ok (.iand, 1) := dg_cX6_rang_132.2.2.2.2.2.1
theorem dX6_rang_8 : decode cX6_rang 8 = .ok (.ifCond .ne 7, 3) := dg_cX6_rang_132.2.2.2.2.2.2.1
theorem dX6_rang_11 : decode cX6_rang 11 = .ok (.iconst 1, 1) := dg_cX6_rang_132.2.2.2.2.2.2.2.1
theorem dX6_rang_12 : decode cX6_rang 12 = .ok (.goto 4, 3) := dg_cX6_rang_132.2.2.2.2.2.2.2.2.1
theorem dX6_rang_15 : decode cX6_rang 15 = .ok (.iconst 0, 1) := dg_cX6_rang_132.2.2.2.2.2.2.2.2.2.1
theorem dX6_rang_16 : decode cX6_rang 16 = .ok (.ireturn, 1) := dg_cX6_rang_132.2.2.2.2.2.2.2.2.2.2
set_option maxRecDepth 100000 in
theorem dg_cX6_tuneTaken_133 : (decode cX6_tuneTaken 0 = .ok (.bipush (-4), 2)) ∧ (decode cX6_tuneTaken 2 = .ok (.istore_n 1, 1)) ∧ (decode cX6_tuneTaken 3 = .ok (.iconst 0, 1)) ∧ (decode cX6_tuneTaken 4 = .ok (.istore_n 2, 1)) ∧ (decode cX6_tuneTaken 5 = .ok (.iconst 0, 1)) ∧ (decode cX6_tuneTaken 6 = .ok (.istore_n 3, 1)) ∧ (decode cX6_tuneTaken 7 = .ok (.iload_n 3, 1)) ∧ (decode cX6_tuneTaken 8 = .ok (.aload_n 0, 1)) ∧ (decode cX6_tuneTaken 9 = .ok (.getfield 9, 3)) ∧ (decode cX6_tuneTaken 12 = .ok (.getfield 66, 3)) ∧ (decode cX6_tuneTaken 15 = .ok (.if_icmp .ge 29, 3)) ∧ (decode cX6_tuneTaken 18 = .ok (.aload_n 0, 1)) ∧ (decode cX6_tuneTaken 19 = .ok (.iload_n 3, 1)) ∧ (decode cX6_tuneTaken 20 = .ok (.invokevirtual 69, 3)) ∧ (decode cX6_tuneTaken 23 = .ok (.aload_n 0, 1)) ∧ (decode cX6_tuneTaken 24 = .ok (.getfield 63, 3)) := by decide +kernel
theorem dX6_tuneTaken_0 : decode cX6_tuneTaken 0 = .ok (.bipush (-4), 2) := dg_cX6_tuneTaken_133.1
theorem dX6_tuneTaken_2 : decode cX6_tuneTaken 2 = .ok (.istore_n 1, 1) := dg_cX6_tuneTaken_133.2.1
theorem dX6_tuneTaken_3 : decode cX6_tuneTaken 3 = .ok (.iconst 0, 1) := dg_cX6_tuneTaken_133.2.2.1
theorem dX6_tuneTaken_4 : decode cX6_tuneTaken 4 = .ok (.istore_n 2, 1) := dg_cX6_tuneTaken_133.2.2.2.1
theorem dX6_tuneTaken_5 : decode cX6_tuneTaken 5 = .ok (.iconst 0, 1) := dg_cX6_tuneTaken_133.2.2.2.2.1
theorem dX6_tuneTaken_6 : decode cX6_tuneTaken 6 = .ok (.istore_n 3, 1) := dg_cX6_tuneTaken_133.2.2.2.2.2.1
theorem dX6_tuneTaken_7 : decode cX6_tuneTaken 7 = .ok (.iload_n 3, 1) := dg_cX6_tuneTaken_133.2.2.2.2.2.2.1
theorem dX6_tuneTaken_8 : decode cX6_tuneTaken 8 = .ok (.aload_n 0, 1) := dg_cX6_tuneTaken_133.2.2.2.2.2.2.2.1
theorem dX6_tuneTaken_9 : decode cX6_tuneTaken 9 = .ok (.getfield 9, 3) := dg_cX6_tuneTaken_133.2.2.2.2.2.2.2.2.1
theorem dX6_tuneTaken_12 : decode cX6_tuneTaken 12 = .ok (.getfield 66, 3) := dg_cX6_tuneTaken_133.2.2.2.2.2.2.2.2.2.1
theorem dX6_tuneTaken_15 : decode cX6_tuneTaken 15 = .ok (.if_icmp .ge 29, 3) := dg_cX6_tuneTaken_133.2.2.2.2.2.2.2.2.2.2.1
theorem dX6_tuneTaken_18 : decode cX6_tuneTaken 18 = .ok (.aload_n 0, 1) := dg_cX6_tuneTaken_133.2.2.2.2.2.2.2.2.2.2.2.1
theorem dX6_tuneTaken_19 : decode cX6_tuneTaken 19 = .ok (.iload_n 3, 1) := dg_cX6_tuneTaken_133.2.2.2.2.2.2.2.2.2.2.2.2.1
theorem dX6_tuneTaken_20 : decode cX6_tuneTaken 20 = .ok (.invokevirtual 69, 3) := dg_cX6_tuneTaken_133.2.2.2.2.2.2.2.2.2.2.2.2.2.1
theorem dX6_tuneTaken_23 : decode cX6_tuneTaken 23 = .ok (.aload_n 0, 1) := dg_cX6_tuneTaken_133.2.2.2.2.2.2.2.2.2.2.2.2.2.2.1
theorem dX6_tuneTaken_24 : decode cX6_tuneTaken 24 = .ok (.getfield 63, 3) := dg_cX6_tuneTaken_133.2.2.2.2.2.2.2.2.2.2.2.2.2.2.2
set_option maxRecDepth 100000 in
theorem dg_cX6_tuneTaken_134 : (decode cX6_tuneTaken 27 = .ok (.iload_n 2, 1)) ∧ (decode cX6_tuneTaken 28 = .ok (.if_icmp .le 10, 3)) ∧ (decode cX6_tuneTaken 31 = .ok (.aload_n 0, 1)) ∧ (decode cX6_tuneTaken 32 = .ok (.getfield 63, 3)) ∧ (decode cX6_tuneTaken 35 = .ok (.istore_n 2, 1)) ∧ (decode cX6_tuneTaken 36 = .ok (.iload_n 3, 1)) ∧ (decode cX6_tuneTaken 37 = .ok (.istore_n 1, 1)) ∧ (decode cX6_tuneTaken 38 = .ok (.iinc 3 1, 3)) ∧ (decode cX6_tuneTaken 41 = .ok (.goto (-34), 3)) ∧ (decode cX6_tuneTaken 44 = .ok (.iload_n 1, 1)) ∧ (decode cX6_tuneTaken 45 = .ok (.ireturn, 1)) := by decide +kernel
theorem dX6_tuneTaken_27 : decode cX6_tuneTaken 27 = .ok (.iload_n 2, 1) := dg_cX6_tuneTaken_134.1
theorem dX6_tuneTaken_28 : decode cX6_tuneTaken 28 = .ok (.if_icmp .le 10, 3) := dg_cX6_tuneTaken_134.2.1
theorem dX6_tuneTaken_31 : decode cX6_tuneTaken 31 = .ok (.aload_n 0, 1) := dg_cX6_tuneTaken_134.2.2.1
theorem dX6_tuneTaken_32 : decode cX6_tuneTaken 32 = .ok (.getfield 63, 3) := dg_cX6_tuneTaken_134.2.2.2.1
theorem dX6_tuneTaken_35 : decode cX6_tuneTaken 35 = .ok (.istore_n 2, 1) := dg_cX6_tuneTaken_134.2.2.2.2.1
theorem dX6_tuneTaken_36 : decode cX6_tuneTaken 36 = .ok (.iload_n 3, 1) := dg_cX6_tuneTaken_134.2.2.2.2.2.1
theorem dX6_tuneTaken_37 : decode cX6_tuneTaken 37 = .ok (.istore_n 1, 1) := dg_cX6_tuneTaken_134.2.2.2.2.2.2.1
theorem dX6_tuneTaken_38 : decode cX6_tuneTaken 38 = .ok (.iinc 3 1, 3) := dg_cX6_tuneTaken_134.2.2.2.2.2.2.2.1
theorem dX6_tuneTaken_41 : decode cX6_tuneTaken 41 = .ok (.goto (-34), 3) := dg_cX6_tuneTaken_134.2.2.2.2.2.2.2.2.1
theorem dX6_tuneTaken_44 : decode cX6_tuneTaken 44 = .ok (.iload_n 1, 1) := dg_cX6_tuneTaken_134.2.2.2.2.2.2.2.2.2.1
theorem dX6_tuneTaken_45 : decode cX6_tuneTaken 45 = .ok (.ireturn, 1) := dg_cX6_tuneTaken_134.2.2.2.2.2.2.2.2.2.2
set_option maxRecDepth 100000 in
theorem dg_cX6_shareOf_135 : (decode cX6_shareOf 0 = .ok (.aload_n 0, 1)) ∧ (decode cX6_shareOf 1 = .ok (.iload_n 2, 1)) ∧ (decode cX6_shareOf 2 = .ok (.invokevirtual 69, 3)) ∧ (decode cX6_shareOf 5 = .ok (.iconst 0, 1)) ∧ (decode cX6_shareOf 6 = .ok (.istore_n 3, 1)) ∧ (decode cX6_shareOf 7 = .ok (.iconst 0, 1)) ∧ (decode cX6_shareOf 8 = .ok (.istore 4, 2)) ∧ (decode cX6_shareOf 10 = .ok (.iload 4, 2)) ∧ (decode cX6_shareOf 12 = .ok (.aload_n 0, 1)) ∧ (decode cX6_shareOf 13 = .ok (.getfield 9, 3)) ∧ (decode cX6_shareOf 16 = .ok (.getfield 32, 3)) ∧ (decode cX6_shareOf 19 = .ok (.iload_n 2, 1)) ∧ (decode cX6_shareOf 20 = .ok (.iaload, 1)) ∧ (decode cX6_shareOf 21 = .ok (.if_icmp .ge 41, 3)) ∧ (decode cX6_shareOf 24 = .ok (.aload_n 0, 1)) ∧ (decode cX6_shareOf 25 = .ok (.iload 4, 2)) := by decide +kernel
theorem dX6_shareOf_0 : decode cX6_shareOf 0 = .ok (.aload_n 0, 1) := dg_cX6_shareOf_135.1
theorem dX6_shareOf_1 : decode cX6_shareOf 1 = .ok (.iload_n 2, 1) := dg_cX6_shareOf_135.2.1
theorem dX6_shareOf_2 : decode cX6_shareOf 2 = .ok (.invokevirtual 69, 3) := dg_cX6_shareOf_135.2.2.1
theorem dX6_shareOf_5 : decode cX6_shareOf 5 = .ok (.iconst 0, 1) := dg_cX6_shareOf_135.2.2.2.1
theorem dX6_shareOf_6 : decode cX6_shareOf 6 = .ok (.istore_n 3, 1) := dg_cX6_shareOf_135.2.2.2.2.1
theorem dX6_shareOf_7 : decode cX6_shareOf 7 = .ok (.iconst 0, 1) := dg_cX6_shareOf_135.2.2.2.2.2.1
theorem dX6_shareOf_8 : decode cX6_shareOf 8 = .ok (.istore 4, 2) := dg_cX6_shareOf_135.2.2.2.2.2.2.1
theorem dX6_shareOf_10 : decode cX6_shareOf 10 = .ok (.iload 4, 2) := dg_cX6_shareOf_135.2.2.2.2.2.2.2.1
theorem dX6_shareOf_12 : decode cX6_shareOf 12 = .ok (.aload_n 0, 1) := dg_cX6_shareOf_135.2.2.2.2.2.2.2.2.1
theorem dX6_shareOf_13 : decode cX6_shareOf 13 = .ok (.getfield 9, 3) := dg_cX6_shareOf_135.2.2.2.2.2.2.2.2.2.1
theorem dX6_shareOf_16 : decode cX6_shareOf 16 = .ok (.getfield 32, 3) := dg_cX6_shareOf_135.2.2.2.2.2.2.2.2.2.2.1
theorem dX6_shareOf_19 : decode cX6_shareOf 19 = .ok (.iload_n 2, 1) := dg_cX6_shareOf_135.2.2.2.2.2.2.2.2.2.2.2.1
theorem dX6_shareOf_20 : decode cX6_shareOf 20 = .ok (.iaload, 1) := dg_cX6_shareOf_135.2.2.2.2.2.2.2.2.2.2.2.2.1
theorem dX6_shareOf_21 : decode cX6_shareOf 21 = .ok (.if_icmp .ge 41, 3) := dg_cX6_shareOf_135.2.2.2.2.2.2.2.2.2.2.2.2.2.1
theorem dX6_shareOf_24 : decode cX6_shareOf 24 = .ok (.aload_n 0, 1) := dg_cX6_shareOf_135.2.2.2.2.2.2.2.2.2.2.2.2.2.2.1
theorem dX6_shareOf_25 : decode cX6_shareOf 25 = .ok (.iload 4, 2) := dg_cX6_shareOf_135.2.2.2.2.2.2.2.2.2.2.2.2.2.2.2
set_option maxRecDepth 100000 in
theorem dg_cX6_shareOf_136 : (decode cX6_shareOf 27 = .ok (.invokevirtual 73, 3)) ∧ (decode cX6_shareOf 30 = .ok (.ifCond .eq 26, 3)) ∧ (decode cX6_shareOf 33 = .ok (.iload_n 3, 1)) ∧ (decode cX6_shareOf 34 = .ok (.aload_n 0, 1)) ∧ (decode cX6_shareOf 35 = .ok (.getfield 21, 3)) ∧ (decode cX6_shareOf 38 = .ok (.iload_n 1, 1)) ∧ (decode cX6_shareOf 39 = .ok (.aload_n 0, 1)) ∧ (decode cX6_shareOf 40 = .ok (.getfield 9, 3)) ∧ (decode cX6_shareOf 43 = .ok (.getfield 36, 3)) ∧ (decode cX6_shareOf 46 = .ok (.iload_n 2, 1)) ∧ (decode cX6_shareOf 47 = .ok (.aaload, 1)) ∧ (decode cX6_shareOf 48 = .ok (.iload 4, 2)) ∧ (decode cX6_shareOf 50 = .ok (.iaload, 1)) ∧ (decode cX6_shareOf 51 = .ok (.invokevirtual 77, 3)) ∧ (decode cX6_shareOf 54 = .ok (.iadd, 1)) ∧ (decode cX6_shareOf 55 = .ok (.istore_n 3, 1)) := by decide +kernel
theorem dX6_shareOf_27 : decode cX6_shareOf 27 = .ok (.invokevirtual 73, 3) := dg_cX6_shareOf_136.1
theorem dX6_shareOf_30 : decode cX6_shareOf 30 = .ok (.ifCond .eq 26, 3) := dg_cX6_shareOf_136.2.1
theorem dX6_shareOf_33 : decode cX6_shareOf 33 = .ok (.iload_n 3, 1) := dg_cX6_shareOf_136.2.2.1
theorem dX6_shareOf_34 : decode cX6_shareOf 34 = .ok (.aload_n 0, 1) := dg_cX6_shareOf_136.2.2.2.1
theorem dX6_shareOf_35 : decode cX6_shareOf 35 = .ok (.getfield 21, 3) := dg_cX6_shareOf_136.2.2.2.2.1
theorem dX6_shareOf_38 : decode cX6_shareOf 38 = .ok (.iload_n 1, 1) := dg_cX6_shareOf_136.2.2.2.2.2.1
theorem dX6_shareOf_39 : decode cX6_shareOf 39 = .ok (.aload_n 0, 1) := dg_cX6_shareOf_136.2.2.2.2.2.2.1
theorem dX6_shareOf_40 : decode cX6_shareOf 40 = .ok (.getfield 9, 3) := dg_cX6_shareOf_136.2.2.2.2.2.2.2.1
theorem dX6_shareOf_43 : decode cX6_shareOf 43 = .ok (.getfield 36, 3) := dg_cX6_shareOf_136.2.2.2.2.2.2.2.2.1
theorem dX6_shareOf_46 : decode cX6_shareOf 46 = .ok (.iload_n 2, 1) := dg_cX6_shareOf_136.2.2.2.2.2.2.2.2.2.1
theorem dX6_shareOf_47 : decode cX6_shareOf 47 = .ok (.aaload, 1) := dg_cX6_shareOf_136.2.2.2.2.2.2.2.2.2.2.1
theorem dX6_shareOf_48 : decode cX6_shareOf 48 = .ok (.iload 4, 2) := dg_cX6_shareOf_136.2.2.2.2.2.2.2.2.2.2.2.1
theorem dX6_shareOf_50 : decode cX6_shareOf 50 = .ok (.iaload, 1) := dg_cX6_shareOf_136.2.2.2.2.2.2.2.2.2.2.2.2.1
theorem dX6_shareOf_51 : decode cX6_shareOf 51 = .ok (.invokevirtual 77, 3) := dg_cX6_shareOf_136.2.2.2.2.2.2.2.2.2.2.2.2.2.1
theorem dX6_shareOf_54 : decode cX6_shareOf 54 = .ok (.iadd, 1) := dg_cX6_shareOf_136.2.2.2.2.2.2.2.2.2.2.2.2.2.2.1
theorem dX6_shareOf_55 : decode cX6_shareOf 55 = .ok (.istore_n 3, 1) := dg_cX6_shareOf_136.2.2.2.2.2.2.2.2.2.2.2.2.2.2.2
set_option maxRecDepth 100000 in
theorem dg_cX6_shareOf_137 : (decode cX6_shareOf 56 = .ok (.iinc 4 1, 3)) ∧ (decode cX6_shareOf 59 = .ok (.goto (-49), 3)) ∧ (decode cX6_shareOf 62 = .ok (.iload_n 3, 1)) ∧ (decode cX6_shareOf 63 = .ok (.ireturn, 1)) := by decide +kernel
theorem dX6_shareOf_56 : decode cX6_shareOf 56 = .ok (.iinc 4 1, 3) := dg_cX6_shareOf_137.1
theorem dX6_shareOf_59 : decode cX6_shareOf 59 = .ok (.goto (-49), 3) := dg_cX6_shareOf_137.2.1
theorem dX6_shareOf_62 : decode cX6_shareOf 62 = .ok (.iload_n 3, 1) := dg_cX6_shareOf_137.2.2.1
theorem dX6_shareOf_63 : decode cX6_shareOf 63 = .ok (.ireturn, 1) := dg_cX6_shareOf_137.2.2.2
set_option maxRecDepth 100000 in
theorem dg_cX6_wageOf_138 : (decode cX6_wageOf 0 = .ok (.aload_n 0, 1)) ∧ (decode cX6_wageOf 1 = .ok (.invokevirtual 81, 3)) ∧ (decode cX6_wageOf 4 = .ok (.istore_n 2, 1)) ∧ (decode cX6_wageOf 5 = .ok (.iload_n 2, 1)) ∧ (decode cX6_wageOf 6 = .ok (.bipush (-4), 2)) ∧ (decode cX6_wageOf 8 = .ok (.if_icmp .ne 7, 3)) ∧ (decode cX6_wageOf 11 = .ok (.iconst 0, 1)) ∧ (decode cX6_wageOf 12 = .ok (.goto 9, 3)) ∧ (decode cX6_wageOf 15 = .ok (.aload_n 0, 1)) ∧ (decode cX6_wageOf 16 = .ok (.iload_n 1, 1)) ∧ (decode cX6_wageOf 17 = .ok (.iload_n 2, 1)) ∧ (decode cX6_wageOf 18 = .ok (.invokevirtual 85, 3)) ∧ (decode cX6_wageOf 21 = .ok (.ireturn, 1)) := by decide +kernel
theorem dX6_wageOf_0 : decode cX6_wageOf 0 = .ok (.aload_n 0, 1) := dg_cX6_wageOf_138.1
theorem dX6_wageOf_1 : decode cX6_wageOf 1 = .ok (.invokevirtual 81, 3) := dg_cX6_wageOf_138.2.1
theorem dX6_wageOf_4 : decode cX6_wageOf 4 = .ok (.istore_n 2, 1) := dg_cX6_wageOf_138.2.2.1
theorem dX6_wageOf_5 : decode cX6_wageOf 5 = .ok (.iload_n 2, 1) := dg_cX6_wageOf_138.2.2.2.1
theorem dX6_wageOf_6 : decode cX6_wageOf 6 = .ok (.bipush (-4), 2) := dg_cX6_wageOf_138.2.2.2.2.1
theorem dX6_wageOf_8 : decode cX6_wageOf 8 = .ok (.if_icmp .ne 7, 3) := dg_cX6_wageOf_138.2.2.2.2.2.1
theorem dX6_wageOf_11 : decode cX6_wageOf 11 = .ok (.iconst 0, 1) := dg_cX6_wageOf_138.2.2.2.2.2.2.1
theorem dX6_wageOf_12 : decode cX6_wageOf 12 = .ok (.goto 9, 3) := dg_cX6_wageOf_138.2.2.2.2.2.2.2.1
theorem dX6_wageOf_15 : decode cX6_wageOf 15 = .ok (.aload_n 0, 1) := dg_cX6_wageOf_138.2.2.2.2.2.2.2.2.1
theorem dX6_wageOf_16 : decode cX6_wageOf 16 = .ok (.iload_n 1, 1) := dg_cX6_wageOf_138.2.2.2.2.2.2.2.2.2.1
theorem dX6_wageOf_17 : decode cX6_wageOf 17 = .ok (.iload_n 2, 1) := dg_cX6_wageOf_138.2.2.2.2.2.2.2.2.2.2.1
theorem dX6_wageOf_18 : decode cX6_wageOf 18 = .ok (.invokevirtual 85, 3) := dg_cX6_wageOf_138.2.2.2.2.2.2.2.2.2.2.2.1
theorem dX6_wageOf_21 : decode cX6_wageOf 21 = .ok (.ireturn, 1) := dg_cX6_wageOf_138.2.2.2.2.2.2.2.2.2.2.2.2
set_option maxRecDepth 100000 in
theorem dg_cX7_init_139 : (decode cX7_init 0 = .ok (.aload_n 0, 1)) ∧ (decode cX7_init 1 = .ok (.invokespecial 3, 3)) ∧ (decode cX7_init 4 = .ok (.aload_n 0, 1)) ∧ (decode cX7_init 5 = .ok (.iconst (-1), 1)) ∧ (decode cX7_init 6 = .ok (.putfield 11, 3)) ∧ (decode cX7_init 9 = .ok (.aload_n 0, 1)) ∧ (decode cX7_init 10 = .ok (.bipush 40, 2)) ∧ (decode cX7_init 12 = .ok (.newarray .int, 2)) ∧ (decode cX7_init 14 = .ok (.putfield 15, 3)) ∧ (decode cX7_init 17 = .ok (.return_, 1)) := by decide +kernel
theorem dX7_init_0 : decode cX7_init 0 = .ok (.aload_n 0, 1) := dg_cX7_init_139.1
theorem dX7_init_1 : decode cX7_init 1 = .ok (.invokespecial 3, 3) := dg_cX7_init_139.2.1
theorem dX7_init_4 : decode cX7_init 4 = .ok (.aload_n 0, 1) := dg_cX7_init_139.2.2.1
theorem dX7_init_5 : decode cX7_init 5 = .ok (.iconst (-1), 1) := dg_cX7_init_139.2.2.2.1
theorem dX7_init_6 : decode cX7_init 6 = .ok (.putfield 11, 3) := dg_cX7_init_139.2.2.2.2.1
theorem dX7_init_9 : decode cX7_init 9 = .ok (.aload_n 0, 1) := dg_cX7_init_139.2.2.2.2.2.1
theorem dX7_init_10 : decode cX7_init 10 = .ok (.bipush 40, 2) := dg_cX7_init_139.2.2.2.2.2.2.1
theorem dX7_init_12 : decode cX7_init 12 = .ok (.newarray .int, 2) := dg_cX7_init_139.2.2.2.2.2.2.2.1
theorem dX7_init_14 : decode cX7_init 14 = .ok (.putfield 15, 3) := dg_cX7_init_139.2.2.2.2.2.2.2.2.1
theorem dX7_init_17 : decode cX7_init 17 = .ok (.return_, 1) := dg_cX7_init_139.2.2.2.2.2.2.2.2.2
set_option maxRecDepth 100000 in
theorem dg_cX7_isNothing_140 : (decode cX7_isNothing 0 = .ok (.aload_n 0, 1)) ∧ (decode cX7_isNothing 1 = .ok (.getfield 11, 3)) ∧ (decode cX7_isNothing 4 = .ok (.iconst (-1), 1)) ∧ (decode cX7_isNothing 5 = .ok (.if_icmp .ne 7, 3)) ∧ (decode cX7_isNothing 8 = .ok (.iconst 1, 1)) ∧ (decode cX7_isNothing 9 = .ok (.goto 4, 3)) ∧ (decode cX7_isNothing 12 = .ok (.iconst 0, 1)) ∧ (decode cX7_isNothing 13 = .ok (.ireturn, 1)) := by decide +kernel
theorem dX7_isNothing_0 : decode cX7_isNothing 0 = .ok (.aload_n 0, 1) := dg_cX7_isNothing_140.1
theorem dX7_isNothing_1 : decode cX7_isNothing 1 = .ok (.getfield 11, 3) := dg_cX7_isNothing_140.2.1
theorem dX7_isNothing_4 : decode cX7_isNothing 4 = .ok (.iconst (-1), 1) := dg_cX7_isNothing_140.2.2.1
theorem dX7_isNothing_5 : decode cX7_isNothing 5 = .ok (.if_icmp .ne 7, 3) := dg_cX7_isNothing_140.2.2.2.1
theorem dX7_isNothing_8 : decode cX7_isNothing 8 = .ok (.iconst 1, 1) := dg_cX7_isNothing_140.2.2.2.2.1
theorem dX7_isNothing_9 : decode cX7_isNothing 9 = .ok (.goto 4, 3) := dg_cX7_isNothing_140.2.2.2.2.2.1
theorem dX7_isNothing_12 : decode cX7_isNothing 12 = .ok (.iconst 0, 1) := dg_cX7_isNothing_140.2.2.2.2.2.2.1
theorem dX7_isNothing_13 : decode cX7_isNothing 13 = .ok (.ireturn, 1) := dg_cX7_isNothing_140.2.2.2.2.2.2.2
set_option maxRecDepth 100000 in
theorem dg_cX7_renew_141 : (decode cX7_renew 0 = .ok (.aload_n 0, 1)) ∧ (decode cX7_renew 1 = .ok (.iload_n 1, 1)) ∧ (decode cX7_renew 2 = .ok (.putfield 11, 3)) ∧ (decode cX7_renew 5 = .ok (.aload_n 0, 1)) ∧ (decode cX7_renew 6 = .ok (.iload_n 2, 1)) ∧ (decode cX7_renew 7 = .ok (.putfield 19, 3)) ∧ (decode cX7_renew 10 = .ok (.aload_n 0, 1)) ∧ (decode cX7_renew 11 = .ok (.getfield 15, 3)) ∧ (decode cX7_renew 14 = .ok (.iconst 0, 1)) ∧ (decode cX7_renew 15 = .ok (.invokestatic 22, 3)) ∧ (decode cX7_renew 18 = .ok (.return_, 1)) := by decide +kernel
theorem dX7_renew_0 : decode cX7_renew 0 = .ok (.aload_n 0, 1) := dg_cX7_renew_141.1
theorem dX7_renew_1 : decode cX7_renew 1 = .ok (.iload_n 1, 1) := dg_cX7_renew_141.2.1
theorem dX7_renew_2 : decode cX7_renew 2 = .ok (.putfield 11, 3) := dg_cX7_renew_141.2.2.1
theorem dX7_renew_5 : decode cX7_renew 5 = .ok (.aload_n 0, 1) := dg_cX7_renew_141.2.2.2.1
theorem dX7_renew_6 : decode cX7_renew 6 = .ok (.iload_n 2, 1) := dg_cX7_renew_141.2.2.2.2.1
theorem dX7_renew_7 : decode cX7_renew 7 = .ok (.putfield 19, 3) := dg_cX7_renew_141.2.2.2.2.2.1
theorem dX7_renew_10 : decode cX7_renew 10 = .ok (.aload_n 0, 1) := dg_cX7_renew_141.2.2.2.2.2.2.1
theorem dX7_renew_11 : decode cX7_renew 11 = .ok (.getfield 15, 3) := dg_cX7_renew_141.2.2.2.2.2.2.2.1
theorem dX7_renew_14 : decode cX7_renew 14 = .ok (.iconst 0, 1) := dg_cX7_renew_141.2.2.2.2.2.2.2.2.1
theorem dX7_renew_15 : decode cX7_renew 15 = .ok (.invokestatic 22, 3) := dg_cX7_renew_141.2.2.2.2.2.2.2.2.2.1
theorem dX7_renew_18 : decode cX7_renew 18 = .ok (.return_, 1) := dg_cX7_renew_141.2.2.2.2.2.2.2.2.2.2
set_option maxRecDepth 100000 in
theorem dg_cX7_faultAt_142 : (decode cX7_faultAt 0 = .ok (.aload_n 0, 1)) ∧ (decode cX7_faultAt 1 = .ok (.invokevirtual 28, 3)) ∧ (decode cX7_faultAt 4 = .ok (.ifCond .eq 5, 3)) ∧ (decode cX7_faultAt 7 = .ok (.iconst 1, 1)) ∧ (decode cX7_faultAt 8 = .ok (.ireturn, 1)) ∧ (decode cX7_faultAt 9 = .ok (.iload_n 1, 1)) ∧ (decode cX7_faultAt 10 = .ok (.aload_n 0, 1)) ∧ (decode cX7_faultAt 11 = .ok (.getfield 11, 3)) ∧ (decode cX7_faultAt 14 = .ok (.if_icmp .eq 5, 3)) ∧ (decode cX7_faultAt 17 = .ok (.iconst 3, 1)) ∧ (decode cX7_faultAt 18 = .ok (.ireturn, 1)) ∧ (decode cX7_faultAt 19 = .ok (.iload_n 2, 1)) ∧ (decode cX7_faultAt 20 = .ok (.ifCond .lt 11, 3)) ∧ (decode cX7_faultAt 23 = .ok (.iload_n 2, 1)) ∧ (decode cX7_faultAt 24 = .ok (.aload_n 0, 1)) ∧ (decode cX7_faultAt 25 = .ok (.getfield 19, 3)) := by decide +kernel
theorem dX7_faultAt_0 : decode cX7_faultAt 0 = .ok (.aload_n 0, 1) := dg_cX7_faultAt_142.1
theorem dX7_faultAt_1 : decode cX7_faultAt 1 = .ok (.invokevirtual 28, 3) := dg_cX7_faultAt_142.2.1
theorem dX7_faultAt_4 : decode cX7_faultAt 4 = .ok (.ifCond .eq 5, 3) := dg_cX7_faultAt_142.2.2.1
theorem dX7_faultAt_7 : decode cX7_faultAt 7 = .ok (.iconst 1, 1) := dg_cX7_faultAt_142.2.2.2.1
theorem dX7_faultAt_8 : decode cX7_faultAt 8 = .ok (.ireturn, 1) := dg_cX7_faultAt_142.2.2.2.2.1
theorem dX7_faultAt_9 : decode cX7_faultAt 9 = .ok (.iload_n 1, 1) := dg_cX7_faultAt_142.2.2.2.2.2.1
theorem dX7_faultAt_10 : decode cX7_faultAt 10 = .ok (.aload_n 0, 1) := dg_cX7_faultAt_142.2.2.2.2.2.2.1
theorem dX7_faultAt_11 : decode cX7_faultAt 11 = .ok (.getfield 11, 3) := dg_cX7_faultAt_142.2.2.2.2.2.2.2.1
theorem dX7_faultAt_14 : decode cX7_faultAt 14 = .ok (.if_icmp .eq 5, 3) := dg_cX7_faultAt_142.2.2.2.2.2.2.2.2.1
theorem dX7_faultAt_17 : decode cX7_faultAt 17 = .ok (.iconst 3, 1) := dg_cX7_faultAt_142.2.2.2.2.2.2.2.2.2.1
theorem dX7_faultAt_18 : decode cX7_faultAt 18 = .ok (.ireturn, 1) := dg_cX7_faultAt_142.2.2.2.2.2.2.2.2.2.2.1
theorem dX7_faultAt_19 : decode cX7_faultAt 19 = .ok (.iload_n 2, 1) := dg_cX7_faultAt_142.2.2.2.2.2.2.2.2.2.2.2.1
theorem dX7_faultAt_20 : decode cX7_faultAt 20 = .ok (.ifCond .lt 11, 3) := dg_cX7_faultAt_142.2.2.2.2.2.2.2.2.2.2.2.2.1
theorem dX7_faultAt_23 : decode cX7_faultAt 23 = .ok (.iload_n 2, 1) := dg_cX7_faultAt_142.2.2.2.2.2.2.2.2.2.2.2.2.2.1
theorem dX7_faultAt_24 : decode cX7_faultAt 24 = .ok (.aload_n 0, 1) := dg_cX7_faultAt_142.2.2.2.2.2.2.2.2.2.2.2.2.2.2.1
theorem dX7_faultAt_25 : decode cX7_faultAt 25 = .ok (.getfield 19, 3) := dg_cX7_faultAt_142.2.2.2.2.2.2.2.2.2.2.2.2.2.2.2
set_option maxRecDepth 100000 in
theorem dg_cX7_faultAt_143 : (decode cX7_faultAt 28 = .ok (.if_icmp .lt 7, 3)) ∧ (decode cX7_faultAt 31 = .ok (.iconst 2, 1)) ∧ (decode cX7_faultAt 32 = .ok (.goto 4, 3)) ∧ (decode cX7_faultAt 35 = .ok (.iconst 0, 1)) ∧ (decode cX7_faultAt 36 = .ok (.ireturn, 1)) := by decide +kernel
theorem dX7_faultAt_28 : decode cX7_faultAt 28 = .ok (.if_icmp .lt 7, 3) := dg_cX7_faultAt_143.1
theorem dX7_faultAt_31 : decode cX7_faultAt 31 = .ok (.iconst 2, 1) := dg_cX7_faultAt_143.2.1
theorem dX7_faultAt_32 : decode cX7_faultAt 32 = .ok (.goto 4, 3) := dg_cX7_faultAt_143.2.2.1
theorem dX7_faultAt_35 : decode cX7_faultAt 35 = .ok (.iconst 0, 1) := dg_cX7_faultAt_143.2.2.2.1
theorem dX7_faultAt_36 : decode cX7_faultAt 36 = .ok (.ireturn, 1) := dg_cX7_faultAt_143.2.2.2.2
set_option maxRecDepth 100000 in
theorem dg_cX7_put_144 : (decode cX7_put 0 = .ok (.aload_n 0, 1)) ∧ (decode cX7_put 1 = .ok (.getfield 11, 3)) ∧ (decode cX7_put 4 = .ok (.ifCond .ne 14, 3)) ∧ (decode cX7_put 7 = .ok (.aload_n 0, 1)) ∧ (decode cX7_put 8 = .ok (.getfield 15, 3)) ∧ (decode cX7_put 11 = .ok (.iload_n 1, 1)) ∧ (decode cX7_put 12 = .ok (.iload_n 2, 1)) ∧ (decode cX7_put 13 = .ok (.i2b, 1)) ∧ (decode cX7_put 14 = .ok (.iastore, 1)) ∧ (decode cX7_put 15 = .ok (.goto 29, 3)) ∧ (decode cX7_put 18 = .ok (.aload_n 0, 1)) ∧ (decode cX7_put 19 = .ok (.getfield 11, 3)) ∧ (decode cX7_put 22 = .ok (.iconst 1, 1)) ∧ (decode cX7_put 23 = .ok (.if_icmp .ne 14, 3)) ∧ (decode cX7_put 26 = .ok (.aload_n 0, 1)) ∧ (decode cX7_put 27 = .ok (.getfield 15, 3)) := by decide +kernel
theorem dX7_put_0 : decode cX7_put 0 = .ok (.aload_n 0, 1) := dg_cX7_put_144.1
theorem dX7_put_1 : decode cX7_put 1 = .ok (.getfield 11, 3) := dg_cX7_put_144.2.1
theorem dX7_put_4 : decode cX7_put 4 = .ok (.ifCond .ne 14, 3) := dg_cX7_put_144.2.2.1
theorem dX7_put_7 : decode cX7_put 7 = .ok (.aload_n 0, 1) := dg_cX7_put_144.2.2.2.1
theorem dX7_put_8 : decode cX7_put 8 = .ok (.getfield 15, 3) := dg_cX7_put_144.2.2.2.2.1
theorem dX7_put_11 : decode cX7_put 11 = .ok (.iload_n 1, 1) := dg_cX7_put_144.2.2.2.2.2.1
theorem dX7_put_12 : decode cX7_put 12 = .ok (.iload_n 2, 1) := dg_cX7_put_144.2.2.2.2.2.2.1
theorem dX7_put_13 : decode cX7_put 13 = .ok (.i2b, 1) := dg_cX7_put_144.2.2.2.2.2.2.2.1
theorem dX7_put_14 : decode cX7_put 14 = .ok (.iastore, 1) := dg_cX7_put_144.2.2.2.2.2.2.2.2.1
theorem dX7_put_15 : decode cX7_put 15 = .ok (.goto 29, 3) := dg_cX7_put_144.2.2.2.2.2.2.2.2.2.1
theorem dX7_put_18 : decode cX7_put 18 = .ok (.aload_n 0, 1) := dg_cX7_put_144.2.2.2.2.2.2.2.2.2.2.1
theorem dX7_put_19 : decode cX7_put 19 = .ok (.getfield 11, 3) := dg_cX7_put_144.2.2.2.2.2.2.2.2.2.2.2.1
theorem dX7_put_22 : decode cX7_put 22 = .ok (.iconst 1, 1) := dg_cX7_put_144.2.2.2.2.2.2.2.2.2.2.2.2.1
theorem dX7_put_23 : decode cX7_put 23 = .ok (.if_icmp .ne 14, 3) := dg_cX7_put_144.2.2.2.2.2.2.2.2.2.2.2.2.2.1
theorem dX7_put_26 : decode cX7_put 26 = .ok (.aload_n 0, 1) := dg_cX7_put_144.2.2.2.2.2.2.2.2.2.2.2.2.2.2.1
theorem dX7_put_27 : decode cX7_put 27 = .ok (.getfield 15, 3) := dg_cX7_put_144.2.2.2.2.2.2.2.2.2.2.2.2.2.2.2
set_option maxRecDepth 100000 in
theorem dg_cX7_put_145 : (decode cX7_put 30 = .ok (.iload_n 1, 1)) ∧ (decode cX7_put 31 = .ok (.iload_n 2, 1)) ∧ (decode cX7_put 32 = .ok (.i2s, 1)) ∧ (decode cX7_put 33 = .ok (.iastore, 1)) ∧ (decode cX7_put 34 = .ok (.goto 10, 3)) ∧ (decode cX7_put 37 = .ok (.aload_n 0, 1)) ∧ (decode cX7_put 38 = .ok (.getfield 15, 3)) ∧ (decode cX7_put 41 = .ok (.iload_n 1, 1)) ∧ (decode cX7_put 42 = .ok (.iload_n 2, 1)) ∧ (decode cX7_put 43 = .ok (.iastore, 1)) ∧ (decode cX7_put 44 = .ok (.return_, 1)) := by decide +kernel
theorem dX7_put_30 : decode cX7_put 30 = .ok (.iload_n 1, 1) := dg_cX7_put_145.1
theorem dX7_put_31 : decode cX7_put 31 = .ok (.iload_n 2, 1) := dg_cX7_put_145.2.1
theorem dX7_put_32 : decode cX7_put 32 = .ok (.i2s, 1) := dg_cX7_put_145.2.2.1
theorem dX7_put_33 : decode cX7_put 33 = .ok (.iastore, 1) := dg_cX7_put_145.2.2.2.1
theorem dX7_put_34 : decode cX7_put 34 = .ok (.goto 10, 3) := dg_cX7_put_145.2.2.2.2.1
theorem dX7_put_37 : decode cX7_put 37 = .ok (.aload_n 0, 1) := dg_cX7_put_145.2.2.2.2.2.1
theorem dX7_put_38 : decode cX7_put 38 = .ok (.getfield 15, 3) := dg_cX7_put_145.2.2.2.2.2.2.1
theorem dX7_put_41 : decode cX7_put 41 = .ok (.iload_n 1, 1) := dg_cX7_put_145.2.2.2.2.2.2.2.1
theorem dX7_put_42 : decode cX7_put 42 = .ok (.iload_n 2, 1) := dg_cX7_put_145.2.2.2.2.2.2.2.2.1
theorem dX7_put_43 : decode cX7_put 43 = .ok (.iastore, 1) := dg_cX7_put_145.2.2.2.2.2.2.2.2.2.1
theorem dX7_put_44 : decode cX7_put 44 = .ok (.return_, 1) := dg_cX7_put_145.2.2.2.2.2.2.2.2.2.2
set_option maxRecDepth 100000 in
theorem dg_cX8_init_146 : (decode cX8_init 0 = .ok (.aload_n 0, 1)) ∧ (decode cX8_init 1 = .ok (.invokespecial 3, 3)) ∧ (decode cX8_init 4 = .ok (.aload_n 0, 1)) ∧ (decode cX8_init 5 = .ok (.sipush 320, 3)) ∧ (decode cX8_init 8 = .ok (.newarray .byte, 2)) ∧ (decode cX8_init 10 = .ok (.putfield 9, 3)) ∧ (decode cX8_init 13 = .ok (.return_, 1)) := by decide +kernel
theorem dX8_init_0 : decode cX8_init 0 = .ok (.aload_n 0, 1) := dg_cX8_init_146.1
theorem dX8_init_1 : decode cX8_init 1 = .ok (.invokespecial 3, 3) := dg_cX8_init_146.2.1
theorem dX8_init_4 : decode cX8_init 4 = .ok (.aload_n 0, 1) := dg_cX8_init_146.2.2.1
theorem dX8_init_5 : decode cX8_init 5 = .ok (.sipush 320, 3) := dg_cX8_init_146.2.2.2.1
theorem dX8_init_8 : decode cX8_init 8 = .ok (.newarray .byte, 2) := dg_cX8_init_146.2.2.2.2.1
theorem dX8_init_10 : decode cX8_init 10 = .ok (.putfield 9, 3) := dg_cX8_init_146.2.2.2.2.2.1
theorem dX8_init_13 : decode cX8_init 13 = .ok (.return_, 1) := dg_cX8_init_146.2.2.2.2.2.2
set_option maxRecDepth 100000 in
theorem dg_cX8_append_147 : (decode cX8_append 0 = .ok (.bipush 7, 2)) ∧ (decode cX8_append 2 = .ok (.istore_n 3, 1)) ∧ (decode cX8_append 3 = .ok (.iload_n 3, 1)) ∧ (decode cX8_append 4 = .ok (.ifCond .lt 46, 3)) ∧ (decode cX8_append 7 = .ok (.aload_n 0, 1)) ∧ (decode cX8_append 8 = .ok (.getfield 15, 3)) ∧ (decode cX8_append 11 = .ok (.sipush 320, 3)) ∧ (decode cX8_append 14 = .ok (.if_icmp .ge 36, 3)) ∧ (decode cX8_append 17 = .ok (.aload_n 0, 1)) ∧ (decode cX8_append 18 = .ok (.getfield 9, 3)) ∧ (decode cX8_append 21 = .ok (.aload_n 0, 1)) ∧ (decode cX8_append 22 = .ok (.getfield 15, 3)) ∧ (decode cX8_append 25 = .ok (.lload_n 1, 1)) ∧ (decode cX8_append 26 = .ok (.bipush 8, 2)) ∧ (decode cX8_append 28 = .ok (.iload_n 3, 1)) ∧ (decode cX8_append 29 = .ok (.imul, 1)) := by decide +kernel
theorem dX8_append_0 : decode cX8_append 0 = .ok (.bipush 7, 2) := dg_cX8_append_147.1
theorem dX8_append_2 : decode cX8_append 2 = .ok (.istore_n 3, 1) := dg_cX8_append_147.2.1
theorem dX8_append_3 : decode cX8_append 3 = .ok (.iload_n 3, 1) := dg_cX8_append_147.2.2.1
theorem dX8_append_4 : decode cX8_append 4 = .ok (.ifCond .lt 46, 3) := dg_cX8_append_147.2.2.2.1
theorem dX8_append_7 : decode cX8_append 7 = .ok (.aload_n 0, 1) := dg_cX8_append_147.2.2.2.2.1
theorem dX8_append_8 : decode cX8_append 8 = .ok (.getfield 15, 3) := dg_cX8_append_147.2.2.2.2.2.1
theorem dX8_append_11 : decode cX8_append 11 = .ok (.sipush 320, 3) := dg_cX8_append_147.2.2.2.2.2.2.1
theorem dX8_append_14 : decode cX8_append 14 = .ok (.if_icmp .ge 36, 3) := dg_cX8_append_147.2.2.2.2.2.2.2.1
theorem dX8_append_17 : decode cX8_append 17 = .ok (.aload_n 0, 1) := dg_cX8_append_147.2.2.2.2.2.2.2.2.1
theorem dX8_append_18 : decode cX8_append 18 = .ok (.getfield 9, 3) := dg_cX8_append_147.2.2.2.2.2.2.2.2.2.1
theorem dX8_append_21 : decode cX8_append 21 = .ok (.aload_n 0, 1) := dg_cX8_append_147.2.2.2.2.2.2.2.2.2.2.1
theorem dX8_append_22 : decode cX8_append 22 = .ok (.getfield 15, 3) := dg_cX8_append_147.2.2.2.2.2.2.2.2.2.2.2.1
theorem dX8_append_25 : decode cX8_append 25 = .ok (.lload_n 1, 1) := dg_cX8_append_147.2.2.2.2.2.2.2.2.2.2.2.2.1
theorem dX8_append_26 : decode cX8_append 26 = .ok (.bipush 8, 2) := dg_cX8_append_147.2.2.2.2.2.2.2.2.2.2.2.2.2.1
theorem dX8_append_28 : decode cX8_append 28 = .ok (.iload_n 3, 1) := dg_cX8_append_147.2.2.2.2.2.2.2.2.2.2.2.2.2.2.1
theorem dX8_append_29 : decode cX8_append 29 = .ok (.imul, 1) := dg_cX8_append_147.2.2.2.2.2.2.2.2.2.2.2.2.2.2.2
set_option maxRecDepth 100000 in
theorem dg_cX8_append_148 : (decode cX8_append 30 = .ok (.lshr, 1)) ∧ (decode cX8_append 31 = .ok (.l2i, 1)) ∧ (decode cX8_append 32 = .ok (.i2b, 1)) ∧ (decode cX8_append 33 = .ok (.bastore, 1)) ∧ (decode cX8_append 34 = .ok (.aload_n 0, 1)) ∧ (decode cX8_append 35 = .ok (.dup, 1)) ∧ (decode cX8_append 36 = .ok (.getfield 15, 3)) ∧ (decode cX8_append 39 = .ok (.iconst 1, 1)) ∧ (decode cX8_append 40 = .ok (.iadd, 1)) ∧ (decode cX8_append 41 = .ok (.putfield 15, 3)) ∧ (decode cX8_append 44 = .ok (.iinc 3 (-1), 3)) ∧ (decode cX8_append 47 = .ok (.goto (-44), 3)) ∧ (decode cX8_append 50 = .ok (.return_, 1)) := by decide +kernel
theorem dX8_append_30 : decode cX8_append 30 = .ok (.lshr, 1) := dg_cX8_append_148.1
theorem dX8_append_31 : decode cX8_append 31 = .ok (.l2i, 1) := dg_cX8_append_148.2.1
theorem dX8_append_32 : decode cX8_append 32 = .ok (.i2b, 1) := dg_cX8_append_148.2.2.1
theorem dX8_append_33 : decode cX8_append 33 = .ok (.bastore, 1) := dg_cX8_append_148.2.2.2.1
theorem dX8_append_34 : decode cX8_append 34 = .ok (.aload_n 0, 1) := dg_cX8_append_148.2.2.2.2.1
theorem dX8_append_35 : decode cX8_append 35 = .ok (.dup, 1) := dg_cX8_append_148.2.2.2.2.2.1
theorem dX8_append_36 : decode cX8_append 36 = .ok (.getfield 15, 3) := dg_cX8_append_148.2.2.2.2.2.2.1
theorem dX8_append_39 : decode cX8_append 39 = .ok (.iconst 1, 1) := dg_cX8_append_148.2.2.2.2.2.2.2.1
theorem dX8_append_40 : decode cX8_append 40 = .ok (.iadd, 1) := dg_cX8_append_148.2.2.2.2.2.2.2.2.1
theorem dX8_append_41 : decode cX8_append 41 = .ok (.putfield 15, 3) := dg_cX8_append_148.2.2.2.2.2.2.2.2.2.1
theorem dX8_append_44 : decode cX8_append 44 = .ok (.iinc 3 (-1), 3) := dg_cX8_append_148.2.2.2.2.2.2.2.2.2.2.1
theorem dX8_append_47 : decode cX8_append 47 = .ok (.goto (-44), 3) := dg_cX8_append_148.2.2.2.2.2.2.2.2.2.2.2.1
theorem dX8_append_50 : decode cX8_append 50 = .ok (.return_, 1) := dg_cX8_append_148.2.2.2.2.2.2.2.2.2.2.2.2
set_option maxRecDepth 100000 in
theorem dg_cX8_rewind_149 : (decode cX8_rewind 0 = .ok (.aload_n 0, 1)) ∧ (decode cX8_rewind 1 = .ok (.iconst 0, 1)) ∧ (decode cX8_rewind 2 = .ok (.putfield 19, 3)) ∧ (decode cX8_rewind 5 = .ok (.return_, 1)) := by decide +kernel
theorem dX8_rewind_0 : decode cX8_rewind 0 = .ok (.aload_n 0, 1) := dg_cX8_rewind_149.1
theorem dX8_rewind_1 : decode cX8_rewind 1 = .ok (.iconst 0, 1) := dg_cX8_rewind_149.2.1
theorem dX8_rewind_2 : decode cX8_rewind 2 = .ok (.putfield 19, 3) := dg_cX8_rewind_149.2.2.1
theorem dX8_rewind_5 : decode cX8_rewind 5 = .ok (.return_, 1) := dg_cX8_rewind_149.2.2.2
set_option maxRecDepth 100000 in
theorem dg_cX8_readToken_150 : (decode cX8_readToken 0 = .ok (.aload_n 0, 1)) ∧ (decode cX8_readToken 1 = .ok (.getfield 19, 3)) ∧ (decode cX8_readToken 4 = .ok (.aload_n 0, 1)) ∧ (decode cX8_readToken 5 = .ok (.getfield 15, 3)) ∧ (decode cX8_readToken 8 = .ok (.if_icmp .ge 30, 3)) ∧ (decode cX8_readToken 11 = .ok (.aload_n 0, 1)) ∧ (decode cX8_readToken 12 = .ok (.getfield 9, 3)) ∧ (decode cX8_readToken 15 = .ok (.aload_n 0, 1)) ∧ (decode cX8_readToken 16 = .ok (.getfield 19, 3)) ∧ (decode cX8_readToken 19 = .ok (.baload, 1)) ∧ (decode cX8_readToken 20 = .ok (.bipush 32, 2)) ∧ (decode cX8_readToken 22 = .ok (.if_icmp .ne 16, 3)) ∧ (decode cX8_readToken 25 = .ok (.aload_n 0, 1)) ∧ (decode cX8_readToken 26 = .ok (.dup, 1)) ∧ (decode cX8_readToken 27 = .ok (.getfield 19, 3)) ∧ (decode cX8_readToken 30 = .ok (.iconst 1, 1)) := by decide +kernel
theorem dX8_readToken_0 : decode cX8_readToken 0 = .ok (.aload_n 0, 1) := dg_cX8_readToken_150.1
theorem dX8_readToken_1 : decode cX8_readToken 1 = .ok (.getfield 19, 3) := dg_cX8_readToken_150.2.1
theorem dX8_readToken_4 : decode cX8_readToken 4 = .ok (.aload_n 0, 1) := dg_cX8_readToken_150.2.2.1
theorem dX8_readToken_5 : decode cX8_readToken 5 = .ok (.getfield 15, 3) := dg_cX8_readToken_150.2.2.2.1
theorem dX8_readToken_8 : decode cX8_readToken 8 = .ok (.if_icmp .ge 30, 3) := dg_cX8_readToken_150.2.2.2.2.1
theorem dX8_readToken_11 : decode cX8_readToken 11 = .ok (.aload_n 0, 1) := dg_cX8_readToken_150.2.2.2.2.2.1
theorem dX8_readToken_12 : decode cX8_readToken 12 = .ok (.getfield 9, 3) := dg_cX8_readToken_150.2.2.2.2.2.2.1
theorem dX8_readToken_15 : decode cX8_readToken 15 = .ok (.aload_n 0, 1) := dg_cX8_readToken_150.2.2.2.2.2.2.2.1
theorem dX8_readToken_16 : decode cX8_readToken 16 = .ok (.getfield 19, 3) := dg_cX8_readToken_150.2.2.2.2.2.2.2.2.1
theorem dX8_readToken_19 : decode cX8_readToken 19 = .ok (.baload, 1) := dg_cX8_readToken_150.2.2.2.2.2.2.2.2.2.1
theorem dX8_readToken_20 : decode cX8_readToken 20 = .ok (.bipush 32, 2) := dg_cX8_readToken_150.2.2.2.2.2.2.2.2.2.2.1
theorem dX8_readToken_22 : decode cX8_readToken 22 = .ok (.if_icmp .ne 16, 3) := dg_cX8_readToken_150.2.2.2.2.2.2.2.2.2.2.2.1
theorem dX8_readToken_25 : decode cX8_readToken 25 = .ok (.aload_n 0, 1) := dg_cX8_readToken_150.2.2.2.2.2.2.2.2.2.2.2.2.1
theorem dX8_readToken_26 : decode cX8_readToken 26 = .ok (.dup, 1) := dg_cX8_readToken_150.2.2.2.2.2.2.2.2.2.2.2.2.2.1
theorem dX8_readToken_27 : decode cX8_readToken 27 = .ok (.getfield 19, 3) := dg_cX8_readToken_150.2.2.2.2.2.2.2.2.2.2.2.2.2.2.1
theorem dX8_readToken_30 : decode cX8_readToken 30 = .ok (.iconst 1, 1) := dg_cX8_readToken_150.2.2.2.2.2.2.2.2.2.2.2.2.2.2.2
set_option maxRecDepth 100000 in
theorem dg_cX8_readToken_151 : (decode cX8_readToken 31 = .ok (.iadd, 1)) ∧ (decode cX8_readToken 32 = .ok (.putfield 19, 3)) ∧ (decode cX8_readToken 35 = .ok (.goto (-35), 3)) ∧ (decode cX8_readToken 38 = .ok (.aload_n 0, 1)) ∧ (decode cX8_readToken 39 = .ok (.aload_n 0, 1)) ∧ (decode cX8_readToken 40 = .ok (.getfield 19, 3)) ∧ (decode cX8_readToken 43 = .ok (.putfield 22, 3)) ∧ (decode cX8_readToken 46 = .ok (.aload_n 0, 1)) ∧ (decode cX8_readToken 47 = .ok (.iconst 0, 1)) ∧ (decode cX8_readToken 48 = .ok (.putfield 25, 3)) ∧ (decode cX8_readToken 51 = .ok (.aload_n 0, 1)) ∧ (decode cX8_readToken 52 = .ok (.getfield 19, 3)) ∧ (decode cX8_readToken 55 = .ok (.aload_n 0, 1)) ∧ (decode cX8_readToken 56 = .ok (.getfield 15, 3)) ∧ (decode cX8_readToken 59 = .ok (.if_icmp .ge 44, 3)) ∧ (decode cX8_readToken 62 = .ok (.aload_n 0, 1)) := by decide +kernel
theorem dX8_readToken_31 : decode cX8_readToken 31 = .ok (.iadd, 1) := dg_cX8_readToken_151.1
theorem dX8_readToken_32 : decode cX8_readToken 32 = .ok (.putfield 19, 3) := dg_cX8_readToken_151.2.1
theorem dX8_readToken_35 : decode cX8_readToken 35 = .ok (.goto (-35), 3) := dg_cX8_readToken_151.2.2.1
theorem dX8_readToken_38 : decode cX8_readToken 38 = .ok (.aload_n 0, 1) := dg_cX8_readToken_151.2.2.2.1
theorem dX8_readToken_39 : decode cX8_readToken 39 = .ok (.aload_n 0, 1) := dg_cX8_readToken_151.2.2.2.2.1
theorem dX8_readToken_40 : decode cX8_readToken 40 = .ok (.getfield 19, 3) := dg_cX8_readToken_151.2.2.2.2.2.1
theorem dX8_readToken_43 : decode cX8_readToken 43 = .ok (.putfield 22, 3) := dg_cX8_readToken_151.2.2.2.2.2.2.1
theorem dX8_readToken_46 : decode cX8_readToken 46 = .ok (.aload_n 0, 1) := dg_cX8_readToken_151.2.2.2.2.2.2.2.1
theorem dX8_readToken_47 : decode cX8_readToken 47 = .ok (.iconst 0, 1) := dg_cX8_readToken_151.2.2.2.2.2.2.2.2.1
theorem dX8_readToken_48 : decode cX8_readToken 48 = .ok (.putfield 25, 3) := dg_cX8_readToken_151.2.2.2.2.2.2.2.2.2.1
theorem dX8_readToken_51 : decode cX8_readToken 51 = .ok (.aload_n 0, 1) := dg_cX8_readToken_151.2.2.2.2.2.2.2.2.2.2.1
theorem dX8_readToken_52 : decode cX8_readToken 52 = .ok (.getfield 19, 3) := dg_cX8_readToken_151.2.2.2.2.2.2.2.2.2.2.2.1
theorem dX8_readToken_55 : decode cX8_readToken 55 = .ok (.aload_n 0, 1) := dg_cX8_readToken_151.2.2.2.2.2.2.2.2.2.2.2.2.1
theorem dX8_readToken_56 : decode cX8_readToken 56 = .ok (.getfield 15, 3) := dg_cX8_readToken_151.2.2.2.2.2.2.2.2.2.2.2.2.2.1
theorem dX8_readToken_59 : decode cX8_readToken 59 = .ok (.if_icmp .ge 44, 3) := dg_cX8_readToken_151.2.2.2.2.2.2.2.2.2.2.2.2.2.2.1
theorem dX8_readToken_62 : decode cX8_readToken 62 = .ok (.aload_n 0, 1) := dg_cX8_readToken_151.2.2.2.2.2.2.2.2.2.2.2.2.2.2.2
set_option maxRecDepth 100000 in
theorem dg_cX8_readToken_152 : (decode cX8_readToken 63 = .ok (.getfield 9, 3)) ∧ (decode cX8_readToken 66 = .ok (.aload_n 0, 1)) ∧ (decode cX8_readToken 67 = .ok (.getfield 19, 3)) ∧ (decode cX8_readToken 70 = .ok (.baload, 1)) ∧ (decode cX8_readToken 71 = .ok (.bipush 97, 2)) ∧ (decode cX8_readToken 73 = .ok (.if_icmp .lt 30, 3)) ∧ (decode cX8_readToken 76 = .ok (.aload_n 0, 1)) ∧ (decode cX8_readToken 77 = .ok (.getfield 9, 3)) ∧ (decode cX8_readToken 80 = .ok (.aload_n 0, 1)) ∧ (decode cX8_readToken 81 = .ok (.getfield 19, 3)) ∧ (decode cX8_readToken 84 = .ok (.baload, 1)) ∧ (decode cX8_readToken 85 = .ok (.bipush 122, 2)) ∧ (decode cX8_readToken 87 = .ok (.if_icmp .gt 16, 3)) ∧ (decode cX8_readToken 90 = .ok (.aload_n 0, 1)) ∧ (decode cX8_readToken 91 = .ok (.dup, 1)) ∧ (decode cX8_readToken 92 = .ok (.getfield 19, 3)) := by decide +kernel
theorem dX8_readToken_63 : decode cX8_readToken 63 = .ok (.getfield 9, 3) := dg_cX8_readToken_152.1
theorem dX8_readToken_66 : decode cX8_readToken 66 = .ok (.aload_n 0, 1) := dg_cX8_readToken_152.2.1
theorem dX8_readToken_67 : decode cX8_readToken 67 = .ok (.getfield 19, 3) := dg_cX8_readToken_152.2.2.1
theorem dX8_readToken_70 : decode cX8_readToken 70 = .ok (.baload, 1) := dg_cX8_readToken_152.2.2.2.1
theorem dX8_readToken_71 : decode cX8_readToken 71 = .ok (.bipush 97, 2) := dg_cX8_readToken_152.2.2.2.2.1
theorem dX8_readToken_73 : decode cX8_readToken 73 = .ok (.if_icmp .lt 30, 3) := dg_cX8_readToken_152.2.2.2.2.2.1
theorem dX8_readToken_76 : decode cX8_readToken 76 = .ok (.aload_n 0, 1) := dg_cX8_readToken_152.2.2.2.2.2.2.1
theorem dX8_readToken_77 : decode cX8_readToken 77 = .ok (.getfield 9, 3) := dg_cX8_readToken_152.2.2.2.2.2.2.2.1
theorem dX8_readToken_80 : decode cX8_readToken 80 = .ok (.aload_n 0, 1) := dg_cX8_readToken_152.2.2.2.2.2.2.2.2.1
theorem dX8_readToken_81 : decode cX8_readToken 81 = .ok (.getfield 19, 3) := dg_cX8_readToken_152.2.2.2.2.2.2.2.2.2.1
theorem dX8_readToken_84 : decode cX8_readToken 84 = .ok (.baload, 1) := dg_cX8_readToken_152.2.2.2.2.2.2.2.2.2.2.1
theorem dX8_readToken_85 : decode cX8_readToken 85 = .ok (.bipush 122, 2) := dg_cX8_readToken_152.2.2.2.2.2.2.2.2.2.2.2.1
theorem dX8_readToken_87 : decode cX8_readToken 87 = .ok (.if_icmp .gt 16, 3) := dg_cX8_readToken_152.2.2.2.2.2.2.2.2.2.2.2.2.1
theorem dX8_readToken_90 : decode cX8_readToken 90 = .ok (.aload_n 0, 1) := dg_cX8_readToken_152.2.2.2.2.2.2.2.2.2.2.2.2.2.1
theorem dX8_readToken_91 : decode cX8_readToken 91 = .ok (.dup, 1) := dg_cX8_readToken_152.2.2.2.2.2.2.2.2.2.2.2.2.2.2.1
theorem dX8_readToken_92 : decode cX8_readToken 92 = .ok (.getfield 19, 3) := dg_cX8_readToken_152.2.2.2.2.2.2.2.2.2.2.2.2.2.2.2
set_option maxRecDepth 100000 in
theorem dg_cX8_readToken_153 : (decode cX8_readToken 95 = .ok (.iconst 1, 1)) ∧ (decode cX8_readToken 96 = .ok (.iadd, 1)) ∧ (decode cX8_readToken 97 = .ok (.putfield 19, 3)) ∧ (decode cX8_readToken 100 = .ok (.goto (-49), 3)) ∧ (decode cX8_readToken 103 = .ok (.aload_n 0, 1)) ∧ (decode cX8_readToken 104 = .ok (.getfield 19, 3)) ∧ (decode cX8_readToken 107 = .ok (.aload_n 0, 1)) ∧ (decode cX8_readToken 108 = .ok (.getfield 22, 3)) ∧ (decode cX8_readToken 111 = .ok (.if_icmp .le 9, 3)) ∧ (decode cX8_readToken 114 = .ok (.aload_n 0, 1)) ∧ (decode cX8_readToken 115 = .ok (.iconst 1, 1)) ∧ (decode cX8_readToken 116 = .ok (.putfield 28, 3)) ∧ (decode cX8_readToken 119 = .ok (.return_, 1)) ∧ (decode cX8_readToken 120 = .ok (.aload_n 0, 1)) ∧ (decode cX8_readToken 121 = .ok (.getfield 19, 3)) ∧ (decode cX8_readToken 124 = .ok (.aload_n 0, 1)) := by decide +kernel
theorem dX8_readToken_95 : decode cX8_readToken 95 = .ok (.iconst 1, 1) := dg_cX8_readToken_153.1
theorem dX8_readToken_96 : decode cX8_readToken 96 = .ok (.iadd, 1) := dg_cX8_readToken_153.2.1
theorem dX8_readToken_97 : decode cX8_readToken 97 = .ok (.putfield 19, 3) := dg_cX8_readToken_153.2.2.1
theorem dX8_readToken_100 : decode cX8_readToken 100 = .ok (.goto (-49), 3) := dg_cX8_readToken_153.2.2.2.1
theorem dX8_readToken_103 : decode cX8_readToken 103 = .ok (.aload_n 0, 1) := dg_cX8_readToken_153.2.2.2.2.1
theorem dX8_readToken_104 : decode cX8_readToken 104 = .ok (.getfield 19, 3) := dg_cX8_readToken_153.2.2.2.2.2.1
theorem dX8_readToken_107 : decode cX8_readToken 107 = .ok (.aload_n 0, 1) := dg_cX8_readToken_153.2.2.2.2.2.2.1
theorem dX8_readToken_108 : decode cX8_readToken 108 = .ok (.getfield 22, 3) := dg_cX8_readToken_153.2.2.2.2.2.2.2.1
theorem dX8_readToken_111 : decode cX8_readToken 111 = .ok (.if_icmp .le 9, 3) := dg_cX8_readToken_153.2.2.2.2.2.2.2.2.1
theorem dX8_readToken_114 : decode cX8_readToken 114 = .ok (.aload_n 0, 1) := dg_cX8_readToken_153.2.2.2.2.2.2.2.2.2.1
theorem dX8_readToken_115 : decode cX8_readToken 115 = .ok (.iconst 1, 1) := dg_cX8_readToken_153.2.2.2.2.2.2.2.2.2.2.1
theorem dX8_readToken_116 : decode cX8_readToken 116 = .ok (.putfield 28, 3) := dg_cX8_readToken_153.2.2.2.2.2.2.2.2.2.2.2.1
theorem dX8_readToken_119 : decode cX8_readToken 119 = .ok (.return_, 1) := dg_cX8_readToken_153.2.2.2.2.2.2.2.2.2.2.2.2.1
theorem dX8_readToken_120 : decode cX8_readToken 120 = .ok (.aload_n 0, 1) := dg_cX8_readToken_153.2.2.2.2.2.2.2.2.2.2.2.2.2.1
theorem dX8_readToken_121 : decode cX8_readToken 121 = .ok (.getfield 19, 3) := dg_cX8_readToken_153.2.2.2.2.2.2.2.2.2.2.2.2.2.2.1
theorem dX8_readToken_124 : decode cX8_readToken 124 = .ok (.aload_n 0, 1) := dg_cX8_readToken_153.2.2.2.2.2.2.2.2.2.2.2.2.2.2.2
set_option maxRecDepth 100000 in
theorem dg_cX8_readToken_154 : (decode cX8_readToken 125 = .ok (.getfield 15, 3)) ∧ (decode cX8_readToken 128 = .ok (.if_icmp .ge 68, 3)) ∧ (decode cX8_readToken 131 = .ok (.aload_n 0, 1)) ∧ (decode cX8_readToken 132 = .ok (.getfield 9, 3)) ∧ (decode cX8_readToken 135 = .ok (.aload_n 0, 1)) ∧ (decode cX8_readToken 136 = .ok (.getfield 19, 3)) ∧ (decode cX8_readToken 139 = .ok (.baload, 1)) ∧ (decode cX8_readToken 140 = .ok (.bipush 48, 2)) ∧ (decode cX8_readToken 142 = .ok (.if_icmp .lt 54, 3)) ∧ (decode cX8_readToken 145 = .ok (.aload_n 0, 1)) ∧ (decode cX8_readToken 146 = .ok (.getfield 9, 3)) ∧ (decode cX8_readToken 149 = .ok (.aload_n 0, 1)) ∧ (decode cX8_readToken 150 = .ok (.getfield 19, 3)) ∧ (decode cX8_readToken 153 = .ok (.baload, 1)) ∧ (decode cX8_readToken 154 = .ok (.bipush 57, 2)) ∧ (decode cX8_readToken 156 = .ok (.if_icmp .gt 40, 3)) := by decide +kernel
theorem dX8_readToken_125 : decode cX8_readToken 125 = .ok (.getfield 15, 3) := dg_cX8_readToken_154.1
theorem dX8_readToken_128 : decode cX8_readToken 128 = .ok (.if_icmp .ge 68, 3) := dg_cX8_readToken_154.2.1
theorem dX8_readToken_131 : decode cX8_readToken 131 = .ok (.aload_n 0, 1) := dg_cX8_readToken_154.2.2.1
theorem dX8_readToken_132 : decode cX8_readToken 132 = .ok (.getfield 9, 3) := dg_cX8_readToken_154.2.2.2.1
theorem dX8_readToken_135 : decode cX8_readToken 135 = .ok (.aload_n 0, 1) := dg_cX8_readToken_154.2.2.2.2.1
theorem dX8_readToken_136 : decode cX8_readToken 136 = .ok (.getfield 19, 3) := dg_cX8_readToken_154.2.2.2.2.2.1
theorem dX8_readToken_139 : decode cX8_readToken 139 = .ok (.baload, 1) := dg_cX8_readToken_154.2.2.2.2.2.2.1
theorem dX8_readToken_140 : decode cX8_readToken 140 = .ok (.bipush 48, 2) := dg_cX8_readToken_154.2.2.2.2.2.2.2.1
theorem dX8_readToken_142 : decode cX8_readToken 142 = .ok (.if_icmp .lt 54, 3) := dg_cX8_readToken_154.2.2.2.2.2.2.2.2.1
theorem dX8_readToken_145 : decode cX8_readToken 145 = .ok (.aload_n 0, 1) := dg_cX8_readToken_154.2.2.2.2.2.2.2.2.2.1
theorem dX8_readToken_146 : decode cX8_readToken 146 = .ok (.getfield 9, 3) := dg_cX8_readToken_154.2.2.2.2.2.2.2.2.2.2.1
theorem dX8_readToken_149 : decode cX8_readToken 149 = .ok (.aload_n 0, 1) := dg_cX8_readToken_154.2.2.2.2.2.2.2.2.2.2.2.1
theorem dX8_readToken_150 : decode cX8_readToken 150 = .ok (.getfield 19, 3) := dg_cX8_readToken_154.2.2.2.2.2.2.2.2.2.2.2.2.1
theorem dX8_readToken_153 : decode cX8_readToken 153 = .ok (.baload, 1) := dg_cX8_readToken_154.2.2.2.2.2.2.2.2.2.2.2.2.2.1
theorem dX8_readToken_154 : decode cX8_readToken 154 = .ok (.bipush 57, 2) := dg_cX8_readToken_154.2.2.2.2.2.2.2.2.2.2.2.2.2.2.1
theorem dX8_readToken_156 : decode cX8_readToken 156 = .ok (.if_icmp .gt 40, 3) := dg_cX8_readToken_154.2.2.2.2.2.2.2.2.2.2.2.2.2.2.2
set_option maxRecDepth 100000 in
theorem dg_cX8_readToken_155 : (decode cX8_readToken 159 = .ok (.aload_n 0, 1)) ∧ (decode cX8_readToken 160 = .ok (.aload_n 0, 1)) ∧ (decode cX8_readToken 161 = .ok (.getfield 25, 3)) ∧ (decode cX8_readToken 164 = .ok (.bipush 10, 2)) ∧ (decode cX8_readToken 166 = .ok (.imul, 1)) ∧ (decode cX8_readToken 167 = .ok (.aload_n 0, 1)) ∧ (decode cX8_readToken 168 = .ok (.getfield 9, 3)) ∧ (decode cX8_readToken 171 = .ok (.aload_n 0, 1)) ∧ (decode cX8_readToken 172 = .ok (.getfield 19, 3)) ∧ (decode cX8_readToken 175 = .ok (.baload, 1)) ∧ (decode cX8_readToken 176 = .ok (.iadd, 1)) ∧ (decode cX8_readToken 177 = .ok (.bipush 48, 2)) ∧ (decode cX8_readToken 179 = .ok (.isub, 1)) ∧ (decode cX8_readToken 180 = .ok (.putfield 25, 3)) ∧ (decode cX8_readToken 183 = .ok (.aload_n 0, 1)) ∧ (decode cX8_readToken 184 = .ok (.dup, 1)) := by decide +kernel
theorem dX8_readToken_159 : decode cX8_readToken 159 = .ok (.aload_n 0, 1) := dg_cX8_readToken_155.1
theorem dX8_readToken_160 : decode cX8_readToken 160 = .ok (.aload_n 0, 1) := dg_cX8_readToken_155.2.1
theorem dX8_readToken_161 : decode cX8_readToken 161 = .ok (.getfield 25, 3) := dg_cX8_readToken_155.2.2.1
theorem dX8_readToken_164 : decode cX8_readToken 164 = .ok (.bipush 10, 2) := dg_cX8_readToken_155.2.2.2.1
theorem dX8_readToken_166 : decode cX8_readToken 166 = .ok (.imul, 1) := dg_cX8_readToken_155.2.2.2.2.1
theorem dX8_readToken_167 : decode cX8_readToken 167 = .ok (.aload_n 0, 1) := dg_cX8_readToken_155.2.2.2.2.2.1
theorem dX8_readToken_168 : decode cX8_readToken 168 = .ok (.getfield 9, 3) := dg_cX8_readToken_155.2.2.2.2.2.2.1
theorem dX8_readToken_171 : decode cX8_readToken 171 = .ok (.aload_n 0, 1) := dg_cX8_readToken_155.2.2.2.2.2.2.2.1
theorem dX8_readToken_172 : decode cX8_readToken 172 = .ok (.getfield 19, 3) := dg_cX8_readToken_155.2.2.2.2.2.2.2.2.1
theorem dX8_readToken_175 : decode cX8_readToken 175 = .ok (.baload, 1) := dg_cX8_readToken_155.2.2.2.2.2.2.2.2.2.1
theorem dX8_readToken_176 : decode cX8_readToken 176 = .ok (.iadd, 1) := dg_cX8_readToken_155.2.2.2.2.2.2.2.2.2.2.1
theorem dX8_readToken_177 : decode cX8_readToken 177 = .ok (.bipush 48, 2) := dg_cX8_readToken_155.2.2.2.2.2.2.2.2.2.2.2.1
theorem dX8_readToken_179 : decode cX8_readToken 179 = .ok (.isub, 1) := dg_cX8_readToken_155.2.2.2.2.2.2.2.2.2.2.2.2.1
theorem dX8_readToken_180 : decode cX8_readToken 180 = .ok (.putfield 25, 3) := dg_cX8_readToken_155.2.2.2.2.2.2.2.2.2.2.2.2.2.1
theorem dX8_readToken_183 : decode cX8_readToken 183 = .ok (.aload_n 0, 1) := dg_cX8_readToken_155.2.2.2.2.2.2.2.2.2.2.2.2.2.2.1
theorem dX8_readToken_184 : decode cX8_readToken 184 = .ok (.dup, 1) := dg_cX8_readToken_155.2.2.2.2.2.2.2.2.2.2.2.2.2.2.2
set_option maxRecDepth 100000 in
theorem dg_cX8_readToken_156 : (decode cX8_readToken 185 = .ok (.getfield 19, 3)) ∧ (decode cX8_readToken 188 = .ok (.iconst 1, 1)) ∧ (decode cX8_readToken 189 = .ok (.iadd, 1)) ∧ (decode cX8_readToken 190 = .ok (.putfield 19, 3)) ∧ (decode cX8_readToken 193 = .ok (.goto (-73), 3)) ∧ (decode cX8_readToken 196 = .ok (.aload_n 0, 1)) ∧ (decode cX8_readToken 197 = .ok (.getfield 19, 3)) ∧ (decode cX8_readToken 200 = .ok (.aload_n 0, 1)) ∧ (decode cX8_readToken 201 = .ok (.getfield 22, 3)) ∧ (decode cX8_readToken 204 = .ok (.if_icmp .le 26, 3)) ∧ (decode cX8_readToken 207 = .ok (.aload_n 0, 1)) ∧ (decode cX8_readToken 208 = .ok (.aload_n 0, 1)) ∧ (decode cX8_readToken 209 = .ok (.getfield 19, 3)) ∧ (decode cX8_readToken 212 = .ok (.aload_n 0, 1)) ∧ (decode cX8_readToken 213 = .ok (.getfield 22, 3)) ∧ (decode cX8_readToken 216 = .ok (.isub, 1)) := by decide +kernel
theorem dX8_readToken_185 : decode cX8_readToken 185 = .ok (.getfield 19, 3) := dg_cX8_readToken_156.1
theorem dX8_readToken_188 : decode cX8_readToken 188 = .ok (.iconst 1, 1) := dg_cX8_readToken_156.2.1
theorem dX8_readToken_189 : decode cX8_readToken 189 = .ok (.iadd, 1) := dg_cX8_readToken_156.2.2.1
theorem dX8_readToken_190 : decode cX8_readToken 190 = .ok (.putfield 19, 3) := dg_cX8_readToken_156.2.2.2.1
theorem dX8_readToken_193 : decode cX8_readToken 193 = .ok (.goto (-73), 3) := dg_cX8_readToken_156.2.2.2.2.1
theorem dX8_readToken_196 : decode cX8_readToken 196 = .ok (.aload_n 0, 1) := dg_cX8_readToken_156.2.2.2.2.2.1
theorem dX8_readToken_197 : decode cX8_readToken 197 = .ok (.getfield 19, 3) := dg_cX8_readToken_156.2.2.2.2.2.2.1
theorem dX8_readToken_200 : decode cX8_readToken 200 = .ok (.aload_n 0, 1) := dg_cX8_readToken_156.2.2.2.2.2.2.2.1
theorem dX8_readToken_201 : decode cX8_readToken 201 = .ok (.getfield 22, 3) := dg_cX8_readToken_156.2.2.2.2.2.2.2.2.1
theorem dX8_readToken_204 : decode cX8_readToken 204 = .ok (.if_icmp .le 26, 3) := dg_cX8_readToken_156.2.2.2.2.2.2.2.2.2.1
theorem dX8_readToken_207 : decode cX8_readToken 207 = .ok (.aload_n 0, 1) := dg_cX8_readToken_156.2.2.2.2.2.2.2.2.2.2.1
theorem dX8_readToken_208 : decode cX8_readToken 208 = .ok (.aload_n 0, 1) := dg_cX8_readToken_156.2.2.2.2.2.2.2.2.2.2.2.1
theorem dX8_readToken_209 : decode cX8_readToken 209 = .ok (.getfield 19, 3) := dg_cX8_readToken_156.2.2.2.2.2.2.2.2.2.2.2.2.1
theorem dX8_readToken_212 : decode cX8_readToken 212 = .ok (.aload_n 0, 1) := dg_cX8_readToken_156.2.2.2.2.2.2.2.2.2.2.2.2.2.1
theorem dX8_readToken_213 : decode cX8_readToken 213 = .ok (.getfield 22, 3) := dg_cX8_readToken_156.2.2.2.2.2.2.2.2.2.2.2.2.2.2.1
theorem dX8_readToken_216 : decode cX8_readToken 216 = .ok (.isub, 1) := dg_cX8_readToken_156.2.2.2.2.2.2.2.2.2.2.2.2.2.2.2
set_option maxRecDepth 100000 in
theorem dg_cX8_readToken_157 : (decode cX8_readToken 217 = .ok (.iconst 2, 1)) ∧ (decode cX8_readToken 218 = .ok (.if_icmp .le 7, 3)) ∧ (decode cX8_readToken 221 = .ok (.iconst 4, 1)) ∧ (decode cX8_readToken 222 = .ok (.goto 4, 3)) ∧ (decode cX8_readToken 225 = .ok (.iconst 2, 1)) ∧ (decode cX8_readToken 226 = .ok (.putfield 28, 3)) ∧ (decode cX8_readToken 229 = .ok (.return_, 1)) ∧ (decode cX8_readToken 230 = .ok (.aload_n 0, 1)) ∧ (decode cX8_readToken 231 = .ok (.getfield 19, 3)) ∧ (decode cX8_readToken 234 = .ok (.aload_n 0, 1)) ∧ (decode cX8_readToken 235 = .ok (.getfield 15, 3)) ∧ (decode cX8_readToken 238 = .ok (.if_icmp .lt 9, 3)) ∧ (decode cX8_readToken 241 = .ok (.aload_n 0, 1)) ∧ (decode cX8_readToken 242 = .ok (.iconst 0, 1)) ∧ (decode cX8_readToken 243 = .ok (.putfield 28, 3)) ∧ (decode cX8_readToken 246 = .ok (.return_, 1)) := by decide +kernel
theorem dX8_readToken_217 : decode cX8_readToken 217 = .ok (.iconst 2, 1) := dg_cX8_readToken_157.1
theorem dX8_readToken_218 : decode cX8_readToken 218 = .ok (.if_icmp .le 7, 3) := dg_cX8_readToken_157.2.1
theorem dX8_readToken_221 : decode cX8_readToken 221 = .ok (.iconst 4, 1) := dg_cX8_readToken_157.2.2.1
theorem dX8_readToken_222 : decode cX8_readToken 222 = .ok (.goto 4, 3) := dg_cX8_readToken_157.2.2.2.1
theorem dX8_readToken_225 : decode cX8_readToken 225 = .ok (.iconst 2, 1) := dg_cX8_readToken_157.2.2.2.2.1
theorem dX8_readToken_226 : decode cX8_readToken 226 = .ok (.putfield 28, 3) := dg_cX8_readToken_157.2.2.2.2.2.1
theorem dX8_readToken_229 : decode cX8_readToken 229 = .ok (.return_, 1) := dg_cX8_readToken_157.2.2.2.2.2.2.1
theorem dX8_readToken_230 : decode cX8_readToken 230 = .ok (.aload_n 0, 1) := dg_cX8_readToken_157.2.2.2.2.2.2.2.1
theorem dX8_readToken_231 : decode cX8_readToken 231 = .ok (.getfield 19, 3) := dg_cX8_readToken_157.2.2.2.2.2.2.2.2.1
theorem dX8_readToken_234 : decode cX8_readToken 234 = .ok (.aload_n 0, 1) := dg_cX8_readToken_157.2.2.2.2.2.2.2.2.2.1
theorem dX8_readToken_235 : decode cX8_readToken 235 = .ok (.getfield 15, 3) := dg_cX8_readToken_157.2.2.2.2.2.2.2.2.2.2.1
theorem dX8_readToken_238 : decode cX8_readToken 238 = .ok (.if_icmp .lt 9, 3) := dg_cX8_readToken_157.2.2.2.2.2.2.2.2.2.2.2.1
theorem dX8_readToken_241 : decode cX8_readToken 241 = .ok (.aload_n 0, 1) := dg_cX8_readToken_157.2.2.2.2.2.2.2.2.2.2.2.2.1
theorem dX8_readToken_242 : decode cX8_readToken 242 = .ok (.iconst 0, 1) := dg_cX8_readToken_157.2.2.2.2.2.2.2.2.2.2.2.2.2.1
theorem dX8_readToken_243 : decode cX8_readToken 243 = .ok (.putfield 28, 3) := dg_cX8_readToken_157.2.2.2.2.2.2.2.2.2.2.2.2.2.2.1
theorem dX8_readToken_246 : decode cX8_readToken 246 = .ok (.return_, 1) := dg_cX8_readToken_157.2.2.2.2.2.2.2.2.2.2.2.2.2.2.2
set_option maxRecDepth 100000 in
theorem dg_cX8_readToken_158 : (decode cX8_readToken 247 = .ok (.aload_n 0, 1)) ∧ (decode cX8_readToken 248 = .ok (.aload_n 0, 1)) ∧ (decode cX8_readToken 249 = .ok (.getfield 9, 3)) ∧ (decode cX8_readToken 252 = .ok (.aload_n 0, 1)) ∧ (decode cX8_readToken 253 = .ok (.getfield 19, 3)) ∧ (decode cX8_readToken 256 = .ok (.baload, 1)) ∧ (decode cX8_readToken 257 = .ok (.bipush 59, 2)) ∧ (decode cX8_readToken 259 = .ok (.if_icmp .ne 7, 3)) ∧ (decode cX8_readToken 262 = .ok (.iconst 3, 1)) ∧ (decode cX8_readToken 263 = .ok (.goto 4, 3)) ∧ (decode cX8_readToken 266 = .ok (.iconst 4, 1)) ∧ (decode cX8_readToken 267 = .ok (.putfield 28, 3)) ∧ (decode cX8_readToken 270 = .ok (.aload_n 0, 1)) ∧ (decode cX8_readToken 271 = .ok (.dup, 1)) ∧ (decode cX8_readToken 272 = .ok (.getfield 19, 3)) ∧ (decode cX8_readToken 275 = .ok (.iconst 1, 1)) := by decide +kernel
theorem dX8_readToken_247 : decode cX8_readToken 247 = .ok (.aload_n 0, 1) := dg_cX8_readToken_158.1
theorem dX8_readToken_248 : decode cX8_readToken 248 = .ok (.aload_n 0, 1) := dg_cX8_readToken_158.2.1
theorem dX8_readToken_249 : decode cX8_readToken 249 = .ok (.getfield 9, 3) := dg_cX8_readToken_158.2.2.1
theorem dX8_readToken_252 : decode cX8_readToken 252 = .ok (.aload_n 0, 1) := dg_cX8_readToken_158.2.2.2.1
theorem dX8_readToken_253 : decode cX8_readToken 253 = .ok (.getfield 19, 3) := dg_cX8_readToken_158.2.2.2.2.1
theorem dX8_readToken_256 : decode cX8_readToken 256 = .ok (.baload, 1) := dg_cX8_readToken_158.2.2.2.2.2.1
theorem dX8_readToken_257 : decode cX8_readToken 257 = .ok (.bipush 59, 2) := dg_cX8_readToken_158.2.2.2.2.2.2.1
theorem dX8_readToken_259 : decode cX8_readToken 259 = .ok (.if_icmp .ne 7, 3) := dg_cX8_readToken_158.2.2.2.2.2.2.2.1
theorem dX8_readToken_262 : decode cX8_readToken 262 = .ok (.iconst 3, 1) := dg_cX8_readToken_158.2.2.2.2.2.2.2.2.1
theorem dX8_readToken_263 : decode cX8_readToken 263 = .ok (.goto 4, 3) := dg_cX8_readToken_158.2.2.2.2.2.2.2.2.2.1
theorem dX8_readToken_266 : decode cX8_readToken 266 = .ok (.iconst 4, 1) := dg_cX8_readToken_158.2.2.2.2.2.2.2.2.2.2.1
theorem dX8_readToken_267 : decode cX8_readToken 267 = .ok (.putfield 28, 3) := dg_cX8_readToken_158.2.2.2.2.2.2.2.2.2.2.2.1
theorem dX8_readToken_270 : decode cX8_readToken 270 = .ok (.aload_n 0, 1) := dg_cX8_readToken_158.2.2.2.2.2.2.2.2.2.2.2.2.1
theorem dX8_readToken_271 : decode cX8_readToken 271 = .ok (.dup, 1) := dg_cX8_readToken_158.2.2.2.2.2.2.2.2.2.2.2.2.2.1
theorem dX8_readToken_272 : decode cX8_readToken 272 = .ok (.getfield 19, 3) := dg_cX8_readToken_158.2.2.2.2.2.2.2.2.2.2.2.2.2.2.1
theorem dX8_readToken_275 : decode cX8_readToken 275 = .ok (.iconst 1, 1) := dg_cX8_readToken_158.2.2.2.2.2.2.2.2.2.2.2.2.2.2.2
set_option maxRecDepth 100000 in
theorem dg_cX8_readToken_159 : (decode cX8_readToken 276 = .ok (.iadd, 1)) ∧ (decode cX8_readToken 277 = .ok (.putfield 19, 3)) ∧ (decode cX8_readToken 280 = .ok (.return_, 1)) := by decide +kernel
theorem dX8_readToken_276 : decode cX8_readToken 276 = .ok (.iadd, 1) := dg_cX8_readToken_159.1
theorem dX8_readToken_277 : decode cX8_readToken 277 = .ok (.putfield 19, 3) := dg_cX8_readToken_159.2.1
theorem dX8_readToken_280 : decode cX8_readToken 280 = .ok (.return_, 1) := dg_cX8_readToken_159.2.2
set_option maxRecDepth 100000 in
theorem dg_cX8_isName_160 : (decode cX8_isName 0 = .ok (.aload_n 0, 1)) ∧ (decode cX8_isName 1 = .ok (.getfield 28, 3)) ∧ (decode cX8_isName 4 = .ok (.iconst 1, 1)) ∧ (decode cX8_isName 5 = .ok (.if_icmp .ne 19, 3)) ∧ (decode cX8_isName 8 = .ok (.aload_n 0, 1)) ∧ (decode cX8_isName 9 = .ok (.getfield 19, 3)) ∧ (decode cX8_isName 12 = .ok (.aload_n 0, 1)) ∧ (decode cX8_isName 13 = .ok (.getfield 22, 3)) ∧ (decode cX8_isName 16 = .ok (.isub, 1)) ∧ (decode cX8_isName 17 = .ok (.aload_n 1, 1)) ∧ (decode cX8_isName 18 = .ok (.invokevirtual 31, 3)) ∧ (decode cX8_isName 21 = .ok (.if_icmp .eq 5, 3)) ∧ (decode cX8_isName 24 = .ok (.iconst 0, 1)) ∧ (decode cX8_isName 25 = .ok (.ireturn, 1)) ∧ (decode cX8_isName 26 = .ok (.iconst 0, 1)) ∧ (decode cX8_isName 27 = .ok (.istore_n 2, 1)) := by decide +kernel
theorem dX8_isName_0 : decode cX8_isName 0 = .ok (.aload_n 0, 1) := dg_cX8_isName_160.1
theorem dX8_isName_1 : decode cX8_isName 1 = .ok (.getfield 28, 3) := dg_cX8_isName_160.2.1
theorem dX8_isName_4 : decode cX8_isName 4 = .ok (.iconst 1, 1) := dg_cX8_isName_160.2.2.1
theorem dX8_isName_5 : decode cX8_isName 5 = .ok (.if_icmp .ne 19, 3) := dg_cX8_isName_160.2.2.2.1
theorem dX8_isName_8 : decode cX8_isName 8 = .ok (.aload_n 0, 1) := dg_cX8_isName_160.2.2.2.2.1
theorem dX8_isName_9 : decode cX8_isName 9 = .ok (.getfield 19, 3) := dg_cX8_isName_160.2.2.2.2.2.1
theorem dX8_isName_12 : decode cX8_isName 12 = .ok (.aload_n 0, 1) := dg_cX8_isName_160.2.2.2.2.2.2.1
theorem dX8_isName_13 : decode cX8_isName 13 = .ok (.getfield 22, 3) := dg_cX8_isName_160.2.2.2.2.2.2.2.1
theorem dX8_isName_16 : decode cX8_isName 16 = .ok (.isub, 1) := dg_cX8_isName_160.2.2.2.2.2.2.2.2.1
theorem dX8_isName_17 : decode cX8_isName 17 = .ok (.aload_n 1, 1) := dg_cX8_isName_160.2.2.2.2.2.2.2.2.2.1
theorem dX8_isName_18 : decode cX8_isName 18 = .ok (.invokevirtual 31, 3) := dg_cX8_isName_160.2.2.2.2.2.2.2.2.2.2.1
theorem dX8_isName_21 : decode cX8_isName 21 = .ok (.if_icmp .eq 5, 3) := dg_cX8_isName_160.2.2.2.2.2.2.2.2.2.2.2.1
theorem dX8_isName_24 : decode cX8_isName 24 = .ok (.iconst 0, 1) := dg_cX8_isName_160.2.2.2.2.2.2.2.2.2.2.2.2.1
theorem dX8_isName_25 : decode cX8_isName 25 = .ok (.ireturn, 1) := dg_cX8_isName_160.2.2.2.2.2.2.2.2.2.2.2.2.2.1
theorem dX8_isName_26 : decode cX8_isName 26 = .ok (.iconst 0, 1) := dg_cX8_isName_160.2.2.2.2.2.2.2.2.2.2.2.2.2.2.1
theorem dX8_isName_27 : decode cX8_isName 27 = .ok (.istore_n 2, 1) := dg_cX8_isName_160.2.2.2.2.2.2.2.2.2.2.2.2.2.2.2
set_option maxRecDepth 100000 in
theorem dg_cX8_isName_161 : (decode cX8_isName 28 = .ok (.iload_n 2, 1)) ∧ (decode cX8_isName 29 = .ok (.aload_n 1, 1)) ∧ (decode cX8_isName 30 = .ok (.invokevirtual 31, 3)) ∧ (decode cX8_isName 33 = .ok (.if_icmp .ge 30, 3)) ∧ (decode cX8_isName 36 = .ok (.aload_n 0, 1)) ∧ (decode cX8_isName 37 = .ok (.getfield 9, 3)) ∧ (decode cX8_isName 40 = .ok (.aload_n 0, 1)) ∧ (decode cX8_isName 41 = .ok (.getfield 22, 3)) ∧ (decode cX8_isName 44 = .ok (.iload_n 2, 1)) ∧ (decode cX8_isName 45 = .ok (.iadd, 1)) ∧ (decode cX8_isName 46 = .ok (.baload, 1)) ∧ (decode cX8_isName 47 = .ok (.aload_n 1, 1)) ∧ (decode cX8_isName 48 = .ok (.iload_n 2, 1)) ∧ (decode cX8_isName 49 = .ok (.invokevirtual 36, 3)) ∧ (decode cX8_isName 52 = .ok (.if_icmp .eq 5, 3)) ∧ (decode cX8_isName 55 = .ok (.iconst 0, 1)) := by decide +kernel
theorem dX8_isName_28 : decode cX8_isName 28 = .ok (.iload_n 2, 1) := dg_cX8_isName_161.1
theorem dX8_isName_29 : decode cX8_isName 29 = .ok (.aload_n 1, 1) := dg_cX8_isName_161.2.1
theorem dX8_isName_30 : decode cX8_isName 30 = .ok (.invokevirtual 31, 3) := dg_cX8_isName_161.2.2.1
theorem dX8_isName_33 : decode cX8_isName 33 = .ok (.if_icmp .ge 30, 3) := dg_cX8_isName_161.2.2.2.1
theorem dX8_isName_36 : decode cX8_isName 36 = .ok (.aload_n 0, 1) := dg_cX8_isName_161.2.2.2.2.1
theorem dX8_isName_37 : decode cX8_isName 37 = .ok (.getfield 9, 3) := dg_cX8_isName_161.2.2.2.2.2.1
theorem dX8_isName_40 : decode cX8_isName 40 = .ok (.aload_n 0, 1) := dg_cX8_isName_161.2.2.2.2.2.2.1
theorem dX8_isName_41 : decode cX8_isName 41 = .ok (.getfield 22, 3) := dg_cX8_isName_161.2.2.2.2.2.2.2.1
theorem dX8_isName_44 : decode cX8_isName 44 = .ok (.iload_n 2, 1) := dg_cX8_isName_161.2.2.2.2.2.2.2.2.1
theorem dX8_isName_45 : decode cX8_isName 45 = .ok (.iadd, 1) := dg_cX8_isName_161.2.2.2.2.2.2.2.2.2.1
theorem dX8_isName_46 : decode cX8_isName 46 = .ok (.baload, 1) := dg_cX8_isName_161.2.2.2.2.2.2.2.2.2.2.1
theorem dX8_isName_47 : decode cX8_isName 47 = .ok (.aload_n 1, 1) := dg_cX8_isName_161.2.2.2.2.2.2.2.2.2.2.2.1
theorem dX8_isName_48 : decode cX8_isName 48 = .ok (.iload_n 2, 1) := dg_cX8_isName_161.2.2.2.2.2.2.2.2.2.2.2.2.1
theorem dX8_isName_49 : decode cX8_isName 49 = .ok (.invokevirtual 36, 3) := dg_cX8_isName_161.2.2.2.2.2.2.2.2.2.2.2.2.2.1
theorem dX8_isName_52 : decode cX8_isName 52 = .ok (.if_icmp .eq 5, 3) := dg_cX8_isName_161.2.2.2.2.2.2.2.2.2.2.2.2.2.2.1
theorem dX8_isName_55 : decode cX8_isName 55 = .ok (.iconst 0, 1) := dg_cX8_isName_161.2.2.2.2.2.2.2.2.2.2.2.2.2.2.2
set_option maxRecDepth 100000 in
theorem dg_cX8_isName_162 : (decode cX8_isName 56 = .ok (.ireturn, 1)) ∧ (decode cX8_isName 57 = .ok (.iinc 2 1, 3)) ∧ (decode cX8_isName 60 = .ok (.goto (-32), 3)) ∧ (decode cX8_isName 63 = .ok (.iconst 1, 1)) ∧ (decode cX8_isName 64 = .ok (.ireturn, 1)) := by decide +kernel
theorem dX8_isName_56 : decode cX8_isName 56 = .ok (.ireturn, 1) := dg_cX8_isName_162.1
theorem dX8_isName_57 : decode cX8_isName 57 = .ok (.iinc 2 1, 3) := dg_cX8_isName_162.2.1
theorem dX8_isName_60 : decode cX8_isName 60 = .ok (.goto (-32), 3) := dg_cX8_isName_162.2.2.1
theorem dX8_isName_63 : decode cX8_isName 63 = .ok (.iconst 1, 1) := dg_cX8_isName_162.2.2.2.1
theorem dX8_isName_64 : decode cX8_isName 64 = .ok (.ireturn, 1) := dg_cX8_isName_162.2.2.2.2
set_option maxRecDepth 100000 in
theorem dg_cX9_init_163 : (decode cX9_init 0 = .ok (.aload_n 0, 1)) ∧ (decode cX9_init 1 = .ok (.invokespecial 3, 3)) ∧ (decode cX9_init 4 = .ok (.aload_n 0, 1)) ∧ (decode cX9_init 5 = .ok (.iconst 3, 1)) ∧ (decode cX9_init 6 = .ok (.putfield 9, 3)) ∧ (decode cX9_init 9 = .ok (.aload_n 0, 1)) ∧ (decode cX9_init 10 = .ok (.iconst 3, 1)) ∧ (decode cX9_init 11 = .ok (.putfield 15, 3)) ∧ (decode cX9_init 14 = .ok (.aload_n 0, 1)) ∧ (decode cX9_init 15 = .ok (.bipush 6, 2)) ∧ (decode cX9_init 17 = .ok (.newarray .int, 2)) ∧ (decode cX9_init 19 = .ok (.putfield 18, 3)) ∧ (decode cX9_init 22 = .ok (.aload_n 0, 1)) ∧ (decode cX9_init 23 = .ok (.bipush 6, 2)) ∧ (decode cX9_init 25 = .ok (.newarray .int, 2)) ∧ (decode cX9_init 27 = .ok (.putfield 22, 3)) := by decide +kernel
theorem dX9_init_0 : decode cX9_init 0 = .ok (.aload_n 0, 1) := dg_cX9_init_163.1
theorem dX9_init_1 : decode cX9_init 1 = .ok (.invokespecial 3, 3) := dg_cX9_init_163.2.1
theorem dX9_init_4 : decode cX9_init 4 = .ok (.aload_n 0, 1) := dg_cX9_init_163.2.2.1
theorem dX9_init_5 : decode cX9_init 5 = .ok (.iconst 3, 1) := dg_cX9_init_163.2.2.2.1
theorem dX9_init_6 : decode cX9_init 6 = .ok (.putfield 9, 3) := dg_cX9_init_163.2.2.2.2.1
theorem dX9_init_9 : decode cX9_init 9 = .ok (.aload_n 0, 1) := dg_cX9_init_163.2.2.2.2.2.1
theorem dX9_init_10 : decode cX9_init 10 = .ok (.iconst 3, 1) := dg_cX9_init_163.2.2.2.2.2.2.1
theorem dX9_init_11 : decode cX9_init 11 = .ok (.putfield 15, 3) := dg_cX9_init_163.2.2.2.2.2.2.2.1
theorem dX9_init_14 : decode cX9_init 14 = .ok (.aload_n 0, 1) := dg_cX9_init_163.2.2.2.2.2.2.2.2.1
theorem dX9_init_15 : decode cX9_init 15 = .ok (.bipush 6, 2) := dg_cX9_init_163.2.2.2.2.2.2.2.2.2.1
theorem dX9_init_17 : decode cX9_init 17 = .ok (.newarray .int, 2) := dg_cX9_init_163.2.2.2.2.2.2.2.2.2.2.1
theorem dX9_init_19 : decode cX9_init 19 = .ok (.putfield 18, 3) := dg_cX9_init_163.2.2.2.2.2.2.2.2.2.2.2.1
theorem dX9_init_22 : decode cX9_init 22 = .ok (.aload_n 0, 1) := dg_cX9_init_163.2.2.2.2.2.2.2.2.2.2.2.2.1
theorem dX9_init_23 : decode cX9_init 23 = .ok (.bipush 6, 2) := dg_cX9_init_163.2.2.2.2.2.2.2.2.2.2.2.2.2.1
theorem dX9_init_25 : decode cX9_init 25 = .ok (.newarray .int, 2) := dg_cX9_init_163.2.2.2.2.2.2.2.2.2.2.2.2.2.2.1
theorem dX9_init_27 : decode cX9_init 27 = .ok (.putfield 22, 3) := dg_cX9_init_163.2.2.2.2.2.2.2.2.2.2.2.2.2.2.2
set_option maxRecDepth 100000 in
theorem dg_cX9_init_164 : (decode cX9_init 30 = .ok (.aload_n 0, 1)) ∧ (decode cX9_init 31 = .ok (.bipush 6, 2)) ∧ (decode cX9_init 33 = .ok (.bipush 12, 2)) ∧ (decode cX9_init 35 = .ok (.multianewarray 25 2, 4)) ∧ (decode cX9_init 39 = .ok (.putfield 27, 3)) ∧ (decode cX9_init 42 = .ok (.aload_n 0, 1)) ∧ (decode cX9_init 43 = .ok (.new 30, 3)) ∧ (decode cX9_init 46 = .ok (.dup, 1)) ∧ (decode cX9_init 47 = .ok (.invokespecial 32, 3)) ∧ (decode cX9_init 50 = .ok (.putfield 33, 3)) ∧ (decode cX9_init 53 = .ok (.return_, 1)) := by decide +kernel
theorem dX9_init_30 : decode cX9_init 30 = .ok (.aload_n 0, 1) := dg_cX9_init_164.1
theorem dX9_init_31 : decode cX9_init 31 = .ok (.bipush 6, 2) := dg_cX9_init_164.2.1
theorem dX9_init_33 : decode cX9_init 33 = .ok (.bipush 12, 2) := dg_cX9_init_164.2.2.1
theorem dX9_init_35 : decode cX9_init 35 = .ok (.multianewarray 25 2, 4) := dg_cX9_init_164.2.2.2.1
theorem dX9_init_39 : decode cX9_init 39 = .ok (.putfield 27, 3) := dg_cX9_init_164.2.2.2.2.1
theorem dX9_init_42 : decode cX9_init 42 = .ok (.aload_n 0, 1) := dg_cX9_init_164.2.2.2.2.2.1
theorem dX9_init_43 : decode cX9_init 43 = .ok (.new 30, 3) := dg_cX9_init_164.2.2.2.2.2.2.1
theorem dX9_init_46 : decode cX9_init 46 = .ok (.dup, 1) := dg_cX9_init_164.2.2.2.2.2.2.2.1
theorem dX9_init_47 : decode cX9_init 47 = .ok (.invokespecial 32, 3) := dg_cX9_init_164.2.2.2.2.2.2.2.2.1
theorem dX9_init_50 : decode cX9_init 50 = .ok (.putfield 33, 3) := dg_cX9_init_164.2.2.2.2.2.2.2.2.2.1
theorem dX9_init_53 : decode cX9_init 53 = .ok (.return_, 1) := dg_cX9_init_164.2.2.2.2.2.2.2.2.2.2
set_option maxRecDepth 100000 in
theorem dg_cX9_empty_165 : (decode cX9_empty 0 = .ok (.aload_n 0, 1)) ∧ (decode cX9_empty 1 = .ok (.iconst 3, 1)) ∧ (decode cX9_empty 2 = .ok (.putfield 9, 3)) ∧ (decode cX9_empty 5 = .ok (.aload_n 0, 1)) ∧ (decode cX9_empty 6 = .ok (.iconst 3, 1)) ∧ (decode cX9_empty 7 = .ok (.putfield 15, 3)) ∧ (decode cX9_empty 10 = .ok (.aload_n 0, 1)) ∧ (decode cX9_empty 11 = .ok (.iconst 0, 1)) ∧ (decode cX9_empty 12 = .ok (.putfield 37, 3)) ∧ (decode cX9_empty 15 = .ok (.aload_n 0, 1)) ∧ (decode cX9_empty 16 = .ok (.getfield 33, 3)) ∧ (decode cX9_empty 19 = .ok (.invokevirtual 40, 3)) ∧ (decode cX9_empty 22 = .ok (.return_, 1)) := by decide +kernel
theorem dX9_empty_0 : decode cX9_empty 0 = .ok (.aload_n 0, 1) := dg_cX9_empty_165.1
theorem dX9_empty_1 : decode cX9_empty 1 = .ok (.iconst 3, 1) := dg_cX9_empty_165.2.1
theorem dX9_empty_2 : decode cX9_empty 2 = .ok (.putfield 9, 3) := dg_cX9_empty_165.2.2.1
theorem dX9_empty_5 : decode cX9_empty 5 = .ok (.aload_n 0, 1) := dg_cX9_empty_165.2.2.2.1
theorem dX9_empty_6 : decode cX9_empty 6 = .ok (.iconst 3, 1) := dg_cX9_empty_165.2.2.2.2.1
theorem dX9_empty_7 : decode cX9_empty 7 = .ok (.putfield 15, 3) := dg_cX9_empty_165.2.2.2.2.2.1
theorem dX9_empty_10 : decode cX9_empty 10 = .ok (.aload_n 0, 1) := dg_cX9_empty_165.2.2.2.2.2.2.1
theorem dX9_empty_11 : decode cX9_empty 11 = .ok (.iconst 0, 1) := dg_cX9_empty_165.2.2.2.2.2.2.2.1
theorem dX9_empty_12 : decode cX9_empty 12 = .ok (.putfield 37, 3) := dg_cX9_empty_165.2.2.2.2.2.2.2.2.1
theorem dX9_empty_15 : decode cX9_empty 15 = .ok (.aload_n 0, 1) := dg_cX9_empty_165.2.2.2.2.2.2.2.2.2.1
theorem dX9_empty_16 : decode cX9_empty 16 = .ok (.getfield 33, 3) := dg_cX9_empty_165.2.2.2.2.2.2.2.2.2.2.1
theorem dX9_empty_19 : decode cX9_empty 19 = .ok (.invokevirtual 40, 3) := dg_cX9_empty_165.2.2.2.2.2.2.2.2.2.2.2.1
theorem dX9_empty_22 : decode cX9_empty 22 = .ok (.return_, 1) := dg_cX9_empty_165.2.2.2.2.2.2.2.2.2.2.2.2
set_option maxRecDepth 100000 in
theorem dg_cX9_copyFrom_166 : (decode cX9_copyFrom 0 = .ok (.aload_n 0, 1)) ∧ (decode cX9_copyFrom 1 = .ok (.aload_n 1, 1)) ∧ (decode cX9_copyFrom 2 = .ok (.getfield 9, 3)) ∧ (decode cX9_copyFrom 5 = .ok (.putfield 9, 3)) ∧ (decode cX9_copyFrom 8 = .ok (.aload_n 0, 1)) ∧ (decode cX9_copyFrom 9 = .ok (.aload_n 1, 1)) ∧ (decode cX9_copyFrom 10 = .ok (.getfield 15, 3)) ∧ (decode cX9_copyFrom 13 = .ok (.putfield 15, 3)) ∧ (decode cX9_copyFrom 16 = .ok (.aload_n 0, 1)) ∧ (decode cX9_copyFrom 17 = .ok (.aload_n 1, 1)) ∧ (decode cX9_copyFrom 18 = .ok (.getfield 37, 3)) ∧ (decode cX9_copyFrom 21 = .ok (.putfield 37, 3)) ∧ (decode cX9_copyFrom 24 = .ok (.aload_n 1, 1)) ∧ (decode cX9_copyFrom 25 = .ok (.getfield 18, 3)) ∧ (decode cX9_copyFrom 28 = .ok (.iconst 0, 1)) ∧ (decode cX9_copyFrom 29 = .ok (.aload_n 0, 1)) := by decide +kernel
theorem dX9_copyFrom_0 : decode cX9_copyFrom 0 = .ok (.aload_n 0, 1) := dg_cX9_copyFrom_166.1
theorem dX9_copyFrom_1 : decode cX9_copyFrom 1 = .ok (.aload_n 1, 1) := dg_cX9_copyFrom_166.2.1
theorem dX9_copyFrom_2 : decode cX9_copyFrom 2 = .ok (.getfield 9, 3) := dg_cX9_copyFrom_166.2.2.1
theorem dX9_copyFrom_5 : decode cX9_copyFrom 5 = .ok (.putfield 9, 3) := dg_cX9_copyFrom_166.2.2.2.1
theorem dX9_copyFrom_8 : decode cX9_copyFrom 8 = .ok (.aload_n 0, 1) := dg_cX9_copyFrom_166.2.2.2.2.1
theorem dX9_copyFrom_9 : decode cX9_copyFrom 9 = .ok (.aload_n 1, 1) := dg_cX9_copyFrom_166.2.2.2.2.2.1
theorem dX9_copyFrom_10 : decode cX9_copyFrom 10 = .ok (.getfield 15, 3) := dg_cX9_copyFrom_166.2.2.2.2.2.2.1
theorem dX9_copyFrom_13 : decode cX9_copyFrom 13 = .ok (.putfield 15, 3) := dg_cX9_copyFrom_166.2.2.2.2.2.2.2.1
theorem dX9_copyFrom_16 : decode cX9_copyFrom 16 = .ok (.aload_n 0, 1) := dg_cX9_copyFrom_166.2.2.2.2.2.2.2.2.1
theorem dX9_copyFrom_17 : decode cX9_copyFrom 17 = .ok (.aload_n 1, 1) := dg_cX9_copyFrom_166.2.2.2.2.2.2.2.2.2.1
theorem dX9_copyFrom_18 : decode cX9_copyFrom 18 = .ok (.getfield 37, 3) := dg_cX9_copyFrom_166.2.2.2.2.2.2.2.2.2.2.1
theorem dX9_copyFrom_21 : decode cX9_copyFrom 21 = .ok (.putfield 37, 3) := dg_cX9_copyFrom_166.2.2.2.2.2.2.2.2.2.2.2.1
theorem dX9_copyFrom_24 : decode cX9_copyFrom 24 = .ok (.aload_n 1, 1) := dg_cX9_copyFrom_166.2.2.2.2.2.2.2.2.2.2.2.2.1
theorem dX9_copyFrom_25 : decode cX9_copyFrom 25 = .ok (.getfield 18, 3) := dg_cX9_copyFrom_166.2.2.2.2.2.2.2.2.2.2.2.2.2.1
theorem dX9_copyFrom_28 : decode cX9_copyFrom 28 = .ok (.iconst 0, 1) := dg_cX9_copyFrom_166.2.2.2.2.2.2.2.2.2.2.2.2.2.2.1
theorem dX9_copyFrom_29 : decode cX9_copyFrom 29 = .ok (.aload_n 0, 1) := dg_cX9_copyFrom_166.2.2.2.2.2.2.2.2.2.2.2.2.2.2.2
set_option maxRecDepth 100000 in
theorem dg_cX9_copyFrom_167 : (decode cX9_copyFrom 30 = .ok (.getfield 18, 3)) ∧ (decode cX9_copyFrom 33 = .ok (.iconst 0, 1)) ∧ (decode cX9_copyFrom 34 = .ok (.bipush 6, 2)) ∧ (decode cX9_copyFrom 36 = .ok (.invokestatic 43, 3)) ∧ (decode cX9_copyFrom 39 = .ok (.aload_n 1, 1)) ∧ (decode cX9_copyFrom 40 = .ok (.getfield 22, 3)) ∧ (decode cX9_copyFrom 43 = .ok (.iconst 0, 1)) ∧ (decode cX9_copyFrom 44 = .ok (.aload_n 0, 1)) ∧ (decode cX9_copyFrom 45 = .ok (.getfield 22, 3)) ∧ (decode cX9_copyFrom 48 = .ok (.iconst 0, 1)) ∧ (decode cX9_copyFrom 49 = .ok (.bipush 6, 2)) ∧ (decode cX9_copyFrom 51 = .ok (.invokestatic 43, 3)) ∧ (decode cX9_copyFrom 54 = .ok (.iconst 0, 1)) ∧ (decode cX9_copyFrom 55 = .ok (.istore_n 2, 1)) ∧ (decode cX9_copyFrom 56 = .ok (.iload_n 2, 1)) ∧ (decode cX9_copyFrom 57 = .ok (.bipush 6, 2)) := by decide +kernel
theorem dX9_copyFrom_30 : decode cX9_copyFrom 30 = .ok (.getfield 18, 3) := dg_cX9_copyFrom_167.1
theorem dX9_copyFrom_33 : decode cX9_copyFrom 33 = .ok (.iconst 0, 1) := dg_cX9_copyFrom_167.2.1
theorem dX9_copyFrom_34 : decode cX9_copyFrom 34 = .ok (.bipush 6, 2) := dg_cX9_copyFrom_167.2.2.1
theorem dX9_copyFrom_36 : decode cX9_copyFrom 36 = .ok (.invokestatic 43, 3) := dg_cX9_copyFrom_167.2.2.2.1
theorem dX9_copyFrom_39 : decode cX9_copyFrom 39 = .ok (.aload_n 1, 1) := dg_cX9_copyFrom_167.2.2.2.2.1
theorem dX9_copyFrom_40 : decode cX9_copyFrom 40 = .ok (.getfield 22, 3) := dg_cX9_copyFrom_167.2.2.2.2.2.1
theorem dX9_copyFrom_43 : decode cX9_copyFrom 43 = .ok (.iconst 0, 1) := dg_cX9_copyFrom_167.2.2.2.2.2.2.1
theorem dX9_copyFrom_44 : decode cX9_copyFrom 44 = .ok (.aload_n 0, 1) := dg_cX9_copyFrom_167.2.2.2.2.2.2.2.1
theorem dX9_copyFrom_45 : decode cX9_copyFrom 45 = .ok (.getfield 22, 3) := dg_cX9_copyFrom_167.2.2.2.2.2.2.2.2.1
theorem dX9_copyFrom_48 : decode cX9_copyFrom 48 = .ok (.iconst 0, 1) := dg_cX9_copyFrom_167.2.2.2.2.2.2.2.2.2.1
theorem dX9_copyFrom_49 : decode cX9_copyFrom 49 = .ok (.bipush 6, 2) := dg_cX9_copyFrom_167.2.2.2.2.2.2.2.2.2.2.1
theorem dX9_copyFrom_51 : decode cX9_copyFrom 51 = .ok (.invokestatic 43, 3) := dg_cX9_copyFrom_167.2.2.2.2.2.2.2.2.2.2.2.1
theorem dX9_copyFrom_54 : decode cX9_copyFrom 54 = .ok (.iconst 0, 1) := dg_cX9_copyFrom_167.2.2.2.2.2.2.2.2.2.2.2.2.1
theorem dX9_copyFrom_55 : decode cX9_copyFrom 55 = .ok (.istore_n 2, 1) := dg_cX9_copyFrom_167.2.2.2.2.2.2.2.2.2.2.2.2.2.1
theorem dX9_copyFrom_56 : decode cX9_copyFrom 56 = .ok (.iload_n 2, 1) := dg_cX9_copyFrom_167.2.2.2.2.2.2.2.2.2.2.2.2.2.2.1
theorem dX9_copyFrom_57 : decode cX9_copyFrom 57 = .ok (.bipush 6, 2) := dg_cX9_copyFrom_167.2.2.2.2.2.2.2.2.2.2.2.2.2.2.2
set_option maxRecDepth 100000 in
theorem dg_cX9_copyFrom_168 : (decode cX9_copyFrom 59 = .ok (.if_icmp .ge 28, 3)) ∧ (decode cX9_copyFrom 62 = .ok (.aload_n 1, 1)) ∧ (decode cX9_copyFrom 63 = .ok (.getfield 27, 3)) ∧ (decode cX9_copyFrom 66 = .ok (.iload_n 2, 1)) ∧ (decode cX9_copyFrom 67 = .ok (.aaload, 1)) ∧ (decode cX9_copyFrom 68 = .ok (.iconst 0, 1)) ∧ (decode cX9_copyFrom 69 = .ok (.aload_n 0, 1)) ∧ (decode cX9_copyFrom 70 = .ok (.getfield 27, 3)) ∧ (decode cX9_copyFrom 73 = .ok (.iload_n 2, 1)) ∧ (decode cX9_copyFrom 74 = .ok (.aaload, 1)) ∧ (decode cX9_copyFrom 75 = .ok (.iconst 0, 1)) ∧ (decode cX9_copyFrom 76 = .ok (.bipush 12, 2)) ∧ (decode cX9_copyFrom 78 = .ok (.invokestatic 43, 3)) ∧ (decode cX9_copyFrom 81 = .ok (.iinc 2 1, 3)) ∧ (decode cX9_copyFrom 84 = .ok (.goto (-28), 3)) ∧ (decode cX9_copyFrom 87 = .ok (.aload_n 0, 1)) := by decide +kernel
theorem dX9_copyFrom_59 : decode cX9_copyFrom 59 = .ok (.if_icmp .ge 28, 3) := dg_cX9_copyFrom_168.1
theorem dX9_copyFrom_62 : decode cX9_copyFrom 62 = .ok (.aload_n 1, 1) := dg_cX9_copyFrom_168.2.1
theorem dX9_copyFrom_63 : decode cX9_copyFrom 63 = .ok (.getfield 27, 3) := dg_cX9_copyFrom_168.2.2.1
theorem dX9_copyFrom_66 : decode cX9_copyFrom 66 = .ok (.iload_n 2, 1) := dg_cX9_copyFrom_168.2.2.2.1
theorem dX9_copyFrom_67 : decode cX9_copyFrom 67 = .ok (.aaload, 1) := dg_cX9_copyFrom_168.2.2.2.2.1
theorem dX9_copyFrom_68 : decode cX9_copyFrom 68 = .ok (.iconst 0, 1) := dg_cX9_copyFrom_168.2.2.2.2.2.1
theorem dX9_copyFrom_69 : decode cX9_copyFrom 69 = .ok (.aload_n 0, 1) := dg_cX9_copyFrom_168.2.2.2.2.2.2.1
theorem dX9_copyFrom_70 : decode cX9_copyFrom 70 = .ok (.getfield 27, 3) := dg_cX9_copyFrom_168.2.2.2.2.2.2.2.1
theorem dX9_copyFrom_73 : decode cX9_copyFrom 73 = .ok (.iload_n 2, 1) := dg_cX9_copyFrom_168.2.2.2.2.2.2.2.2.1
theorem dX9_copyFrom_74 : decode cX9_copyFrom 74 = .ok (.aaload, 1) := dg_cX9_copyFrom_168.2.2.2.2.2.2.2.2.2.1
theorem dX9_copyFrom_75 : decode cX9_copyFrom 75 = .ok (.iconst 0, 1) := dg_cX9_copyFrom_168.2.2.2.2.2.2.2.2.2.2.1
theorem dX9_copyFrom_76 : decode cX9_copyFrom 76 = .ok (.bipush 12, 2) := dg_cX9_copyFrom_168.2.2.2.2.2.2.2.2.2.2.2.1
theorem dX9_copyFrom_78 : decode cX9_copyFrom 78 = .ok (.invokestatic 43, 3) := dg_cX9_copyFrom_168.2.2.2.2.2.2.2.2.2.2.2.2.1
theorem dX9_copyFrom_81 : decode cX9_copyFrom 81 = .ok (.iinc 2 1, 3) := dg_cX9_copyFrom_168.2.2.2.2.2.2.2.2.2.2.2.2.2.1
theorem dX9_copyFrom_84 : decode cX9_copyFrom 84 = .ok (.goto (-28), 3) := dg_cX9_copyFrom_168.2.2.2.2.2.2.2.2.2.2.2.2.2.2.1
theorem dX9_copyFrom_87 : decode cX9_copyFrom 87 = .ok (.aload_n 0, 1) := dg_cX9_copyFrom_168.2.2.2.2.2.2.2.2.2.2.2.2.2.2.2
set_option maxRecDepth 100000 in
theorem dg_cX9_copyFrom_169 : (decode cX9_copyFrom 88 = .ok (.getfield 33, 3)) ∧ (decode cX9_copyFrom 91 = .ok (.aload_n 1, 1)) ∧ (decode cX9_copyFrom 92 = .ok (.getfield 33, 3)) ∧ (decode cX9_copyFrom 95 = .ok (.invokevirtual 49, 3)) ∧ (decode cX9_copyFrom 98 = .ok (.return_, 1)) := by decide +kernel
theorem dX9_copyFrom_88 : decode cX9_copyFrom 88 = .ok (.getfield 33, 3) := dg_cX9_copyFrom_169.1
theorem dX9_copyFrom_91 : decode cX9_copyFrom 91 = .ok (.aload_n 1, 1) := dg_cX9_copyFrom_169.2.1
theorem dX9_copyFrom_92 : decode cX9_copyFrom 92 = .ok (.getfield 33, 3) := dg_cX9_copyFrom_169.2.2.1
theorem dX9_copyFrom_95 : decode cX9_copyFrom 95 = .ok (.invokevirtual 49, 3) := dg_cX9_copyFrom_169.2.2.2.1
theorem dX9_copyFrom_98 : decode cX9_copyFrom 98 = .ok (.return_, 1) := dg_cX9_copyFrom_169.2.2.2.2
set_option maxRecDepth 100000 in
theorem dg_cX9_hasHouse_170 : (decode cX9_hasHouse 0 = .ok (.iload_n 1, 1)) ∧ (decode cX9_hasHouse 1 = .ok (.ifCond .lt 15, 3)) ∧ (decode cX9_hasHouse 4 = .ok (.iload_n 1, 1)) ∧ (decode cX9_hasHouse 5 = .ok (.aload_n 0, 1)) ∧ (decode cX9_hasHouse 6 = .ok (.getfield 9, 3)) ∧ (decode cX9_hasHouse 9 = .ok (.if_icmp .ge 7, 3)) ∧ (decode cX9_hasHouse 12 = .ok (.iconst 1, 1)) ∧ (decode cX9_hasHouse 13 = .ok (.goto 4, 3)) ∧ (decode cX9_hasHouse 16 = .ok (.iconst 0, 1)) ∧ (decode cX9_hasHouse 17 = .ok (.ireturn, 1)) := by decide +kernel
theorem dX9_hasHouse_0 : decode cX9_hasHouse 0 = .ok (.iload_n 1, 1) := dg_cX9_hasHouse_170.1
theorem dX9_hasHouse_1 : decode cX9_hasHouse 1 = .ok (.ifCond .lt 15, 3) := dg_cX9_hasHouse_170.2.1
theorem dX9_hasHouse_4 : decode cX9_hasHouse 4 = .ok (.iload_n 1, 1) := dg_cX9_hasHouse_170.2.2.1
theorem dX9_hasHouse_5 : decode cX9_hasHouse 5 = .ok (.aload_n 0, 1) := dg_cX9_hasHouse_170.2.2.2.1
theorem dX9_hasHouse_6 : decode cX9_hasHouse 6 = .ok (.getfield 9, 3) := dg_cX9_hasHouse_170.2.2.2.2.1
theorem dX9_hasHouse_9 : decode cX9_hasHouse 9 = .ok (.if_icmp .ge 7, 3) := dg_cX9_hasHouse_170.2.2.2.2.2.1
theorem dX9_hasHouse_12 : decode cX9_hasHouse 12 = .ok (.iconst 1, 1) := dg_cX9_hasHouse_170.2.2.2.2.2.2.1
theorem dX9_hasHouse_13 : decode cX9_hasHouse 13 = .ok (.goto 4, 3) := dg_cX9_hasHouse_170.2.2.2.2.2.2.2.1
theorem dX9_hasHouse_16 : decode cX9_hasHouse 16 = .ok (.iconst 0, 1) := dg_cX9_hasHouse_170.2.2.2.2.2.2.2.2.1
theorem dX9_hasHouse_17 : decode cX9_hasHouse 17 = .ok (.ireturn, 1) := dg_cX9_hasHouse_170.2.2.2.2.2.2.2.2.2
set_option maxRecDepth 100000 in
theorem dg_cX9_hasTune_171 : (decode cX9_hasTune 0 = .ok (.iload_n 1, 1)) ∧ (decode cX9_hasTune 1 = .ok (.ifCond .lt 15, 3)) ∧ (decode cX9_hasTune 4 = .ok (.iload_n 1, 1)) ∧ (decode cX9_hasTune 5 = .ok (.aload_n 0, 1)) ∧ (decode cX9_hasTune 6 = .ok (.getfield 37, 3)) ∧ (decode cX9_hasTune 9 = .ok (.if_icmp .ge 7, 3)) ∧ (decode cX9_hasTune 12 = .ok (.iconst 1, 1)) ∧ (decode cX9_hasTune 13 = .ok (.goto 4, 3)) ∧ (decode cX9_hasTune 16 = .ok (.iconst 0, 1)) ∧ (decode cX9_hasTune 17 = .ok (.ireturn, 1)) := by decide +kernel
theorem dX9_hasTune_0 : decode cX9_hasTune 0 = .ok (.iload_n 1, 1) := dg_cX9_hasTune_171.1
theorem dX9_hasTune_1 : decode cX9_hasTune 1 = .ok (.ifCond .lt 15, 3) := dg_cX9_hasTune_171.2.1
theorem dX9_hasTune_4 : decode cX9_hasTune 4 = .ok (.iload_n 1, 1) := dg_cX9_hasTune_171.2.2.1
theorem dX9_hasTune_5 : decode cX9_hasTune 5 = .ok (.aload_n 0, 1) := dg_cX9_hasTune_171.2.2.2.1
theorem dX9_hasTune_6 : decode cX9_hasTune 6 = .ok (.getfield 37, 3) := dg_cX9_hasTune_171.2.2.2.2.1
theorem dX9_hasTune_9 : decode cX9_hasTune 9 = .ok (.if_icmp .ge 7, 3) := dg_cX9_hasTune_171.2.2.2.2.2.1
theorem dX9_hasTune_12 : decode cX9_hasTune 12 = .ok (.iconst 1, 1) := dg_cX9_hasTune_171.2.2.2.2.2.2.1
theorem dX9_hasTune_13 : decode cX9_hasTune 13 = .ok (.goto 4, 3) := dg_cX9_hasTune_171.2.2.2.2.2.2.2.1
theorem dX9_hasTune_16 : decode cX9_hasTune 16 = .ok (.iconst 0, 1) := dg_cX9_hasTune_171.2.2.2.2.2.2.2.2.1
theorem dX9_hasTune_17 : decode cX9_hasTune 17 = .ok (.ireturn, 1) := dg_cX9_hasTune_171.2.2.2.2.2.2.2.2.2
set_option maxRecDepth 100000 in
theorem dg_cX9_asksStroke_172 : (decode cX9_asksStroke 0 = .ok (.iload_n 2, 1)) ∧ (decode cX9_asksStroke 1 = .ok (.bipush 10, 2)) ∧ (decode cX9_asksStroke 3 = .ok (.if_icmp .lt 20, 3)) ∧ (decode cX9_asksStroke 6 = .ok (.iload_n 2, 1)) ∧ (decode cX9_asksStroke 7 = .ok (.bipush 10, 2)) ∧ (decode cX9_asksStroke 9 = .ok (.aload_n 0, 1)) ∧ (decode cX9_asksStroke 10 = .ok (.getfield 22, 3)) ∧ (decode cX9_asksStroke 13 = .ok (.iload_n 1, 1)) ∧ (decode cX9_asksStroke 14 = .ok (.iaload, 1)) ∧ (decode cX9_asksStroke 15 = .ok (.iadd, 1)) ∧ (decode cX9_asksStroke 16 = .ok (.if_icmp .ge 7, 3)) ∧ (decode cX9_asksStroke 19 = .ok (.iconst 1, 1)) ∧ (decode cX9_asksStroke 20 = .ok (.goto 4, 3)) ∧ (decode cX9_asksStroke 23 = .ok (.iconst 0, 1)) ∧ (decode cX9_asksStroke 24 = .ok (.ireturn, 1)) := by decide +kernel
theorem dX9_asksStroke_0 : decode cX9_asksStroke 0 = .ok (.iload_n 2, 1) := dg_cX9_asksStroke_172.1
theorem dX9_asksStroke_1 : decode cX9_asksStroke 1 = .ok (.bipush 10, 2) := dg_cX9_asksStroke_172.2.1
theorem dX9_asksStroke_3 : decode cX9_asksStroke 3 = .ok (.if_icmp .lt 20, 3) := dg_cX9_asksStroke_172.2.2.1
theorem dX9_asksStroke_6 : decode cX9_asksStroke 6 = .ok (.iload_n 2, 1) := dg_cX9_asksStroke_172.2.2.2.1
theorem dX9_asksStroke_7 : decode cX9_asksStroke 7 = .ok (.bipush 10, 2) := dg_cX9_asksStroke_172.2.2.2.2.1
theorem dX9_asksStroke_9 : decode cX9_asksStroke 9 = .ok (.aload_n 0, 1) := dg_cX9_asksStroke_172.2.2.2.2.2.1
theorem dX9_asksStroke_10 : decode cX9_asksStroke 10 = .ok (.getfield 22, 3) := dg_cX9_asksStroke_172.2.2.2.2.2.2.1
theorem dX9_asksStroke_13 : decode cX9_asksStroke 13 = .ok (.iload_n 1, 1) := dg_cX9_asksStroke_172.2.2.2.2.2.2.2.1
theorem dX9_asksStroke_14 : decode cX9_asksStroke 14 = .ok (.iaload, 1) := dg_cX9_asksStroke_172.2.2.2.2.2.2.2.2.1
theorem dX9_asksStroke_15 : decode cX9_asksStroke 15 = .ok (.iadd, 1) := dg_cX9_asksStroke_172.2.2.2.2.2.2.2.2.2.1
theorem dX9_asksStroke_16 : decode cX9_asksStroke 16 = .ok (.if_icmp .ge 7, 3) := dg_cX9_asksStroke_172.2.2.2.2.2.2.2.2.2.2.1
theorem dX9_asksStroke_19 : decode cX9_asksStroke 19 = .ok (.iconst 1, 1) := dg_cX9_asksStroke_172.2.2.2.2.2.2.2.2.2.2.2.1
theorem dX9_asksStroke_20 : decode cX9_asksStroke 20 = .ok (.goto 4, 3) := dg_cX9_asksStroke_172.2.2.2.2.2.2.2.2.2.2.2.2.1
theorem dX9_asksStroke_23 : decode cX9_asksStroke 23 = .ok (.iconst 0, 1) := dg_cX9_asksStroke_172.2.2.2.2.2.2.2.2.2.2.2.2.2.1
theorem dX9_asksStroke_24 : decode cX9_asksStroke 24 = .ok (.ireturn, 1) := dg_cX9_asksStroke_172.2.2.2.2.2.2.2.2.2.2.2.2.2.2
set_option maxRecDepth 100000 in
theorem dg_cX9_isWhole_173 : (decode cX9_isWhole 0 = .ok (.iconst 0, 1)) ∧ (decode cX9_isWhole 1 = .ok (.istore_n 1, 1)) ∧ (decode cX9_isWhole 2 = .ok (.iload_n 1, 1)) ∧ (decode cX9_isWhole 3 = .ok (.aload_n 0, 1)) ∧ (decode cX9_isWhole 4 = .ok (.getfield 33, 3)) ∧ (decode cX9_isWhole 7 = .ok (.getfield 53, 3)) ∧ (decode cX9_isWhole 10 = .ok (.if_icmp .ge 57, 3)) ∧ (decode cX9_isWhole 13 = .ok (.aload_n 0, 1)) ∧ (decode cX9_isWhole 14 = .ok (.aload_n 0, 1)) ∧ (decode cX9_isWhole 15 = .ok (.getfield 33, 3)) ∧ (decode cX9_isWhole 18 = .ok (.getfield 56, 3)) ∧ (decode cX9_isWhole 21 = .ok (.iload_n 1, 1)) ∧ (decode cX9_isWhole 22 = .ok (.iaload, 1)) ∧ (decode cX9_isWhole 23 = .ok (.invokevirtual 59, 3)) ∧ (decode cX9_isWhole 26 = .ok (.ifCond .eq 33, 3)) ∧ (decode cX9_isWhole 29 = .ok (.aload_n 0, 1)) := by decide +kernel
theorem dX9_isWhole_0 : decode cX9_isWhole 0 = .ok (.iconst 0, 1) := dg_cX9_isWhole_173.1
theorem dX9_isWhole_1 : decode cX9_isWhole 1 = .ok (.istore_n 1, 1) := dg_cX9_isWhole_173.2.1
theorem dX9_isWhole_2 : decode cX9_isWhole 2 = .ok (.iload_n 1, 1) := dg_cX9_isWhole_173.2.2.1
theorem dX9_isWhole_3 : decode cX9_isWhole 3 = .ok (.aload_n 0, 1) := dg_cX9_isWhole_173.2.2.2.1
theorem dX9_isWhole_4 : decode cX9_isWhole 4 = .ok (.getfield 33, 3) := dg_cX9_isWhole_173.2.2.2.2.1
theorem dX9_isWhole_7 : decode cX9_isWhole 7 = .ok (.getfield 53, 3) := dg_cX9_isWhole_173.2.2.2.2.2.1
theorem dX9_isWhole_10 : decode cX9_isWhole 10 = .ok (.if_icmp .ge 57, 3) := dg_cX9_isWhole_173.2.2.2.2.2.2.1
theorem dX9_isWhole_13 : decode cX9_isWhole 13 = .ok (.aload_n 0, 1) := dg_cX9_isWhole_173.2.2.2.2.2.2.2.1
theorem dX9_isWhole_14 : decode cX9_isWhole 14 = .ok (.aload_n 0, 1) := dg_cX9_isWhole_173.2.2.2.2.2.2.2.2.1
theorem dX9_isWhole_15 : decode cX9_isWhole 15 = .ok (.getfield 33, 3) := dg_cX9_isWhole_173.2.2.2.2.2.2.2.2.2.1
theorem dX9_isWhole_18 : decode cX9_isWhole 18 = .ok (.getfield 56, 3) := dg_cX9_isWhole_173.2.2.2.2.2.2.2.2.2.2.1
theorem dX9_isWhole_21 : decode cX9_isWhole 21 = .ok (.iload_n 1, 1) := dg_cX9_isWhole_173.2.2.2.2.2.2.2.2.2.2.2.1
theorem dX9_isWhole_22 : decode cX9_isWhole 22 = .ok (.iaload, 1) := dg_cX9_isWhole_173.2.2.2.2.2.2.2.2.2.2.2.2.1
theorem dX9_isWhole_23 : decode cX9_isWhole 23 = .ok (.invokevirtual 59, 3) := dg_cX9_isWhole_173.2.2.2.2.2.2.2.2.2.2.2.2.2.1
theorem dX9_isWhole_26 : decode cX9_isWhole 26 = .ok (.ifCond .eq 33, 3) := dg_cX9_isWhole_173.2.2.2.2.2.2.2.2.2.2.2.2.2.2.1
theorem dX9_isWhole_29 : decode cX9_isWhole 29 = .ok (.aload_n 0, 1) := dg_cX9_isWhole_173.2.2.2.2.2.2.2.2.2.2.2.2.2.2.2
set_option maxRecDepth 100000 in
theorem dg_cX9_isWhole_174 : (decode cX9_isWhole 30 = .ok (.getfield 33, 3)) ∧ (decode cX9_isWhole 33 = .ok (.getfield 63, 3)) ∧ (decode cX9_isWhole 36 = .ok (.iload_n 1, 1)) ∧ (decode cX9_isWhole 37 = .ok (.iaload, 1)) ∧ (decode cX9_isWhole 38 = .ok (.bipush (-4), 2)) ∧ (decode cX9_isWhole 40 = .ok (.if_icmp .eq 21, 3)) ∧ (decode cX9_isWhole 43 = .ok (.aload_n 0, 1)) ∧ (decode cX9_isWhole 44 = .ok (.aload_n 0, 1)) ∧ (decode cX9_isWhole 45 = .ok (.getfield 33, 3)) ∧ (decode cX9_isWhole 48 = .ok (.getfield 63, 3)) ∧ (decode cX9_isWhole 51 = .ok (.iload_n 1, 1)) ∧ (decode cX9_isWhole 52 = .ok (.iaload, 1)) ∧ (decode cX9_isWhole 53 = .ok (.invokevirtual 59, 3)) ∧ (decode cX9_isWhole 56 = .ok (.ifCond .ne 5, 3)) ∧ (decode cX9_isWhole 59 = .ok (.iconst 0, 1)) ∧ (decode cX9_isWhole 60 = .ok (.ireturn, 1)) := by decide +kernel
theorem dX9_isWhole_30 : decode cX9_isWhole 30 = .ok (.getfield 33, 3) := dg_cX9_isWhole_174.1
theorem dX9_isWhole_33 : decode cX9_isWhole 33 = .ok (.getfield 63, 3) := dg_cX9_isWhole_174.2.1
theorem dX9_isWhole_36 : decode cX9_isWhole 36 = .ok (.iload_n 1, 1) := dg_cX9_isWhole_174.2.2.1
theorem dX9_isWhole_37 : decode cX9_isWhole 37 = .ok (.iaload, 1) := dg_cX9_isWhole_174.2.2.2.1
theorem dX9_isWhole_38 : decode cX9_isWhole 38 = .ok (.bipush (-4), 2) := dg_cX9_isWhole_174.2.2.2.2.1
theorem dX9_isWhole_40 : decode cX9_isWhole 40 = .ok (.if_icmp .eq 21, 3) := dg_cX9_isWhole_174.2.2.2.2.2.1
theorem dX9_isWhole_43 : decode cX9_isWhole 43 = .ok (.aload_n 0, 1) := dg_cX9_isWhole_174.2.2.2.2.2.2.1
theorem dX9_isWhole_44 : decode cX9_isWhole 44 = .ok (.aload_n 0, 1) := dg_cX9_isWhole_174.2.2.2.2.2.2.2.1
theorem dX9_isWhole_45 : decode cX9_isWhole 45 = .ok (.getfield 33, 3) := dg_cX9_isWhole_174.2.2.2.2.2.2.2.2.1
theorem dX9_isWhole_48 : decode cX9_isWhole 48 = .ok (.getfield 63, 3) := dg_cX9_isWhole_174.2.2.2.2.2.2.2.2.2.1
theorem dX9_isWhole_51 : decode cX9_isWhole 51 = .ok (.iload_n 1, 1) := dg_cX9_isWhole_174.2.2.2.2.2.2.2.2.2.2.1
theorem dX9_isWhole_52 : decode cX9_isWhole 52 = .ok (.iaload, 1) := dg_cX9_isWhole_174.2.2.2.2.2.2.2.2.2.2.2.1
theorem dX9_isWhole_53 : decode cX9_isWhole 53 = .ok (.invokevirtual 59, 3) := dg_cX9_isWhole_174.2.2.2.2.2.2.2.2.2.2.2.2.1
theorem dX9_isWhole_56 : decode cX9_isWhole 56 = .ok (.ifCond .ne 5, 3) := dg_cX9_isWhole_174.2.2.2.2.2.2.2.2.2.2.2.2.2.1
theorem dX9_isWhole_59 : decode cX9_isWhole 59 = .ok (.iconst 0, 1) := dg_cX9_isWhole_174.2.2.2.2.2.2.2.2.2.2.2.2.2.2.1
theorem dX9_isWhole_60 : decode cX9_isWhole 60 = .ok (.ireturn, 1) := dg_cX9_isWhole_174.2.2.2.2.2.2.2.2.2.2.2.2.2.2.2
set_option maxRecDepth 100000 in
theorem dg_cX9_isWhole_175 : (decode cX9_isWhole 61 = .ok (.iinc 1 1, 3)) ∧ (decode cX9_isWhole 64 = .ok (.goto (-62), 3)) ∧ (decode cX9_isWhole 67 = .ok (.aload_n 0, 1)) ∧ (decode cX9_isWhole 68 = .ok (.getfield 9, 3)) ∧ (decode cX9_isWhole 71 = .ok (.istore_n 1, 1)) ∧ (decode cX9_isWhole 72 = .ok (.iload_n 1, 1)) ∧ (decode cX9_isWhole 73 = .ok (.bipush 6, 2)) ∧ (decode cX9_isWhole 75 = .ok (.if_icmp .ge 23, 3)) ∧ (decode cX9_isWhole 78 = .ok (.aload_n 0, 1)) ∧ (decode cX9_isWhole 79 = .ok (.getfield 33, 3)) ∧ (decode cX9_isWhole 82 = .ok (.getfield 66, 3)) ∧ (decode cX9_isWhole 85 = .ok (.iload_n 1, 1)) ∧ (decode cX9_isWhole 86 = .ok (.iaload, 1)) ∧ (decode cX9_isWhole 87 = .ok (.ifCond .eq 5, 3)) ∧ (decode cX9_isWhole 90 = .ok (.iconst 0, 1)) ∧ (decode cX9_isWhole 91 = .ok (.ireturn, 1)) := by decide +kernel
theorem dX9_isWhole_61 : decode cX9_isWhole 61 = .ok (.iinc 1 1, 3) := dg_cX9_isWhole_175.1
theorem dX9_isWhole_64 : decode cX9_isWhole 64 = .ok (.goto (-62), 3) := dg_cX9_isWhole_175.2.1
theorem dX9_isWhole_67 : decode cX9_isWhole 67 = .ok (.aload_n 0, 1) := dg_cX9_isWhole_175.2.2.1
theorem dX9_isWhole_68 : decode cX9_isWhole 68 = .ok (.getfield 9, 3) := dg_cX9_isWhole_175.2.2.2.1
theorem dX9_isWhole_71 : decode cX9_isWhole 71 = .ok (.istore_n 1, 1) := dg_cX9_isWhole_175.2.2.2.2.1
theorem dX9_isWhole_72 : decode cX9_isWhole 72 = .ok (.iload_n 1, 1) := dg_cX9_isWhole_175.2.2.2.2.2.1
theorem dX9_isWhole_73 : decode cX9_isWhole 73 = .ok (.bipush 6, 2) := dg_cX9_isWhole_175.2.2.2.2.2.2.1
theorem dX9_isWhole_75 : decode cX9_isWhole 75 = .ok (.if_icmp .ge 23, 3) := dg_cX9_isWhole_175.2.2.2.2.2.2.2.1
theorem dX9_isWhole_78 : decode cX9_isWhole 78 = .ok (.aload_n 0, 1) := dg_cX9_isWhole_175.2.2.2.2.2.2.2.2.1
theorem dX9_isWhole_79 : decode cX9_isWhole 79 = .ok (.getfield 33, 3) := dg_cX9_isWhole_175.2.2.2.2.2.2.2.2.2.1
theorem dX9_isWhole_82 : decode cX9_isWhole 82 = .ok (.getfield 66, 3) := dg_cX9_isWhole_175.2.2.2.2.2.2.2.2.2.2.1
theorem dX9_isWhole_85 : decode cX9_isWhole 85 = .ok (.iload_n 1, 1) := dg_cX9_isWhole_175.2.2.2.2.2.2.2.2.2.2.2.1
theorem dX9_isWhole_86 : decode cX9_isWhole 86 = .ok (.iaload, 1) := dg_cX9_isWhole_175.2.2.2.2.2.2.2.2.2.2.2.2.1
theorem dX9_isWhole_87 : decode cX9_isWhole 87 = .ok (.ifCond .eq 5, 3) := dg_cX9_isWhole_175.2.2.2.2.2.2.2.2.2.2.2.2.2.1
theorem dX9_isWhole_90 : decode cX9_isWhole 90 = .ok (.iconst 0, 1) := dg_cX9_isWhole_175.2.2.2.2.2.2.2.2.2.2.2.2.2.2.1
theorem dX9_isWhole_91 : decode cX9_isWhole 91 = .ok (.ireturn, 1) := dg_cX9_isWhole_175.2.2.2.2.2.2.2.2.2.2.2.2.2.2.2
set_option maxRecDepth 100000 in
theorem dg_cX9_isWhole_176 : (decode cX9_isWhole 92 = .ok (.iinc 1 1, 3)) ∧ (decode cX9_isWhole 95 = .ok (.goto (-23), 3)) ∧ (decode cX9_isWhole 98 = .ok (.iconst 0, 1)) ∧ (decode cX9_isWhole 99 = .ok (.istore_n 1, 1)) ∧ (decode cX9_isWhole 100 = .ok (.iload_n 1, 1)) ∧ (decode cX9_isWhole 101 = .ok (.aload_n 0, 1)) ∧ (decode cX9_isWhole 102 = .ok (.getfield 37, 3)) ∧ (decode cX9_isWhole 105 = .ok (.if_icmp .ge 47, 3)) ∧ (decode cX9_isWhole 108 = .ok (.iconst 0, 1)) ∧ (decode cX9_isWhole 109 = .ok (.istore_n 2, 1)) ∧ (decode cX9_isWhole 110 = .ok (.iload_n 2, 1)) ∧ (decode cX9_isWhole 111 = .ok (.aload_n 0, 1)) ∧ (decode cX9_isWhole 112 = .ok (.getfield 22, 3)) ∧ (decode cX9_isWhole 115 = .ok (.iload_n 1, 1)) ∧ (decode cX9_isWhole 116 = .ok (.iaload, 1)) ∧ (decode cX9_isWhole 117 = .ok (.if_icmp .ge 29, 3)) := by decide +kernel
theorem dX9_isWhole_92 : decode cX9_isWhole 92 = .ok (.iinc 1 1, 3) := dg_cX9_isWhole_176.1
theorem dX9_isWhole_95 : decode cX9_isWhole 95 = .ok (.goto (-23), 3) := dg_cX9_isWhole_176.2.1
theorem dX9_isWhole_98 : decode cX9_isWhole 98 = .ok (.iconst 0, 1) := dg_cX9_isWhole_176.2.2.1
theorem dX9_isWhole_99 : decode cX9_isWhole 99 = .ok (.istore_n 1, 1) := dg_cX9_isWhole_176.2.2.2.1
theorem dX9_isWhole_100 : decode cX9_isWhole 100 = .ok (.iload_n 1, 1) := dg_cX9_isWhole_176.2.2.2.2.1
theorem dX9_isWhole_101 : decode cX9_isWhole 101 = .ok (.aload_n 0, 1) := dg_cX9_isWhole_176.2.2.2.2.2.1
theorem dX9_isWhole_102 : decode cX9_isWhole 102 = .ok (.getfield 37, 3) := dg_cX9_isWhole_176.2.2.2.2.2.2.1
theorem dX9_isWhole_105 : decode cX9_isWhole 105 = .ok (.if_icmp .ge 47, 3) := dg_cX9_isWhole_176.2.2.2.2.2.2.2.1
theorem dX9_isWhole_108 : decode cX9_isWhole 108 = .ok (.iconst 0, 1) := dg_cX9_isWhole_176.2.2.2.2.2.2.2.2.1
theorem dX9_isWhole_109 : decode cX9_isWhole 109 = .ok (.istore_n 2, 1) := dg_cX9_isWhole_176.2.2.2.2.2.2.2.2.2.1
theorem dX9_isWhole_110 : decode cX9_isWhole 110 = .ok (.iload_n 2, 1) := dg_cX9_isWhole_176.2.2.2.2.2.2.2.2.2.2.1
theorem dX9_isWhole_111 : decode cX9_isWhole 111 = .ok (.aload_n 0, 1) := dg_cX9_isWhole_176.2.2.2.2.2.2.2.2.2.2.2.1
theorem dX9_isWhole_112 : decode cX9_isWhole 112 = .ok (.getfield 22, 3) := dg_cX9_isWhole_176.2.2.2.2.2.2.2.2.2.2.2.2.1
theorem dX9_isWhole_115 : decode cX9_isWhole 115 = .ok (.iload_n 1, 1) := dg_cX9_isWhole_176.2.2.2.2.2.2.2.2.2.2.2.2.2.1
theorem dX9_isWhole_116 : decode cX9_isWhole 116 = .ok (.iaload, 1) := dg_cX9_isWhole_176.2.2.2.2.2.2.2.2.2.2.2.2.2.2.1
theorem dX9_isWhole_117 : decode cX9_isWhole 117 = .ok (.if_icmp .ge 29, 3) := dg_cX9_isWhole_176.2.2.2.2.2.2.2.2.2.2.2.2.2.2.2
set_option maxRecDepth 100000 in
theorem dg_cX9_isWhole_177 : (decode cX9_isWhole 120 = .ok (.aload_n 0, 1)) ∧ (decode cX9_isWhole 121 = .ok (.getfield 33, 3)) ∧ (decode cX9_isWhole 124 = .ok (.aload_n 0, 1)) ∧ (decode cX9_isWhole 125 = .ok (.getfield 27, 3)) ∧ (decode cX9_isWhole 128 = .ok (.iload_n 1, 1)) ∧ (decode cX9_isWhole 129 = .ok (.aaload, 1)) ∧ (decode cX9_isWhole 130 = .ok (.iload_n 2, 1)) ∧ (decode cX9_isWhole 131 = .ok (.iaload, 1)) ∧ (decode cX9_isWhole 132 = .ok (.invokevirtual 69, 3)) ∧ (decode cX9_isWhole 135 = .ok (.ifCond .ne 5, 3)) ∧ (decode cX9_isWhole 138 = .ok (.iconst 0, 1)) ∧ (decode cX9_isWhole 139 = .ok (.ireturn, 1)) ∧ (decode cX9_isWhole 140 = .ok (.iinc 2 1, 3)) ∧ (decode cX9_isWhole 143 = .ok (.goto (-33), 3)) ∧ (decode cX9_isWhole 146 = .ok (.iinc 1 1, 3)) ∧ (decode cX9_isWhole 149 = .ok (.goto (-49), 3)) := by decide +kernel
theorem dX9_isWhole_120 : decode cX9_isWhole 120 = .ok (.aload_n 0, 1) := dg_cX9_isWhole_177.1
theorem dX9_isWhole_121 : decode cX9_isWhole 121 = .ok (.getfield 33, 3) := dg_cX9_isWhole_177.2.1
theorem dX9_isWhole_124 : decode cX9_isWhole 124 = .ok (.aload_n 0, 1) := dg_cX9_isWhole_177.2.2.1
theorem dX9_isWhole_125 : decode cX9_isWhole 125 = .ok (.getfield 27, 3) := dg_cX9_isWhole_177.2.2.2.1
theorem dX9_isWhole_128 : decode cX9_isWhole 128 = .ok (.iload_n 1, 1) := dg_cX9_isWhole_177.2.2.2.2.1
theorem dX9_isWhole_129 : decode cX9_isWhole 129 = .ok (.aaload, 1) := dg_cX9_isWhole_177.2.2.2.2.2.1
theorem dX9_isWhole_130 : decode cX9_isWhole 130 = .ok (.iload_n 2, 1) := dg_cX9_isWhole_177.2.2.2.2.2.2.1
theorem dX9_isWhole_131 : decode cX9_isWhole 131 = .ok (.iaload, 1) := dg_cX9_isWhole_177.2.2.2.2.2.2.2.1
theorem dX9_isWhole_132 : decode cX9_isWhole 132 = .ok (.invokevirtual 69, 3) := dg_cX9_isWhole_177.2.2.2.2.2.2.2.2.1
theorem dX9_isWhole_135 : decode cX9_isWhole 135 = .ok (.ifCond .ne 5, 3) := dg_cX9_isWhole_177.2.2.2.2.2.2.2.2.2.1
theorem dX9_isWhole_138 : decode cX9_isWhole 138 = .ok (.iconst 0, 1) := dg_cX9_isWhole_177.2.2.2.2.2.2.2.2.2.2.1
theorem dX9_isWhole_139 : decode cX9_isWhole 139 = .ok (.ireturn, 1) := dg_cX9_isWhole_177.2.2.2.2.2.2.2.2.2.2.2.1
theorem dX9_isWhole_140 : decode cX9_isWhole 140 = .ok (.iinc 2 1, 3) := dg_cX9_isWhole_177.2.2.2.2.2.2.2.2.2.2.2.2.1
theorem dX9_isWhole_143 : decode cX9_isWhole 143 = .ok (.goto (-33), 3) := dg_cX9_isWhole_177.2.2.2.2.2.2.2.2.2.2.2.2.2.1
theorem dX9_isWhole_146 : decode cX9_isWhole 146 = .ok (.iinc 1 1, 3) := dg_cX9_isWhole_177.2.2.2.2.2.2.2.2.2.2.2.2.2.2.1
theorem dX9_isWhole_149 : decode cX9_isWhole 149 = .ok (.goto (-49), 3) := dg_cX9_isWhole_177.2.2.2.2.2.2.2.2.2.2.2.2.2.2.2
set_option maxRecDepth 100000 in
theorem dg_cX9_isWhole_178 : (decode cX9_isWhole 152 = .ok (.iconst 1, 1)) ∧ (decode cX9_isWhole 153 = .ok (.ireturn, 1)) := by decide +kernel
theorem dX9_isWhole_152 : decode cX9_isWhole 152 = .ok (.iconst 1, 1) := dg_cX9_isWhole_178.1
theorem dX9_isWhole_153 : decode cX9_isWhole 153 = .ok (.ireturn, 1) := dg_cX9_isWhole_178.2
