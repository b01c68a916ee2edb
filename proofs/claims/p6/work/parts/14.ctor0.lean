set_option maxHeartbeats 4000000 in
set_option maxRecDepth 100000 in
theorem ck_X8_1 (l : Launch) (dC : Nat → ClassId) (dI : Nat → Nat → Nat) (ad : Nat → Nat) (cy : Nat → ClassId) (z : Nat) (hz : adz ad z) : ConK l yX8_init cX8_init 1 { frames := 1, cells := 1, slots := 320, locals := 12 } dC dI ad cy z 2 3 [.ref (ad 1)] [] [(1, 0, 2)] 1 320 := by
  refine con_k (own := RX8) hz (by decide) rfl rfl (Nat.le_of_ble_eq_true rfl) (fun p e s m below meth c σ ρ C hin hr hF hx => ?_)
  show Gk p l e _ s m _ below meth c _ dC dI ad cy 1 z σ ρ 0 0 2 [] [] 0 [(0, .ref (ad 1))] []
  refine k_aload_n C dX8_init_0 rfl 0 rfl ?_
  refine k_obj C hM_X8_3 ⟨(Nat.le_of_ble_eq_true rfl), (Nat.le_of_ble_eq_true rfl)⟩ dX8_init_1 ?_
  refine k_aload_n C dX8_init_4 rfl 0 rfl ?_
  refine k_sipush (v := 320) C dX8_init_5 (by decide) ?_
  refine k_newa (ty := .byte) (N := 320) (cq := 1) (nc2 := 1) (ns2 := 320) C (Fr.r ad _ (Fr.s _ (hF.mono (Nat.le_of_ble_eq_true rfl)) rfl) rfl) (by decide) rfl hA_byte (arr_name C.2.2.2.2.2.1).2.1 rfl rfl (by decide) (by decide) (by decide) (Nat.le_of_ble_eq_true rfl) (Nat.le_of_ble_eq_true rfl) rfl rfl dX8_init_8 ?_
  refine k_putF (kc := 1) (t := 2) (ci := 8) (ty := .array .byte) (lR2 := [(1, 0, 2)]) C hin (by decide) (by decide) rfl rfl hin_X8 tyX8 tyX8_ok nmX8 0 (by decide) hF_X8_9 rfl rfl rfl (by decide +kernel) rfl rfl (Nat.le_of_ble_eq_true rfl) rfl rfl dX8_init_10 ?_
  exact k_vret C hr dX8_init_13
set_option maxHeartbeats 4000000 in
set_option maxRecDepth 100000 in
theorem ck_X1_14 (l : Launch) (dC : Nat → ClassId) (dI : Nat → Nat → Nat) (ad : Nat → Nat) (cy : Nat → ClassId) (z : Nat) (hz : adz ad z) : ConK l yX1_init cX1_init 1 { frames := 1, cells := 7, slots := 78, locals := 12 } dC dI ad cy z 15 22 [.ref (ad 14)] [] [(14, 1, 15), (14, 2, 16), (14, 3, 17), (14, 4, 18), (14, 5, 19), (14, 6, 20), (14, 8, 21)] 7 78 := by
  refine con_k (own := RX1) hz (by decide) rfl rfl (Nat.le_of_ble_eq_true rfl) (fun p e s m below meth c σ ρ C hin hr hF hx => ?_)
  show Gk p l e _ s m _ below meth c _ dC dI ad cy 1 z σ ρ 0 0 15 [] [] 0 [(0, .ref (ad 14))] []
  refine k_aload_n C dX1_init_0 rfl 0 rfl ?_
  refine k_obj C hM_X1_3 ⟨(Nat.le_of_ble_eq_true rfl), (Nat.le_of_ble_eq_true rfl)⟩ dX1_init_1 ?_
  refine k_aload_n C dX1_init_4 rfl 0 rfl ?_
  refine k_bipush (v := 12) C dX1_init_5 (by decide) ?_
  refine k_newa (ty := .int) (N := 12) (cq := 0) (nc2 := 1) (ns2 := 12) C (Fr.r ad _ (Fr.s _ (hF.mono (Nat.le_of_ble_eq_true rfl)) rfl) rfl) (by decide) rfl hA_int (arr_name C.2.2.2.2.2.1).1 rfl rfl (by decide) (by decide) (by decide) (Nat.le_of_ble_eq_true rfl) (Nat.le_of_ble_eq_true rfl) rfl rfl dX1_init_7 ?_
  refine k_putF (kc := 14) (t := 15) (ci := 1) (ty := .array .int) (lR2 := [(14, 1, 15)]) C hin (by decide) (by decide) rfl rfl hin_X1 tyX1 tyX1_ok nmX1 1 (by decide) hF_X1_9 rfl rfl rfl (by decide +kernel) rfl rfl (Nat.le_of_ble_eq_true rfl) rfl rfl dX1_init_9 ?_
  refine k_aload_n C dX1_init_12 rfl 0 rfl ?_
  refine k_bipush (v := 12) C dX1_init_13 (by decide) ?_
  refine k_newa (ty := .int) (N := 12) (cq := 0) (nc2 := 2) (ns2 := 24) C (Fr.r ad _ (Fr.s _ (hF.mono (Nat.le_of_ble_eq_true rfl)) rfl) rfl) (by decide) rfl hA_int (arr_name C.2.2.2.2.2.1).1 rfl rfl (by decide) (by decide) (by decide) (Nat.le_of_ble_eq_true rfl) (Nat.le_of_ble_eq_true rfl) rfl rfl dX1_init_15 ?_
  refine k_putF (kc := 14) (t := 16) (ci := 1) (ty := .array .int) (lR2 := [(14, 1, 15), (14, 2, 16)]) C hin (by decide) (by decide) rfl rfl hin_X1 tyX1 tyX1_ok nmX1 2 (by decide) hF_X1_15 rfl rfl rfl (by decide +kernel) rfl rfl (Nat.le_of_ble_eq_true rfl) rfl rfl dX1_init_17 ?_
  refine k_aload_n C dX1_init_20 rfl 0 rfl ?_
  refine k_bipush (v := 12) C dX1_init_21 (by decide) ?_
  refine k_newa (ty := .int) (N := 12) (cq := 0) (nc2 := 3) (ns2 := 36) C (Fr.r ad _ (Fr.s _ (hF.mono (Nat.le_of_ble_eq_true rfl)) rfl) rfl) (by decide) rfl hA_int (arr_name C.2.2.2.2.2.1).1 rfl rfl (by decide) (by decide) (by decide) (Nat.le_of_ble_eq_true rfl) (Nat.le_of_ble_eq_true rfl) rfl rfl dX1_init_23 ?_
  refine k_putF (kc := 14) (t := 17) (ci := 1) (ty := .array .int) (lR2 := [(14, 1, 15), (14, 2, 16), (14, 3, 17)]) C hin (by decide) (by decide) rfl rfl hin_X1 tyX1 tyX1_ok nmX1 3 (by decide) hF_X1_18 rfl rfl rfl (by decide +kernel) rfl rfl (Nat.le_of_ble_eq_true rfl) rfl rfl dX1_init_25 ?_
  refine k_aload_n C dX1_init_28 rfl 0 rfl ?_
  refine k_bipush (v := 12) C dX1_init_29 (by decide) ?_
  refine k_newa (ty := .int) (N := 12) (cq := 0) (nc2 := 4) (ns2 := 48) C (Fr.r ad _ (Fr.s _ (hF.mono (Nat.le_of_ble_eq_true rfl)) rfl) rfl) (by decide) rfl hA_int (arr_name C.2.2.2.2.2.1).1 rfl rfl (by decide) (by decide) (by decide) (Nat.le_of_ble_eq_true rfl) (Nat.le_of_ble_eq_true rfl) rfl rfl dX1_init_31 ?_
  refine k_putF (kc := 14) (t := 18) (ci := 1) (ty := .array .int) (lR2 := [(14, 1, 15), (14, 2, 16), (14, 3, 17), (14, 4, 18)]) C hin (by decide) (by decide) rfl rfl hin_X1 tyX1 tyX1_ok nmX1 4 (by decide) hF_X1_21 rfl rfl rfl (by decide +kernel) rfl rfl (Nat.le_of_ble_eq_true rfl) rfl rfl dX1_init_33 ?_
  refine k_aload_n C dX1_init_36 rfl 0 rfl ?_
  refine k_bipush (v := 12) C dX1_init_37 (by decide) ?_
  refine k_newa (ty := .int) (N := 12) (cq := 0) (nc2 := 5) (ns2 := 60) C (Fr.r ad _ (Fr.s _ (hF.mono (Nat.le_of_ble_eq_true rfl)) rfl) rfl) (by decide) rfl hA_int (arr_name C.2.2.2.2.2.1).1 rfl rfl (by decide) (by decide) (by decide) (Nat.le_of_ble_eq_true rfl) (Nat.le_of_ble_eq_true rfl) rfl rfl dX1_init_39 ?_
  refine k_putF (kc := 14) (t := 19) (ci := 1) (ty := .array .int) (lR2 := [(14, 1, 15), (14, 2, 16), (14, 3, 17), (14, 4, 18), (14, 5, 19)]) C hin (by decide) (by decide) rfl rfl hin_X1 tyX1 tyX1_ok nmX1 5 (by decide) hF_X1_24 rfl rfl rfl (by decide +kernel) rfl rfl (Nat.le_of_ble_eq_true rfl) rfl rfl dX1_init_41 ?_
  refine k_aload_n C dX1_init_44 rfl 0 rfl ?_
  refine k_bipush (v := 6) C dX1_init_45 (by decide) ?_
  refine k_newa (ty := .int) (N := 6) (cq := 0) (nc2 := 6) (ns2 := 66) C (Fr.r ad _ (Fr.s _ (hF.mono (Nat.le_of_ble_eq_true rfl)) rfl) rfl) (by decide) rfl hA_int (arr_name C.2.2.2.2.2.1).1 rfl rfl (by decide) (by decide) (by decide) (Nat.le_of_ble_eq_true rfl) (Nat.le_of_ble_eq_true rfl) rfl rfl dX1_init_47 ?_
  refine k_putF (kc := 14) (t := 20) (ci := 1) (ty := .array .int) (lR2 := [(14, 1, 15), (14, 2, 16), (14, 3, 17), (14, 4, 18), (14, 5, 19), (14, 6, 20)]) C hin (by decide) (by decide) rfl rfl hin_X1 tyX1 tyX1_ok nmX1 6 (by decide) hF_X1_27 rfl rfl rfl (by decide +kernel) rfl rfl (Nat.le_of_ble_eq_true rfl) rfl rfl dX1_init_49 ?_
  refine k_aload_n C dX1_init_52 rfl 0 rfl ?_
  refine k_bipush (v := 12) C dX1_init_53 (by decide) ?_
  refine k_newa (ty := .int) (N := 12) (cq := 0) (nc2 := 7) (ns2 := 78) C (Fr.r ad _ (Fr.s _ (hF.mono (Nat.le_of_ble_eq_true rfl)) rfl) rfl) (by decide) rfl hA_int (arr_name C.2.2.2.2.2.1).1 rfl rfl (by decide) (by decide) (by decide) (Nat.le_of_ble_eq_true rfl) (Nat.le_of_ble_eq_true rfl) rfl rfl dX1_init_55 ?_
  refine k_putF (kc := 14) (t := 21) (ci := 1) (ty := .array .int) (lR2 := [(14, 1, 15), (14, 2, 16), (14, 3, 17), (14, 4, 18), (14, 5, 19), (14, 6, 20), (14, 8, 21)]) C hin (by decide) (by decide) rfl rfl hin_X1 tyX1 tyX1_ok nmX1 8 (by decide) hF_X1_30 rfl rfl rfl (by decide +kernel) rfl rfl (Nat.le_of_ble_eq_true rfl) rfl rfl dX1_init_57 ?_
  exact k_vret C hr dX1_init_60
set_option maxHeartbeats 4000000 in
set_option maxRecDepth 100000 in
theorem ck_X1_32 (l : Launch) (dC : Nat → ClassId) (dI : Nat → Nat → Nat) (ad : Nat → Nat) (cy : Nat → ClassId) (z : Nat) (hz : adz ad z) : ConK l yX1_init cX1_init 1 { frames := 1, cells := 7, slots := 78, locals := 12 } dC dI ad cy z 33 40 [.ref (ad 32)] [] [(32, 1, 33), (32, 2, 34), (32, 3, 35), (32, 4, 36), (32, 5, 37), (32, 6, 38), (32, 8, 39)] 7 78 := by
  refine con_k (own := RX1) hz (by decide) rfl rfl (Nat.le_of_ble_eq_true rfl) (fun p e s m below meth c σ ρ C hin hr hF hx => ?_)
  show Gk p l e _ s m _ below meth c _ dC dI ad cy 1 z σ ρ 0 0 33 [] [] 0 [(0, .ref (ad 32))] []
  refine k_aload_n C dX1_init_0 rfl 0 rfl ?_
  refine k_obj C hM_X1_3 ⟨(Nat.le_of_ble_eq_true rfl), (Nat.le_of_ble_eq_true rfl)⟩ dX1_init_1 ?_
  refine k_aload_n C dX1_init_4 rfl 0 rfl ?_
  refine k_bipush (v := 12) C dX1_init_5 (by decide) ?_
  refine k_newa (ty := .int) (N := 12) (cq := 0) (nc2 := 1) (ns2 := 12) C (Fr.r ad _ (Fr.s _ (hF.mono (Nat.le_of_ble_eq_true rfl)) rfl) rfl) (by decide) rfl hA_int (arr_name C.2.2.2.2.2.1).1 rfl rfl (by decide) (by decide) (by decide) (Nat.le_of_ble_eq_true rfl) (Nat.le_of_ble_eq_true rfl) rfl rfl dX1_init_7 ?_
  refine k_putF (kc := 32) (t := 33) (ci := 1) (ty := .array .int) (lR2 := [(32, 1, 33)]) C hin (by decide) (by decide) rfl rfl hin_X1 tyX1 tyX1_ok nmX1 1 (by decide) hF_X1_9 rfl rfl rfl (by decide +kernel) rfl rfl (Nat.le_of_ble_eq_true rfl) rfl rfl dX1_init_9 ?_
  refine k_aload_n C dX1_init_12 rfl 0 rfl ?_
  refine k_bipush (v := 12) C dX1_init_13 (by decide) ?_
  refine k_newa (ty := .int) (N := 12) (cq := 0) (nc2 := 2) (ns2 := 24) C (Fr.r ad _ (Fr.s _ (hF.mono (Nat.le_of_ble_eq_true rfl)) rfl) rfl) (by decide) rfl hA_int (arr_name C.2.2.2.2.2.1).1 rfl rfl (by decide) (by decide) (by decide) (Nat.le_of_ble_eq_true rfl) (Nat.le_of_ble_eq_true rfl) rfl rfl dX1_init_15 ?_
  refine k_putF (kc := 32) (t := 34) (ci := 1) (ty := .array .int) (lR2 := [(32, 1, 33), (32, 2, 34)]) C hin (by decide) (by decide) rfl rfl hin_X1 tyX1 tyX1_ok nmX1 2 (by decide) hF_X1_15 rfl rfl rfl (by decide +kernel) rfl rfl (Nat.le_of_ble_eq_true rfl) rfl rfl dX1_init_17 ?_
  refine k_aload_n C dX1_init_20 rfl 0 rfl ?_
  refine k_bipush (v := 12) C dX1_init_21 (by decide) ?_
  refine k_newa (ty := .int) (N := 12) (cq := 0) (nc2 := 3) (ns2 := 36) C (Fr.r ad _ (Fr.s _ (hF.mono (Nat.le_of_ble_eq_true rfl)) rfl) rfl) (by decide) rfl hA_int (arr_name C.2.2.2.2.2.1).1 rfl rfl (by decide) (by decide) (by decide) (Nat.le_of_ble_eq_true rfl) (Nat.le_of_ble_eq_true rfl) rfl rfl dX1_init_23 ?_
  refine k_putF (kc := 32) (t := 35) (ci := 1) (ty := .array .int) (lR2 := [(32, 1, 33), (32, 2, 34), (32, 3, 35)]) C hin (by decide) (by decide) rfl rfl hin_X1 tyX1 tyX1_ok nmX1 3 (by decide) hF_X1_18 rfl rfl rfl (by decide +kernel) rfl rfl (Nat.le_of_ble_eq_true rfl) rfl rfl dX1_init_25 ?_
  refine k_aload_n C dX1_init_28 rfl 0 rfl ?_
  refine k_bipush (v := 12) C dX1_init_29 (by decide) ?_
  refine k_newa (ty := .int) (N := 12) (cq := 0) (nc2 := 4) (ns2 := 48) C (Fr.r ad _ (Fr.s _ (hF.mono (Nat.le_of_ble_eq_true rfl)) rfl) rfl) (by decide) rfl hA_int (arr_name C.2.2.2.2.2.1).1 rfl rfl (by decide) (by decide) (by decide) (Nat.le_of_ble_eq_true rfl) (Nat.le_of_ble_eq_true rfl) rfl rfl dX1_init_31 ?_
  refine k_putF (kc := 32) (t := 36) (ci := 1) (ty := .array .int) (lR2 := [(32, 1, 33), (32, 2, 34), (32, 3, 35), (32, 4, 36)]) C hin (by decide) (by decide) rfl rfl hin_X1 tyX1 tyX1_ok nmX1 4 (by decide) hF_X1_21 rfl rfl rfl (by decide +kernel) rfl rfl (Nat.le_of_ble_eq_true rfl) rfl rfl dX1_init_33 ?_
  refine k_aload_n C dX1_init_36 rfl 0 rfl ?_
  refine k_bipush (v := 12) C dX1_init_37 (by decide) ?_
  refine k_newa (ty := .int) (N := 12) (cq := 0) (nc2 := 5) (ns2 := 60) C (Fr.r ad _ (Fr.s _ (hF.mono (Nat.le_of_ble_eq_true rfl)) rfl) rfl) (by decide) rfl hA_int (arr_name C.2.2.2.2.2.1).1 rfl rfl (by decide) (by decide) (by decide) (Nat.le_of_ble_eq_true rfl) (Nat.le_of_ble_eq_true rfl) rfl rfl dX1_init_39 ?_
  refine k_putF (kc := 32) (t := 37) (ci := 1) (ty := .array .int) (lR2 := [(32, 1, 33), (32, 2, 34), (32, 3, 35), (32, 4, 36), (32, 5, 37)]) C hin (by decide) (by decide) rfl rfl hin_X1 tyX1 tyX1_ok nmX1 5 (by decide) hF_X1_24 rfl rfl rfl (by decide +kernel) rfl rfl (Nat.le_of_ble_eq_true rfl) rfl rfl dX1_init_41 ?_
  refine k_aload_n C dX1_init_44 rfl 0 rfl ?_
  refine k_bipush (v := 6) C dX1_init_45 (by decide) ?_
  refine k_newa (ty := .int) (N := 6) (cq := 0) (nc2 := 6) (ns2 := 66) C (Fr.r ad _ (Fr.s _ (hF.mono (Nat.le_of_ble_eq_true rfl)) rfl) rfl) (by decide) rfl hA_int (arr_name C.2.2.2.2.2.1).1 rfl rfl (by decide) (by decide) (by decide) (Nat.le_of_ble_eq_true rfl) (Nat.le_of_ble_eq_true rfl) rfl rfl dX1_init_47 ?_
  refine k_putF (kc := 32) (t := 38) (ci := 1) (ty := .array .int) (lR2 := [(32, 1, 33), (32, 2, 34), (32, 3, 35), (32, 4, 36), (32, 5, 37), (32, 6, 38)]) C hin (by decide) (by decide) rfl rfl hin_X1 tyX1 tyX1_ok nmX1 6 (by decide) hF_X1_27 rfl rfl rfl (by decide +kernel) rfl rfl (Nat.le_of_ble_eq_true rfl) rfl rfl dX1_init_49 ?_
  refine k_aload_n C dX1_init_52 rfl 0 rfl ?_
  refine k_bipush (v := 12) C dX1_init_53 (by decide) ?_
  refine k_newa (ty := .int) (N := 12) (cq := 0) (nc2 := 7) (ns2 := 78) C (Fr.r ad _ (Fr.s _ (hF.mono (Nat.le_of_ble_eq_true rfl)) rfl) rfl) (by decide) rfl hA_int (arr_name C.2.2.2.2.2.1).1 rfl rfl (by decide) (by decide) (by decide) (Nat.le_of_ble_eq_true rfl) (Nat.le_of_ble_eq_true rfl) rfl rfl dX1_init_55 ?_
  refine k_putF (kc := 32) (t := 39) (ci := 1) (ty := .array .int) (lR2 := [(32, 1, 33), (32, 2, 34), (32, 3, 35), (32, 4, 36), (32, 5, 37), (32, 6, 38), (32, 8, 39)]) C hin (by decide) (by decide) rfl rfl hin_X1 tyX1 tyX1_ok nmX1 8 (by decide) hF_X1_30 rfl rfl rfl (by decide +kernel) rfl rfl (Nat.le_of_ble_eq_true rfl) rfl rfl dX1_init_57 ?_
  exact k_vret C hr dX1_init_60
set_option maxHeartbeats 4000000 in
set_option maxRecDepth 100000 in
theorem ck_X1_74 (l : Launch) (dC : Nat → ClassId) (dI : Nat → Nat → Nat) (ad : Nat → Nat) (cy : Nat → ClassId) (z : Nat) (hz : adz ad z) : ConK l yX1_init cX1_init 1 { frames := 1, cells := 7, slots := 78, locals := 12 } dC dI ad cy z 75 82 [.ref (ad 74)] [] [(74, 1, 75), (74, 2, 76), (74, 3, 77), (74, 4, 78), (74, 5, 79), (74, 6, 80), (74, 8, 81)] 7 78 := by
  refine con_k (own := RX1) hz (by decide) rfl rfl (Nat.le_of_ble_eq_true rfl) (fun p e s m below meth c σ ρ C hin hr hF hx => ?_)
  show Gk p l e _ s m _ below meth c _ dC dI ad cy 1 z σ ρ 0 0 75 [] [] 0 [(0, .ref (ad 74))] []
  refine k_aload_n C dX1_init_0 rfl 0 rfl ?_
  refine k_obj C hM_X1_3 ⟨(Nat.le_of_ble_eq_true rfl), (Nat.le_of_ble_eq_true rfl)⟩ dX1_init_1 ?_
  refine k_aload_n C dX1_init_4 rfl 0 rfl ?_
  refine k_bipush (v := 12) C dX1_init_5 (by decide) ?_
  refine k_newa (ty := .int) (N := 12) (cq := 0) (nc2 := 1) (ns2 := 12) C (Fr.r ad _ (Fr.s _ (hF.mono (Nat.le_of_ble_eq_true rfl)) rfl) rfl) (by decide) rfl hA_int (arr_name C.2.2.2.2.2.1).1 rfl rfl (by decide) (by decide) (by decide) (Nat.le_of_ble_eq_true rfl) (Nat.le_of_ble_eq_true rfl) rfl rfl dX1_init_7 ?_
  refine k_putF (kc := 74) (t := 75) (ci := 1) (ty := .array .int) (lR2 := [(74, 1, 75)]) C hin (by decide) (by decide) rfl rfl hin_X1 tyX1 tyX1_ok nmX1 1 (by decide) hF_X1_9 rfl rfl rfl (by decide +kernel) rfl rfl (Nat.le_of_ble_eq_true rfl) rfl rfl dX1_init_9 ?_
  refine k_aload_n C dX1_init_12 rfl 0 rfl ?_
  refine k_bipush (v := 12) C dX1_init_13 (by decide) ?_
  refine k_newa (ty := .int) (N := 12) (cq := 0) (nc2 := 2) (ns2 := 24) C (Fr.r ad _ (Fr.s _ (hF.mono (Nat.le_of_ble_eq_true rfl)) rfl) rfl) (by decide) rfl hA_int (arr_name C.2.2.2.2.2.1).1 rfl rfl (by decide) (by decide) (by decide) (Nat.le_of_ble_eq_true rfl) (Nat.le_of_ble_eq_true rfl) rfl rfl dX1_init_15 ?_
  refine k_putF (kc := 74) (t := 76) (ci := 1) (ty := .array .int) (lR2 := [(74, 1, 75), (74, 2, 76)]) C hin (by decide) (by decide) rfl rfl hin_X1 tyX1 tyX1_ok nmX1 2 (by decide) hF_X1_15 rfl rfl rfl (by decide +kernel) rfl rfl (Nat.le_of_ble_eq_true rfl) rfl rfl dX1_init_17 ?_
  refine k_aload_n C dX1_init_20 rfl 0 rfl ?_
  refine k_bipush (v := 12) C dX1_init_21 (by decide) ?_
  refine k_newa (ty := .int) (N := 12) (cq := 0) (nc2 := 3) (ns2 := 36) C (Fr.r ad _ (Fr.s _ (hF.mono (Nat.le_of_ble_eq_true rfl)) rfl) rfl) (by decide) rfl hA_int (arr_name C.2.2.2.2.2.1).1 rfl rfl (by decide) (by decide) (by decide) (Nat.le_of_ble_eq_true rfl) (Nat.le_of_ble_eq_true rfl) rfl rfl dX1_init_23 ?_
  refine k_putF (kc := 74) (t := 77) (ci := 1) (ty := .array .int) (lR2 := [(74, 1, 75), (74, 2, 76), (74, 3, 77)]) C hin (by decide) (by decide) rfl rfl hin_X1 tyX1 tyX1_ok nmX1 3 (by decide) hF_X1_18 rfl rfl rfl (by decide +kernel) rfl rfl (Nat.le_of_ble_eq_true rfl) rfl rfl dX1_init_25 ?_
  refine k_aload_n C dX1_init_28 rfl 0 rfl ?_
  refine k_bipush (v := 12) C dX1_init_29 (by decide) ?_
  refine k_newa (ty := .int) (N := 12) (cq := 0) (nc2 := 4) (ns2 := 48) C (Fr.r ad _ (Fr.s _ (hF.mono (Nat.le_of_ble_eq_true rfl)) rfl) rfl) (by decide) rfl hA_int (arr_name C.2.2.2.2.2.1).1 rfl rfl (by decide) (by decide) (by decide) (Nat.le_of_ble_eq_true rfl) (Nat.le_of_ble_eq_true rfl) rfl rfl dX1_init_31 ?_
  refine k_putF (kc := 74) (t := 78) (ci := 1) (ty := .array .int) (lR2 := [(74, 1, 75), (74, 2, 76), (74, 3, 77), (74, 4, 78)]) C hin (by decide) (by decide) rfl rfl hin_X1 tyX1 tyX1_ok nmX1 4 (by decide) hF_X1_21 rfl rfl rfl (by decide +kernel) rfl rfl (Nat.le_of_ble_eq_true rfl) rfl rfl dX1_init_33 ?_
  refine k_aload_n C dX1_init_36 rfl 0 rfl ?_
  refine k_bipush (v := 12) C dX1_init_37 (by decide) ?_
  refine k_newa (ty := .int) (N := 12) (cq := 0) (nc2 := 5) (ns2 := 60) C (Fr.r ad _ (Fr.s _ (hF.mono (Nat.le_of_ble_eq_true rfl)) rfl) rfl) (by decide) rfl hA_int (arr_name C.2.2.2.2.2.1).1 rfl rfl (by decide) (by decide) (by decide) (Nat.le_of_ble_eq_true rfl) (Nat.le_of_ble_eq_true rfl) rfl rfl dX1_init_39 ?_
  refine k_putF (kc := 74) (t := 79) (ci := 1) (ty := .array .int) (lR2 := [(74, 1, 75), (74, 2, 76), (74, 3, 77), (74, 4, 78), (74, 5, 79)]) C hin (by decide) (by decide) rfl rfl hin_X1 tyX1 tyX1_ok nmX1 5 (by decide) hF_X1_24 rfl rfl rfl (by decide +kernel) rfl rfl (Nat.le_of_ble_eq_true rfl) rfl rfl dX1_init_41 ?_
  refine k_aload_n C dX1_init_44 rfl 0 rfl ?_
  refine k_bipush (v := 6) C dX1_init_45 (by decide) ?_
  refine k_newa (ty := .int) (N := 6) (cq := 0) (nc2 := 6) (ns2 := 66) C (Fr.r ad _ (Fr.s _ (hF.mono (Nat.le_of_ble_eq_true rfl)) rfl) rfl) (by decide) rfl hA_int (arr_name C.2.2.2.2.2.1).1 rfl rfl (by decide) (by decide) (by decide) (Nat.le_of_ble_eq_true rfl) (Nat.le_of_ble_eq_true rfl) rfl rfl dX1_init_47 ?_
  refine k_putF (kc := 74) (t := 80) (ci := 1) (ty := .array .int) (lR2 := [(74, 1, 75), (74, 2, 76), (74, 3, 77), (74, 4, 78), (74, 5, 79), (74, 6, 80)]) C hin (by decide) (by decide) rfl rfl hin_X1 tyX1 tyX1_ok nmX1 6 (by decide) hF_X1_27 rfl rfl rfl (by decide +kernel) rfl rfl (Nat.le_of_ble_eq_true rfl) rfl rfl dX1_init_49 ?_
  refine k_aload_n C dX1_init_52 rfl 0 rfl ?_
  refine k_bipush (v := 12) C dX1_init_53 (by decide) ?_
  refine k_newa (ty := .int) (N := 12) (cq := 0) (nc2 := 7) (ns2 := 78) C (Fr.r ad _ (Fr.s _ (hF.mono (Nat.le_of_ble_eq_true rfl)) rfl) rfl) (by decide) rfl hA_int (arr_name C.2.2.2.2.2.1).1 rfl rfl (by decide) (by decide) (by decide) (Nat.le_of_ble_eq_true rfl) (Nat.le_of_ble_eq_true rfl) rfl rfl dX1_init_55 ?_
  refine k_putF (kc := 74) (t := 81) (ci := 1) (ty := .array .int) (lR2 := [(74, 1, 75), (74, 2, 76), (74, 3, 77), (74, 4, 78), (74, 5, 79), (74, 6, 80), (74, 8, 81)]) C hin (by decide) (by decide) rfl rfl hin_X1 tyX1 tyX1_ok nmX1 8 (by decide) hF_X1_30 rfl rfl rfl (by decide +kernel) rfl rfl (Nat.le_of_ble_eq_true rfl) rfl rfl dX1_init_57 ?_
  exact k_vret C hr dX1_init_60
set_option maxHeartbeats 4000000 in
set_option maxRecDepth 100000 in
theorem ck_X1_82 (l : Launch) (dC : Nat → ClassId) (dI : Nat → Nat → Nat) (ad : Nat → Nat) (cy : Nat → ClassId) (z : Nat) (hz : adz ad z) : ConK l yX1_init cX1_init 1 { frames := 1, cells := 7, slots := 78, locals := 12 } dC dI ad cy z 83 90 [.ref (ad 82)] [] [(82, 1, 83), (82, 2, 84), (82, 3, 85), (82, 4, 86), (82, 5, 87), (82, 6, 88), (82, 8, 89)] 7 78 := by
  refine con_k (own := RX1) hz (by decide) rfl rfl (Nat.le_of_ble_eq_true rfl) (fun p e s m below meth c σ ρ C hin hr hF hx => ?_)
  show Gk p l e _ s m _ below meth c _ dC dI ad cy 1 z σ ρ 0 0 83 [] [] 0 [(0, .ref (ad 82))] []
  refine k_aload_n C dX1_init_0 rfl 0 rfl ?_
  refine k_obj C hM_X1_3 ⟨(Nat.le_of_ble_eq_true rfl), (Nat.le_of_ble_eq_true rfl)⟩ dX1_init_1 ?_
  refine k_aload_n C dX1_init_4 rfl 0 rfl ?_
  refine k_bipush (v := 12) C dX1_init_5 (by decide) ?_
  refine k_newa (ty := .int) (N := 12) (cq := 0) (nc2 := 1) (ns2 := 12) C (Fr.r ad _ (Fr.s _ (hF.mono (Nat.le_of_ble_eq_true rfl)) rfl) rfl) (by decide) rfl hA_int (arr_name C.2.2.2.2.2.1).1 rfl rfl (by decide) (by decide) (by decide) (Nat.le_of_ble_eq_true rfl) (Nat.le_of_ble_eq_true rfl) rfl rfl dX1_init_7 ?_
  refine k_putF (kc := 82) (t := 83) (ci := 1) (ty := .array .int) (lR2 := [(82, 1, 83)]) C hin (by decide) (by decide) rfl rfl hin_X1 tyX1 tyX1_ok nmX1 1 (by decide) hF_X1_9 rfl rfl rfl (by decide +kernel) rfl rfl (Nat.le_of_ble_eq_true rfl) rfl rfl dX1_init_9 ?_
  refine k_aload_n C dX1_init_12 rfl 0 rfl ?_
  refine k_bipush (v := 12) C dX1_init_13 (by decide) ?_
  refine k_newa (ty := .int) (N := 12) (cq := 0) (nc2 := 2) (ns2 := 24) C (Fr.r ad _ (Fr.s _ (hF.mono (Nat.le_of_ble_eq_true rfl)) rfl) rfl) (by decide) rfl hA_int (arr_name C.2.2.2.2.2.1).1 rfl rfl (by decide) (by decide) (by decide) (Nat.le_of_ble_eq_true rfl) (Nat.le_of_ble_eq_true rfl) rfl rfl dX1_init_15 ?_
  refine k_putF (kc := 82) (t := 84) (ci := 1) (ty := .array .int) (lR2 := [(82, 1, 83), (82, 2, 84)]) C hin (by decide) (by decide) rfl rfl hin_X1 tyX1 tyX1_ok nmX1 2 (by decide) hF_X1_15 rfl rfl rfl (by decide +kernel) rfl rfl (Nat.le_of_ble_eq_true rfl) rfl rfl dX1_init_17 ?_
  refine k_aload_n C dX1_init_20 rfl 0 rfl ?_
  refine k_bipush (v := 12) C dX1_init_21 (by decide) ?_
  refine k_newa (ty := .int) (N := 12) (cq := 0) (nc2 := 3) (ns2 := 36) C (Fr.r ad _ (Fr.s _ (hF.mono (Nat.le_of_ble_eq_true rfl)) rfl) rfl) (by decide) rfl hA_int (arr_name C.2.2.2.2.2.1).1 rfl rfl (by decide) (by decide) (by decide) (Nat.le_of_ble_eq_true rfl) (Nat.le_of_ble_eq_true rfl) rfl rfl dX1_init_23 ?_
  refine k_putF (kc := 82) (t := 85) (ci := 1) (ty := .array .int) (lR2 := [(82, 1, 83), (82, 2, 84), (82, 3, 85)]) C hin (by decide) (by decide) rfl rfl hin_X1 tyX1 tyX1_ok nmX1 3 (by decide) hF_X1_18 rfl rfl rfl (by decide +kernel) rfl rfl (Nat.le_of_ble_eq_true rfl) rfl rfl dX1_init_25 ?_
  refine k_aload_n C dX1_init_28 rfl 0 rfl ?_
  refine k_bipush (v := 12) C dX1_init_29 (by decide) ?_
  refine k_newa (ty := .int) (N := 12) (cq := 0) (nc2 := 4) (ns2 := 48) C (Fr.r ad _ (Fr.s _ (hF.mono (Nat.le_of_ble_eq_true rfl)) rfl) rfl) (by decide) rfl hA_int (arr_name C.2.2.2.2.2.1).1 rfl rfl (by decide) (by decide) (by decide) (Nat.le_of_ble_eq_true rfl) (Nat.le_of_ble_eq_true rfl) rfl rfl dX1_init_31 ?_
  refine k_putF (kc := 82) (t := 86) (ci := 1) (ty := .array .int) (lR2 := [(82, 1, 83), (82, 2, 84), (82, 3, 85), (82, 4, 86)]) C hin (by decide) (by decide) rfl rfl hin_X1 tyX1 tyX1_ok nmX1 4 (by decide) hF_X1_21 rfl rfl rfl (by decide +kernel) rfl rfl (Nat.le_of_ble_eq_true rfl) rfl rfl dX1_init_33 ?_
  refine k_aload_n C dX1_init_36 rfl 0 rfl ?_
  refine k_bipush (v := 12) C dX1_init_37 (by decide) ?_
  refine k_newa (ty := .int) (N := 12) (cq := 0) (nc2 := 5) (ns2 := 60) C (Fr.r ad _ (Fr.s _ (hF.mono (Nat.le_of_ble_eq_true rfl)) rfl) rfl) (by decide) rfl hA_int (arr_name C.2.2.2.2.2.1).1 rfl rfl (by decide) (by decide) (by decide) (Nat.le_of_ble_eq_true rfl) (Nat.le_of_ble_eq_true rfl) rfl rfl dX1_init_39 ?_
  refine k_putF (kc := 82) (t := 87) (ci := 1) (ty := .array .int) (lR2 := [(82, 1, 83), (82, 2, 84), (82, 3, 85), (82, 4, 86), (82, 5, 87)]) C hin (by decide) (by decide) rfl rfl hin_X1 tyX1 tyX1_ok nmX1 5 (by decide) hF_X1_24 rfl rfl rfl (by decide +kernel) rfl rfl (Nat.le_of_ble_eq_true rfl) rfl rfl dX1_init_41 ?_
  refine k_aload_n C dX1_init_44 rfl 0 rfl ?_
  refine k_bipush (v := 6) C dX1_init_45 (by decide) ?_
  refine k_newa (ty := .int) (N := 6) (cq := 0) (nc2 := 6) (ns2 := 66) C (Fr.r ad _ (Fr.s _ (hF.mono (Nat.le_of_ble_eq_true rfl)) rfl) rfl) (by decide) rfl hA_int (arr_name C.2.2.2.2.2.1).1 rfl rfl (by decide) (by decide) (by decide) (Nat.le_of_ble_eq_true rfl) (Nat.le_of_ble_eq_true rfl) rfl rfl dX1_init_47 ?_
  refine k_putF (kc := 82) (t := 88) (ci := 1) (ty := .array .int) (lR2 := [(82, 1, 83), (82, 2, 84), (82, 3, 85), (82, 4, 86), (82, 5, 87), (82, 6, 88)]) C hin (by decide) (by decide) rfl rfl hin_X1 tyX1 tyX1_ok nmX1 6 (by decide) hF_X1_27 rfl rfl rfl (by decide +kernel) rfl rfl (Nat.le_of_ble_eq_true rfl) rfl rfl dX1_init_49 ?_
  refine k_aload_n C dX1_init_52 rfl 0 rfl ?_
  refine k_bipush (v := 12) C dX1_init_53 (by decide) ?_
  refine k_newa (ty := .int) (N := 12) (cq := 0) (nc2 := 7) (ns2 := 78) C (Fr.r ad _ (Fr.s _ (hF.mono (Nat.le_of_ble_eq_true rfl)) rfl) rfl) (by decide) rfl hA_int (arr_name C.2.2.2.2.2.1).1 rfl rfl (by decide) (by decide) (by decide) (Nat.le_of_ble_eq_true rfl) (Nat.le_of_ble_eq_true rfl) rfl rfl dX1_init_55 ?_
  refine k_putF (kc := 82) (t := 89) (ci := 1) (ty := .array .int) (lR2 := [(82, 1, 83), (82, 2, 84), (82, 3, 85), (82, 4, 86), (82, 5, 87), (82, 6, 88), (82, 8, 89)]) C hin (by decide) (by decide) rfl rfl hin_X1 tyX1 tyX1_ok nmX1 8 (by decide) hF_X1_30 rfl rfl rfl (by decide +kernel) rfl rfl (Nat.le_of_ble_eq_true rfl) rfl rfl dX1_init_57 ?_
  exact k_vret C hr dX1_init_60
set_option maxHeartbeats 4000000 in
set_option maxRecDepth 100000 in
theorem ck_X9_4 (l : Launch) (dC : Nat → ClassId) (dI : Nat → Nat → Nat) (ad : Nat → Nat) (cy : Nat → ClassId) (z : Nat) (hz : adz ad z) : ConK l yX9_init cX9_init 1 { frames := 2, cells := 17, slots := 177, locals := 32 } dC dI ad cy z 5 22 [.ref (ad 4)] [(4, 0, 3), (4, 1, 3)] [(4, 3, 5), (4, 4, 6), (7, 0, 8), (7, 1, 9), (7, 2, 10), (7, 3, 11), (7, 4, 12), (7, 5, 13), (4, 5, 7), (14, 1, 15), (14, 2, 16), (14, 3, 17), (14, 4, 18), (14, 5, 19), (14, 6, 20), (14, 8, 21), (4, 6, 14)] 17 177 := by
  refine con_k (own := RX9) hz (by decide) rfl rfl (Nat.le_of_ble_eq_true rfl) (fun p e s m below meth c σ ρ C hin hr hF hx => ?_)
  show Gk p l e _ s m _ below meth c _ dC dI ad cy 1 z σ ρ 0 0 5 [] [] 0 [(0, .ref (ad 4))] []
  refine k_aload_n C dX9_init_0 rfl 0 rfl ?_
  refine k_obj C hM_X9_3 ⟨(Nat.le_of_ble_eq_true rfl), (Nat.le_of_ble_eq_true rfl)⟩ dX9_init_1 ?_
  refine k_aload_n C dX9_init_4 rfl 0 rfl ?_
  refine k_iconst (v := 3) C dX9_init_5 (by decide) ?_
  refine k_puti (kc := 4) (ci := 9) (ty := .int) (lS2 := [(4, 0, 3)]) C (by decide) (by decide) rfl rfl hin_X9 tyX9 tyX9_ok nmX9 0 (by decide) hF_X9_9 rfl rfl (by decide +kernel) rfl rfl (Nat.le_of_ble_eq_true rfl) rfl rfl dX9_init_6 ?_
  refine k_aload_n C dX9_init_9 rfl 0 rfl ?_
  refine k_iconst (v := 3) C dX9_init_10 (by decide) ?_
  refine k_puti (kc := 4) (ci := 9) (ty := .int) (lS2 := [(4, 0, 3), (4, 1, 3)]) C (by decide) (by decide) rfl rfl hin_X9 tyX9 tyX9_ok nmX9 1 (by decide) hF_X9_15 rfl rfl (by decide +kernel) rfl rfl (Nat.le_of_ble_eq_true rfl) rfl rfl dX9_init_11 ?_
  refine k_aload_n C dX9_init_14 rfl 0 rfl ?_
  refine k_bipush (v := 6) C dX9_init_15 (by decide) ?_
  refine k_newa (ty := .int) (N := 6) (cq := 0) (nc2 := 1) (ns2 := 6) C (Fr.r ad _ (Fr.s _ (hF.mono (Nat.le_of_ble_eq_true rfl)) rfl) rfl) (by decide) rfl hA_int (arr_name C.2.2.2.2.2.1).1 rfl rfl (by decide) (by decide) (by decide) (Nat.le_of_ble_eq_true rfl) (Nat.le_of_ble_eq_true rfl) rfl rfl dX9_init_17 ?_
  refine k_putF (kc := 4) (t := 5) (ci := 9) (ty := .array .int) (lR2 := [(4, 3, 5)]) C hin (by decide) (by decide) rfl rfl hin_X9 tyX9 tyX9_ok nmX9 3 (by decide) hF_X9_18 rfl rfl rfl (by decide +kernel) rfl rfl (Nat.le_of_ble_eq_true rfl) rfl rfl dX9_init_19 ?_
  refine k_aload_n C dX9_init_22 rfl 0 rfl ?_
  refine k_bipush (v := 6) C dX9_init_23 (by decide) ?_
  refine k_newa (ty := .int) (N := 6) (cq := 0) (nc2 := 2) (ns2 := 12) C (Fr.r ad _ (Fr.s _ (hF.mono (Nat.le_of_ble_eq_true rfl)) rfl) rfl) (by decide) rfl hA_int (arr_name C.2.2.2.2.2.1).1 rfl rfl (by decide) (by decide) (by decide) (Nat.le_of_ble_eq_true rfl) (Nat.le_of_ble_eq_true rfl) rfl rfl dX9_init_25 ?_
  refine k_putF (kc := 4) (t := 6) (ci := 9) (ty := .array .int) (lR2 := [(4, 3, 5), (4, 4, 6)]) C hin (by decide) (by decide) rfl rfl hin_X9 tyX9 tyX9_ok nmX9 4 (by decide) hF_X9_22 rfl rfl rfl (by decide +kernel) rfl rfl (Nat.le_of_ble_eq_true rfl) rfl rfl dX9_init_27 ?_
  refine k_aload_n C dX9_init_30 rfl 0 rfl ?_
  refine k_bipush (v := 6) C dX9_init_31 (by decide) ?_
  refine k_bipush (v := 12) C dX9_init_33 (by decide) ?_
  refine k_mna (N := 6) (M := 12) (nc2 := 9) (ns2 := 90) (n2 := 14) (nm := "[[I") (lR2 := [(4, 3, 5), (4, 4, 6), (7, 0, 8), (7, 1, 9), (7, 2, 10), (7, 3, 11), (7, 4, 12), (7, 5, 13)]) C (Fr.r ad _ (Fr.s _ (hF.mono (Nat.le_of_ble_eq_true rfl)) rfl) rfl) (by decide) (by decide) hCL_X9_25 (fun _ => rfl) (fun i hi => by rcases (show i = 0 ∨ i = 1 ∨ i = 2 ∨ i = 3 ∨ i = 4 ∨ i = 5 by omega) with rfl | rfl | rfl | rfl | rfl | rfl <;> rfl) (by decide) (by decide) (by decide) (by decide) (by decide) (by decide) (by decide) (Nat.le_of_ble_eq_true rfl) (Nat.le_of_ble_eq_true rfl) rfl rfl rfl rfl dX9_init_35 ?_
  refine k_putF (kc := 4) (t := 7) (ci := 9) (ty := .array (.array .int)) (lR2 := [(4, 3, 5), (4, 4, 6), (7, 0, 8), (7, 1, 9), (7, 2, 10), (7, 3, 11), (7, 4, 12), (7, 5, 13), (4, 5, 7)]) C hin (by decide) (by decide) rfl rfl hin_X9 tyX9 tyX9_ok nmX9 5 (by decide) hF_X9_27 rfl rfl rfl (by decide +kernel) rfl rfl (Nat.le_of_ble_eq_true rfl) rfl rfl dX9_init_39 ?_
  refine k_aload_n C dX9_init_42 rfl 0 rfl ?_
  refine k_new (N := 9) (ci := 1) (fs := [.int 0, .null, .null, .null, .null, .null, .null, .int 0, .null]) (nc2 := 10) (ns2 := 99) C (Fr.r ad _ (Fr.s _ (hF.mono (Nat.le_of_ble_eq_true rfl)) rfl) rfl) (by decide) hin_X1 tyX1 tyX1_ok hCL_X9_30 hIn_X1 hIni_X1 rfl (fun j hj => by rcases (show j = 0 ∨ j = 1 ∨ j = 2 ∨ j = 3 ∨ j = 4 ∨ j = 5 ∨ j = 6 ∨ j = 7 ∨ j = 8 by omega) with rfl | rfl | rfl | rfl | rfl | rfl | rfl | rfl | rfl <;> rfl) rfl (Nat.le_of_ble_eq_true rfl) (Nat.le_of_ble_eq_true rfl) rfl rfl dX9_init_43 ?_
  refine k_dup C dX9_init_46 rfl ?_
  refine k_callIN (b := ad 14) (As := []) (rest := [.ref (ad 14), .ref (ad 4)]) (pn := 0) (nc2 := 17) (ns2 := 177) (lS2 := [(4, 0, 3), (4, 1, 3)]) (lR2 := [(4, 3, 5), (4, 4, 6), (7, 0, 8), (7, 1, 9), (7, 2, 10), (7, 3, 11), (7, 4, 12), (7, 5, 13), (4, 5, 7), (14, 1, 15), (14, 2, 16), (14, 3, 17), (14, 4, 18), (14, 5, 19), (14, 6, 20), (14, 8, 21)]) C (Fr.r ad _ (Fr.s _ (hF.mono (Nat.le_of_ble_eq_true rfl)) rfl) rfl) (fun h => absurd h (by decide)) (ck_X1_14 l dC dI ad cy z C.2.2.2.2.2.2.1) C.2.2.2.2.2.2.2.2.1.n_X9_32 hC_X1_init hIni_X1 hI_X1_init (by decide +kernel) ⟨rfl, rfl⟩ ⟨(Nat.le_of_ble_eq_true rfl), (Nat.le_of_ble_eq_true rfl)⟩ ⟨(Nat.le_of_ble_eq_true rfl), (Nat.le_of_ble_eq_true rfl)⟩ rfl rfl rfl rfl rfl rfl (Nat.le_of_ble_eq_true rfl) dX9_init_47 ?_
  refine k_putF (kc := 4) (t := 14) (ci := 9) (ty := .object "ChimeShares$Chimes") (lR2 := [(4, 3, 5), (4, 4, 6), (7, 0, 8), (7, 1, 9), (7, 2, 10), (7, 3, 11), (7, 4, 12), (7, 5, 13), (4, 5, 7), (14, 1, 15), (14, 2, 16), (14, 3, 17), (14, 4, 18), (14, 5, 19), (14, 6, 20), (14, 8, 21), (4, 6, 14)]) C hin (by decide) (by decide) rfl rfl hin_X9 tyX9 tyX9_ok nmX9 6 (by decide) hF_X9_33 rfl rfl rfl (by decide +kernel) rfl rfl (Nat.le_of_ble_eq_true rfl) rfl rfl dX9_init_50 ?_
  exact k_vret C hr dX9_init_53
set_option maxHeartbeats 4000000 in
set_option maxRecDepth 100000 in
theorem ck_X9_22 (l : Launch) (dC : Nat → ClassId) (dI : Nat → Nat → Nat) (ad : Nat → Nat) (cy : Nat → ClassId) (z : Nat) (hz : adz ad z) : ConK l yX9_init cX9_init 1 { frames := 2, cells := 17, slots := 177, locals := 32 } dC dI ad cy z 23 40 [.ref (ad 22)] [(22, 0, 3), (22, 1, 3)] [(22, 3, 23), (22, 4, 24), (25, 0, 26), (25, 1, 27), (25, 2, 28), (25, 3, 29), (25, 4, 30), (25, 5, 31), (22, 5, 25), (32, 1, 33), (32, 2, 34), (32, 3, 35), (32, 4, 36), (32, 5, 37), (32, 6, 38), (32, 8, 39), (22, 6, 32)] 17 177 := by
  refine con_k (own := RX9) hz (by decide) rfl rfl (Nat.le_of_ble_eq_true rfl) (fun p e s m below meth c σ ρ C hin hr hF hx => ?_)
  show Gk p l e _ s m _ below meth c _ dC dI ad cy 1 z σ ρ 0 0 23 [] [] 0 [(0, .ref (ad 22))] []
  refine k_aload_n C dX9_init_0 rfl 0 rfl ?_
  refine k_obj C hM_X9_3 ⟨(Nat.le_of_ble_eq_true rfl), (Nat.le_of_ble_eq_true rfl)⟩ dX9_init_1 ?_
  refine k_aload_n C dX9_init_4 rfl 0 rfl ?_
  refine k_iconst (v := 3) C dX9_init_5 (by decide) ?_
  refine k_puti (kc := 22) (ci := 9) (ty := .int) (lS2 := [(22, 0, 3)]) C (by decide) (by decide) rfl rfl hin_X9 tyX9 tyX9_ok nmX9 0 (by decide) hF_X9_9 rfl rfl (by decide +kernel) rfl rfl (Nat.le_of_ble_eq_true rfl) rfl rfl dX9_init_6 ?_
  refine k_aload_n C dX9_init_9 rfl 0 rfl ?_
  refine k_iconst (v := 3) C dX9_init_10 (by decide) ?_
  refine k_puti (kc := 22) (ci := 9) (ty := .int) (lS2 := [(22, 0, 3), (22, 1, 3)]) C (by decide) (by decide) rfl rfl hin_X9 tyX9 tyX9_ok nmX9 1 (by decide) hF_X9_15 rfl rfl (by decide +kernel) rfl rfl (Nat.le_of_ble_eq_true rfl) rfl rfl dX9_init_11 ?_
  refine k_aload_n C dX9_init_14 rfl 0 rfl ?_
  refine k_bipush (v := 6) C dX9_init_15 (by decide) ?_
  refine k_newa (ty := .int) (N := 6) (cq := 0) (nc2 := 1) (ns2 := 6) C (Fr.r ad _ (Fr.s _ (hF.mono (Nat.le_of_ble_eq_true rfl)) rfl) rfl) (by decide) rfl hA_int (arr_name C.2.2.2.2.2.1).1 rfl rfl (by decide) (by decide) (by decide) (Nat.le_of_ble_eq_true rfl) (Nat.le_of_ble_eq_true rfl) rfl rfl dX9_init_17 ?_
  refine k_putF (kc := 22) (t := 23) (ci := 9) (ty := .array .int) (lR2 := [(22, 3, 23)]) C hin (by decide) (by decide) rfl rfl hin_X9 tyX9 tyX9_ok nmX9 3 (by decide) hF_X9_18 rfl rfl rfl (by decide +kernel) rfl rfl (Nat.le_of_ble_eq_true rfl) rfl rfl dX9_init_19 ?_
  refine k_aload_n C dX9_init_22 rfl 0 rfl ?_
  refine k_bipush (v := 6) C dX9_init_23 (by decide) ?_
  refine k_newa (ty := .int) (N := 6) (cq := 0) (nc2 := 2) (ns2 := 12) C (Fr.r ad _ (Fr.s _ (hF.mono (Nat.le_of_ble_eq_true rfl)) rfl) rfl) (by decide) rfl hA_int (arr_name C.2.2.2.2.2.1).1 rfl rfl (by decide) (by decide) (by decide) (Nat.le_of_ble_eq_true rfl) (Nat.le_of_ble_eq_true rfl) rfl rfl dX9_init_25 ?_
  refine k_putF (kc := 22) (t := 24) (ci := 9) (ty := .array .int) (lR2 := [(22, 3, 23), (22, 4, 24)]) C hin (by decide) (by decide) rfl rfl hin_X9 tyX9 tyX9_ok nmX9 4 (by decide) hF_X9_22 rfl rfl rfl (by decide +kernel) rfl rfl (Nat.le_of_ble_eq_true rfl) rfl rfl dX9_init_27 ?_
  refine k_aload_n C dX9_init_30 rfl 0 rfl ?_
  refine k_bipush (v := 6) C dX9_init_31 (by decide) ?_
  refine k_bipush (v := 12) C dX9_init_33 (by decide) ?_
  refine k_mna (N := 6) (M := 12) (nc2 := 9) (ns2 := 90) (n2 := 32) (nm := "[[I") (lR2 := [(22, 3, 23), (22, 4, 24), (25, 0, 26), (25, 1, 27), (25, 2, 28), (25, 3, 29), (25, 4, 30), (25, 5, 31)]) C (Fr.r ad _ (Fr.s _ (hF.mono (Nat.le_of_ble_eq_true rfl)) rfl) rfl) (by decide) (by decide) hCL_X9_25 (fun _ => rfl) (fun i hi => by rcases (show i = 0 ∨ i = 1 ∨ i = 2 ∨ i = 3 ∨ i = 4 ∨ i = 5 by omega) with rfl | rfl | rfl | rfl | rfl | rfl <;> rfl) (by decide) (by decide) (by decide) (by decide) (by decide) (by decide) (by decide) (Nat.le_of_ble_eq_true rfl) (Nat.le_of_ble_eq_true rfl) rfl rfl rfl rfl dX9_init_35 ?_
  refine k_putF (kc := 22) (t := 25) (ci := 9) (ty := .array (.array .int)) (lR2 := [(22, 3, 23), (22, 4, 24), (25, 0, 26), (25, 1, 27), (25, 2, 28), (25, 3, 29), (25, 4, 30), (25, 5, 31), (22, 5, 25)]) C hin (by decide) (by decide) rfl rfl hin_X9 tyX9 tyX9_ok nmX9 5 (by decide) hF_X9_27 rfl rfl rfl (by decide +kernel) rfl rfl (Nat.le_of_ble_eq_true rfl) rfl rfl dX9_init_39 ?_
  refine k_aload_n C dX9_init_42 rfl 0 rfl ?_
  refine k_new (N := 9) (ci := 1) (fs := [.int 0, .null, .null, .null, .null, .null, .null, .int 0, .null]) (nc2 := 10) (ns2 := 99) C (Fr.r ad _ (Fr.s _ (hF.mono (Nat.le_of_ble_eq_true rfl)) rfl) rfl) (by decide) hin_X1 tyX1 tyX1_ok hCL_X9_30 hIn_X1 hIni_X1 rfl (fun j hj => by rcases (show j = 0 ∨ j = 1 ∨ j = 2 ∨ j = 3 ∨ j = 4 ∨ j = 5 ∨ j = 6 ∨ j = 7 ∨ j = 8 by omega) with rfl | rfl | rfl | rfl | rfl | rfl | rfl | rfl | rfl <;> rfl) rfl (Nat.le_of_ble_eq_true rfl) (Nat.le_of_ble_eq_true rfl) rfl rfl dX9_init_43 ?_
  refine k_dup C dX9_init_46 rfl ?_
  refine k_callIN (b := ad 32) (As := []) (rest := [.ref (ad 32), .ref (ad 22)]) (pn := 0) (nc2 := 17) (ns2 := 177) (lS2 := [(22, 0, 3), (22, 1, 3)]) (lR2 := [(22, 3, 23), (22, 4, 24), (25, 0, 26), (25, 1, 27), (25, 2, 28), (25, 3, 29), (25, 4, 30), (25, 5, 31), (22, 5, 25), (32, 1, 33), (32, 2, 34), (32, 3, 35), (32, 4, 36), (32, 5, 37), (32, 6, 38), (32, 8, 39)]) C (Fr.r ad _ (Fr.s _ (hF.mono (Nat.le_of_ble_eq_true rfl)) rfl) rfl) (fun h => absurd h (by decide)) (ck_X1_32 l dC dI ad cy z C.2.2.2.2.2.2.1) C.2.2.2.2.2.2.2.2.1.n_X9_32 hC_X1_init hIni_X1 hI_X1_init (by decide +kernel) ⟨rfl, rfl⟩ ⟨(Nat.le_of_ble_eq_true rfl), (Nat.le_of_ble_eq_true rfl)⟩ ⟨(Nat.le_of_ble_eq_true rfl), (Nat.le_of_ble_eq_true rfl)⟩ rfl rfl rfl rfl rfl rfl (Nat.le_of_ble_eq_true rfl) dX9_init_47 ?_
  refine k_putF (kc := 22) (t := 32) (ci := 9) (ty := .object "ChimeShares$Chimes") (lR2 := [(22, 3, 23), (22, 4, 24), (25, 0, 26), (25, 1, 27), (25, 2, 28), (25, 3, 29), (25, 4, 30), (25, 5, 31), (22, 5, 25), (32, 1, 33), (32, 2, 34), (32, 3, 35), (32, 4, 36), (32, 5, 37), (32, 6, 38), (32, 8, 39), (22, 6, 32)]) C hin (by decide) (by decide) rfl rfl hin_X9 tyX9 tyX9_ok nmX9 6 (by decide) hF_X9_33 rfl rfl rfl (by decide +kernel) rfl rfl (Nat.le_of_ble_eq_true rfl) rfl rfl dX9_init_50 ?_
  exact k_vret C hr dX9_init_53
set_option maxHeartbeats 4000000 in
set_option maxRecDepth 100000 in
theorem ck_X5_3 (l : Launch) (dC : Nat → ClassId) (dI : Nat → Nat → Nat) (ad : Nat → Nat) (cy : Nat → ClassId) (z : Nat) (hz : adz ad z) : ConK l yX5_init cX5_init 2 { frames := 3, cells := 18, slots := 184, locals := 52 } dC dI ad cy z 4 22 [.ref (ad 3), .ref (ad 1)] [(4, 0, 3), (4, 1, 3)] [(4, 3, 5), (4, 4, 6), (7, 0, 8), (7, 1, 9), (7, 2, 10), (7, 3, 11), (7, 4, 12), (7, 5, 13), (4, 5, 7), (14, 1, 15), (14, 2, 16), (14, 3, 17), (14, 4, 18), (14, 5, 19), (14, 6, 20), (14, 8, 21), (4, 6, 14), (3, 1, 4), (3, 0, 1)] 18 184 := by
  refine con_k (own := RX5) hz (by decide) rfl rfl (Nat.le_of_ble_eq_true rfl) (fun p e s m below meth c σ ρ C hin hr hF hx => ?_)
  show Gk p l e _ s m _ below meth c _ dC dI ad cy 2 z σ ρ 0 0 4 [] [] 0 [(0, .ref (ad 3)), (1, .ref (ad 1))] []
  refine k_aload_n C dX5_init_0 rfl 0 rfl ?_
  refine k_obj C hM_X5_3 ⟨(Nat.le_of_ble_eq_true rfl), (Nat.le_of_ble_eq_true rfl)⟩ dX5_init_1 ?_
  refine k_aload_n C dX5_init_4 rfl 0 rfl ?_
  refine k_new (N := 7) (ci := 9) (fs := [.int 0, .int 0, .int 0, .null, .null, .null, .null]) (nc2 := 1) (ns2 := 7) C (Fr.r ad _ (Fr.s _ (hF.mono (Nat.le_of_ble_eq_true rfl)) rfl) rfl) (by decide) hin_X9 tyX9 tyX9_ok hCL_X5_9 hIn_X9 hIni_X9 rfl (fun j hj => by rcases (show j = 0 ∨ j = 1 ∨ j = 2 ∨ j = 3 ∨ j = 4 ∨ j = 5 ∨ j = 6 by omega) with rfl | rfl | rfl | rfl | rfl | rfl | rfl <;> rfl) rfl (Nat.le_of_ble_eq_true rfl) (Nat.le_of_ble_eq_true rfl) rfl rfl dX5_init_5 ?_
  refine k_dup C dX5_init_8 rfl ?_
  refine k_callIN (b := ad 4) (As := []) (rest := [.ref (ad 4), .ref (ad 3)]) (pn := 0) (nc2 := 18) (ns2 := 184) (lS2 := [(4, 0, 3), (4, 1, 3)]) (lR2 := [(4, 3, 5), (4, 4, 6), (7, 0, 8), (7, 1, 9), (7, 2, 10), (7, 3, 11), (7, 4, 12), (7, 5, 13), (4, 5, 7), (14, 1, 15), (14, 2, 16), (14, 3, 17), (14, 4, 18), (14, 5, 19), (14, 6, 20), (14, 8, 21), (4, 6, 14)]) C (Fr.r ad _ (Fr.s _ (hF.mono (Nat.le_of_ble_eq_true rfl)) rfl) rfl) (fun h => absurd h (by decide)) (ck_X9_4 l dC dI ad cy z C.2.2.2.2.2.2.1) C.2.2.2.2.2.2.2.2.1.n_X5_11 hC_X9_init hIni_X9 hI_X9_init (by decide +kernel) ⟨rfl, rfl⟩ ⟨(Nat.le_of_ble_eq_true rfl), (Nat.le_of_ble_eq_true rfl)⟩ ⟨(Nat.le_of_ble_eq_true rfl), (Nat.le_of_ble_eq_true rfl)⟩ rfl rfl rfl rfl rfl rfl (Nat.le_of_ble_eq_true rfl) dX5_init_9 ?_
  refine k_putF (kc := 3) (t := 4) (ci := 5) (ty := .object "ChimeShares$Town") (lR2 := [(4, 3, 5), (4, 4, 6), (7, 0, 8), (7, 1, 9), (7, 2, 10), (7, 3, 11), (7, 4, 12), (7, 5, 13), (4, 5, 7), (14, 1, 15), (14, 2, 16), (14, 3, 17), (14, 4, 18), (14, 5, 19), (14, 6, 20), (14, 8, 21), (4, 6, 14), (3, 1, 4)]) C hin (by decide) (by decide) rfl rfl hin_X5 tyX5 tyX5_ok nmX5 1 (by decide) hF_X5_12 rfl rfl rfl (by decide +kernel) rfl rfl (Nat.le_of_ble_eq_true rfl) rfl rfl dX5_init_12 ?_
  refine k_aload_n C dX5_init_15 rfl 0 rfl ?_
  refine k_aload_n C dX5_init_16 rfl 1 rfl ?_
  refine k_putF (kc := 3) (t := 1) (ci := 5) (ty := .object "ChimeShares$Tape") (lR2 := [(4, 3, 5), (4, 4, 6), (7, 0, 8), (7, 1, 9), (7, 2, 10), (7, 3, 11), (7, 4, 12), (7, 5, 13), (4, 5, 7), (14, 1, 15), (14, 2, 16), (14, 3, 17), (14, 4, 18), (14, 5, 19), (14, 6, 20), (14, 8, 21), (4, 6, 14), (3, 1, 4), (3, 0, 1)]) C hin (by decide) (by decide) rfl rfl hin_X5 tyX5 tyX5_ok nmX5 0 (by decide) hF_X5_18 rfl rfl rfl (by decide +kernel) rfl rfl (Nat.le_of_ble_eq_true rfl) rfl rfl dX5_init_17 ?_
  exact k_vret C hr dX5_init_20
set_option maxHeartbeats 4000000 in
set_option maxRecDepth 100000 in
theorem ck_X6_40 (l : Launch) (dC : Nat → ClassId) (dI : Nat → Nat → Nat) (ad : Nat → Nat) (cy : Nat → ClassId) (z : Nat) (hz : adz ad z) : ConK l yX6_init cX6_init 2 { frames := 1, cells := 0, slots := 0, locals := 12 } dC dI ad cy z 41 41 [.ref (ad 40), .ref (ad 22)] [] [(40, 0, 22), (40, 1, 32)] 0 0 := by
  refine con_k (own := RX6) hz (by decide) rfl rfl (Nat.le_of_ble_eq_true rfl) (fun p e s m below meth c σ ρ C hin hr hF hx => ?_)
  show Gk p l e _ s m _ below meth c _ dC dI ad cy 2 z σ ρ 0 0 41 [] [] 0 [(0, .ref (ad 40)), (1, .ref (ad 22))] []
  refine k_aload_n C dX6_init_0 rfl 0 rfl ?_
  refine k_obj C hM_X6_3 ⟨(Nat.le_of_ble_eq_true rfl), (Nat.le_of_ble_eq_true rfl)⟩ dX6_init_1 ?_
  refine k_aload_n C dX6_init_4 rfl 0 rfl ?_
  refine k_aload_n C dX6_init_5 rfl 1 rfl ?_
  refine k_putF (kc := 40) (t := 22) (ci := 6) (ty := .object "ChimeShares$Town") (lR2 := [(40, 0, 22)]) C hin (by decide) (by decide) rfl rfl hin_X6 tyX6 tyX6_ok nmX6 0 (by decide) hF_X6_9 rfl rfl rfl (by decide +kernel) rfl rfl (Nat.le_of_ble_eq_true rfl) rfl rfl dX6_init_6 ?_
  refine k_aload_n C dX6_init_9 rfl 0 rfl ?_
  refine k_aload_n C dX6_init_10 rfl 1 rfl ?_
  refine k_get (kc := 22) (ci := 9) (v := .ref (ad 32)) C (by decide) rfl rfl hin_X9 6 (by decide) hF_X6_15 rfl (by show some (va_rf (ρ 22 6)) = _; rw [hx (by decide)]; rfl) dX6_init_11 ?_
  refine k_putF (kc := 40) (t := 32) (ci := 6) (ty := .object "ChimeShares$Chimes") (lR2 := [(40, 0, 22), (40, 1, 32)]) C hin (by decide) (by decide) rfl rfl hin_X6 tyX6 tyX6_ok nmX6 1 (by decide) hF_X6_21 rfl rfl rfl (by decide +kernel) rfl rfl (Nat.le_of_ble_eq_true rfl) rfl rfl dX6_init_14 ?_
  exact k_vret C hr dX6_init_17
set_option maxHeartbeats 4000000 in
set_option maxRecDepth 100000 in
theorem ck_X0_41 (l : Launch) (dC : Nat → ClassId) (dI : Nat → Nat → Nat) (ad : Nat → Nat) (cy : Nat → ClassId) (z : Nat) (hz : adz ad z) : ConK l yX0_init cX0_init 3 { frames := 1, cells := 4, slots := 24, locals := 12 } dC dI ad cy z 42 46 [.ref (ad 41), .ref (ad 22), .ref (ad 40)] [] [(41, 3, 42), (41, 4, 43), (41, 5, 44), (41, 6, 45), (41, 0, 22), (41, 1, 32), (41, 2, 40)] 4 24 := by
  refine con_k (own := RX0) hz (by decide) rfl rfl (Nat.le_of_ble_eq_true rfl) (fun p e s m below meth c σ ρ C hin hr hF hx => ?_)
  show Gk p l e _ s m _ below meth c _ dC dI ad cy 3 z σ ρ 0 0 42 [] [] 0 [(0, .ref (ad 41)), (1, .ref (ad 22)), (2, .ref (ad 40))] []
  refine k_aload_n C dX0_init_0 rfl 0 rfl ?_
  refine k_obj C hM_X0_3 ⟨(Nat.le_of_ble_eq_true rfl), (Nat.le_of_ble_eq_true rfl)⟩ dX0_init_1 ?_
  refine k_aload_n C dX0_init_4 rfl 0 rfl ?_
  refine k_bipush (v := 6) C dX0_init_5 (by decide) ?_
  refine k_newa (ty := .int) (N := 6) (cq := 0) (nc2 := 1) (ns2 := 6) C (Fr.r ad _ (Fr.s _ (hF.mono (Nat.le_of_ble_eq_true rfl)) rfl) rfl) (by decide) rfl hA_int (arr_name C.2.2.2.2.2.1).1 rfl rfl (by decide) (by decide) (by decide) (Nat.le_of_ble_eq_true rfl) (Nat.le_of_ble_eq_true rfl) rfl rfl dX0_init_7 ?_
  refine k_putF (kc := 41) (t := 42) (ci := 0) (ty := .array .int) (lR2 := [(41, 3, 42)]) C hin (by decide) (by decide) rfl rfl hin_X0 tyX0 tyX0_ok nmX0 3 (by decide) hF_X0_9 rfl rfl rfl (by decide +kernel) rfl rfl (Nat.le_of_ble_eq_true rfl) rfl rfl dX0_init_9 ?_
  refine k_aload_n C dX0_init_12 rfl 0 rfl ?_
  refine k_bipush (v := 6) C dX0_init_13 (by decide) ?_
  refine k_newa (ty := .int) (N := 6) (cq := 0) (nc2 := 2) (ns2 := 12) C (Fr.r ad _ (Fr.s _ (hF.mono (Nat.le_of_ble_eq_true rfl)) rfl) rfl) (by decide) rfl hA_int (arr_name C.2.2.2.2.2.1).1 rfl rfl (by decide) (by decide) (by decide) (Nat.le_of_ble_eq_true rfl) (Nat.le_of_ble_eq_true rfl) rfl rfl dX0_init_15 ?_
  refine k_putF (kc := 41) (t := 43) (ci := 0) (ty := .array .int) (lR2 := [(41, 3, 42), (41, 4, 43)]) C hin (by decide) (by decide) rfl rfl hin_X0 tyX0 tyX0_ok nmX0 4 (by decide) hF_X0_15 rfl rfl rfl (by decide +kernel) rfl rfl (Nat.le_of_ble_eq_true rfl) rfl rfl dX0_init_17 ?_
  refine k_aload_n C dX0_init_20 rfl 0 rfl ?_
  refine k_bipush (v := 6) C dX0_init_21 (by decide) ?_
  refine k_newa (ty := .int) (N := 6) (cq := 0) (nc2 := 3) (ns2 := 18) C (Fr.r ad _ (Fr.s _ (hF.mono (Nat.le_of_ble_eq_true rfl)) rfl) rfl) (by decide) rfl hA_int (arr_name C.2.2.2.2.2.1).1 rfl rfl (by decide) (by decide) (by decide) (Nat.le_of_ble_eq_true rfl) (Nat.le_of_ble_eq_true rfl) rfl rfl dX0_init_23 ?_
  refine k_putF (kc := 41) (t := 44) (ci := 0) (ty := .array .int) (lR2 := [(41, 3, 42), (41, 4, 43), (41, 5, 44)]) C hin (by decide) (by decide) rfl rfl hin_X0 tyX0 tyX0_ok nmX0 5 (by decide) hF_X0_18 rfl rfl rfl (by decide +kernel) rfl rfl (Nat.le_of_ble_eq_true rfl) rfl rfl dX0_init_25 ?_
  refine k_aload_n C dX0_init_28 rfl 0 rfl ?_
  refine k_bipush (v := 6) C dX0_init_29 (by decide) ?_
  refine k_newa (ty := .int) (N := 6) (cq := 0) (nc2 := 4) (ns2 := 24) C (Fr.r ad _ (Fr.s _ (hF.mono (Nat.le_of_ble_eq_true rfl)) rfl) rfl) (by decide) rfl hA_int (arr_name C.2.2.2.2.2.1).1 rfl rfl (by decide) (by decide) (by decide) (Nat.le_of_ble_eq_true rfl) (Nat.le_of_ble_eq_true rfl) rfl rfl dX0_init_31 ?_
  refine k_putF (kc := 41) (t := 45) (ci := 0) (ty := .array .int) (lR2 := [(41, 3, 42), (41, 4, 43), (41, 5, 44), (41, 6, 45)]) C hin (by decide) (by decide) rfl rfl hin_X0 tyX0 tyX0_ok nmX0 6 (by decide) hF_X0_21 rfl rfl rfl (by decide +kernel) rfl rfl (Nat.le_of_ble_eq_true rfl) rfl rfl dX0_init_33 ?_
  refine k_aload_n C dX0_init_36 rfl 0 rfl ?_
  refine k_aload_n C dX0_init_37 rfl 1 rfl ?_
  refine k_putF (kc := 41) (t := 22) (ci := 0) (ty := .object "ChimeShares$Town") (lR2 := [(41, 3, 42), (41, 4, 43), (41, 5, 44), (41, 6, 45), (41, 0, 22)]) C hin (by decide) (by decide) rfl rfl hin_X0 tyX0 tyX0_ok nmX0 0 (by decide) hF_X0_24 rfl rfl rfl (by decide +kernel) rfl rfl (Nat.le_of_ble_eq_true rfl) rfl rfl dX0_init_38 ?_
  refine k_aload_n C dX0_init_41 rfl 0 rfl ?_
  refine k_aload_n C dX0_init_42 rfl 1 rfl ?_
  refine k_get (kc := 22) (ci := 9) (v := .ref (ad 32)) C (by decide) rfl rfl hin_X9 6 (by decide) hF_X0_28 rfl (by show some (va_rf (ρ 22 6)) = _; rw [hx (by decide)]; rfl) dX0_init_43 ?_
  refine k_putF (kc := 41) (t := 32) (ci := 0) (ty := .object "ChimeShares$Chimes") (lR2 := [(41, 3, 42), (41, 4, 43), (41, 5, 44), (41, 6, 45), (41, 0, 22), (41, 1, 32)]) C hin (by decide) (by decide) rfl rfl hin_X0 tyX0 tyX0_ok nmX0 1 (by decide) hF_X0_34 rfl rfl rfl (by decide +kernel) rfl rfl (Nat.le_of_ble_eq_true rfl) rfl rfl dX0_init_46 ?_
  refine k_aload_n C dX0_init_49 rfl 0 rfl ?_
  refine k_aload_n C dX0_init_50 rfl 2 rfl ?_
  refine k_putF (kc := 41) (t := 40) (ci := 0) (ty := .object "ChimeShares$Ringing") (lR2 := [(41, 3, 42), (41, 4, 43), (41, 5, 44), (41, 6, 45), (41, 0, 22), (41, 1, 32), (41, 2, 40)]) C hin (by decide) (by decide) rfl rfl hin_X0 tyX0 tyX0_ok nmX0 2 (by decide) hF_X0_35 rfl rfl rfl (by decide +kernel) rfl rfl (Nat.le_of_ble_eq_true rfl) rfl rfl dX0_init_51 ?_
  exact k_vret C hr dX0_init_54
set_option maxHeartbeats 4000000 in
set_option maxRecDepth 100000 in
theorem ck_X2_46 (l : Launch) (dC : Nat → ClassId) (dI : Nat → Nat → Nat) (ad : Nat → Nat) (cy : Nat → ClassId) (z : Nat) (hz : adz ad z) : ConK l yX2_init cX2_init 3 { frames := 1, cells := 8, slots := 48, locals := 12 } dC dI ad cy z 47 55 [.ref (ad 46), .ref (ad 22), .ref (ad 40)] [] [(46, 2, 47), (48, 0, 49), (48, 1, 50), (48, 2, 51), (48, 3, 52), (48, 4, 53), (48, 5, 54), (46, 3, 48), (46, 0, 22), (46, 1, 40)] 8 48 := by
  refine con_k (own := RX2) hz (by decide) rfl rfl (Nat.le_of_ble_eq_true rfl) (fun p e s m below meth c σ ρ C hin hr hF hx => ?_)
  show Gk p l e _ s m _ below meth c _ dC dI ad cy 3 z σ ρ 0 0 47 [] [] 0 [(0, .ref (ad 46)), (1, .ref (ad 22)), (2, .ref (ad 40))] []
  refine k_aload_n C dX2_init_0 rfl 0 rfl ?_
  refine k_obj C hM_X2_3 ⟨(Nat.le_of_ble_eq_true rfl), (Nat.le_of_ble_eq_true rfl)⟩ dX2_init_1 ?_
  refine k_aload_n C dX2_init_4 rfl 0 rfl ?_
  refine k_bipush (v := 6) C dX2_init_5 (by decide) ?_
  refine k_newa (ty := .int) (N := 6) (cq := 0) (nc2 := 1) (ns2 := 6) C (Fr.r ad _ (Fr.s _ (hF.mono (Nat.le_of_ble_eq_true rfl)) rfl) rfl) (by decide) rfl hA_int (arr_name C.2.2.2.2.2.1).1 rfl rfl (by decide) (by decide) (by decide) (Nat.le_of_ble_eq_true rfl) (Nat.le_of_ble_eq_true rfl) rfl rfl dX2_init_7 ?_
  refine k_putF (kc := 46) (t := 47) (ci := 2) (ty := .array .int) (lR2 := [(46, 2, 47)]) C hin (by decide) (by decide) rfl rfl hin_X2 tyX2 tyX2_ok nmX2 2 (by decide) hF_X2_9 rfl rfl rfl (by decide +kernel) rfl rfl (Nat.le_of_ble_eq_true rfl) rfl rfl dX2_init_9 ?_
  refine k_aload_n C dX2_init_12 rfl 0 rfl ?_
  refine k_bipush (v := 6) C dX2_init_13 (by decide) ?_
  refine k_bipush (v := 6) C dX2_init_15 (by decide) ?_
  refine k_mna (N := 6) (M := 6) (nc2 := 8) (ns2 := 48) (n2 := 55) (nm := "[[I") (lR2 := [(46, 2, 47), (48, 0, 49), (48, 1, 50), (48, 2, 51), (48, 3, 52), (48, 4, 53), (48, 5, 54)]) C (Fr.r ad _ (Fr.s _ (hF.mono (Nat.le_of_ble_eq_true rfl)) rfl) rfl) (by decide) (by decide) hCL_X2_15 (fun _ => rfl) (fun i hi => by rcases (show i = 0 ∨ i = 1 ∨ i = 2 ∨ i = 3 ∨ i = 4 ∨ i = 5 by omega) with rfl | rfl | rfl | rfl | rfl | rfl <;> rfl) (by decide) (by decide) (by decide) (by decide) (by decide) (by decide) (by decide) (Nat.le_of_ble_eq_true rfl) (Nat.le_of_ble_eq_true rfl) rfl rfl rfl rfl dX2_init_17 ?_
  refine k_putF (kc := 46) (t := 48) (ci := 2) (ty := .array (.array .int)) (lR2 := [(46, 2, 47), (48, 0, 49), (48, 1, 50), (48, 2, 51), (48, 3, 52), (48, 4, 53), (48, 5, 54), (46, 3, 48)]) C hin (by decide) (by decide) rfl rfl hin_X2 tyX2 tyX2_ok nmX2 3 (by decide) hF_X2_17 rfl rfl rfl (by decide +kernel) rfl rfl (Nat.le_of_ble_eq_true rfl) rfl rfl dX2_init_21 ?_
  refine k_aload_n C dX2_init_24 rfl 0 rfl ?_
  refine k_aload_n C dX2_init_25 rfl 1 rfl ?_
  refine k_putF (kc := 46) (t := 22) (ci := 2) (ty := .object "ChimeShares$Town") (lR2 := [(46, 2, 47), (48, 0, 49), (48, 1, 50), (48, 2, 51), (48, 3, 52), (48, 4, 53), (48, 5, 54), (46, 3, 48), (46, 0, 22)]) C hin (by decide) (by decide) rfl rfl hin_X2 tyX2 tyX2_ok nmX2 0 (by decide) hF_X2_20 rfl rfl rfl (by decide +kernel) rfl rfl (Nat.le_of_ble_eq_true rfl) rfl rfl dX2_init_26 ?_
  refine k_aload_n C dX2_init_29 rfl 0 rfl ?_
  refine k_aload_n C dX2_init_30 rfl 2 rfl ?_
  refine k_putF (kc := 46) (t := 40) (ci := 2) (ty := .object "ChimeShares$Ringing") (lR2 := [(46, 2, 47), (48, 0, 49), (48, 1, 50), (48, 2, 51), (48, 3, 52), (48, 4, 53), (48, 5, 54), (46, 3, 48), (46, 0, 22), (46, 1, 40)]) C hin (by decide) (by decide) rfl rfl hin_X2 tyX2 tyX2_ok nmX2 1 (by decide) hF_X2_24 rfl rfl rfl (by decide +kernel) rfl rfl (Nat.le_of_ble_eq_true rfl) rfl rfl dX2_init_31 ?_
  exact k_vret C hr dX2_init_34
set_option maxHeartbeats 4000000 in
set_option maxRecDepth 100000 in
theorem ck_X4_55 (l : Launch) (dC : Nat → ClassId) (dI : Nat → Nat → Nat) (ad : Nat → Nat) (cy : Nat → ClassId) (z : Nat) (hz : adz ad z) : ConK l yX4_init cX4_init 2 { frames := 1, cells := 14, slots := 168, locals := 12 } dC dI ad cy z 56 70 [.ref (ad 55), .ref (ad 22)] [] [(56, 0, 57), (56, 1, 58), (56, 2, 59), (56, 3, 60), (56, 4, 61), (56, 5, 62), (56, 6, 63), (56, 7, 64), (56, 8, 65), (56, 9, 66), (56, 10, 67), (56, 11, 68), (55, 2, 56), (55, 3, 69), (55, 0, 22), (55, 1, 32)] 14 168 := by
  refine con_k (own := RX4) hz (by decide) rfl rfl (Nat.le_of_ble_eq_true rfl) (fun p e s m below meth c σ ρ C hin hr hF hx => ?_)
  show Gk p l e _ s m _ below meth c _ dC dI ad cy 2 z σ ρ 0 0 56 [] [] 0 [(0, .ref (ad 55)), (1, .ref (ad 22))] []
  refine k_aload_n C dX4_init_0 rfl 0 rfl ?_
  refine k_obj C hM_X4_3 ⟨(Nat.le_of_ble_eq_true rfl), (Nat.le_of_ble_eq_true rfl)⟩ dX4_init_1 ?_
  refine k_aload_n C dX4_init_4 rfl 0 rfl ?_
  refine k_bipush (v := 12) C dX4_init_5 (by decide) ?_
  refine k_bipush (v := 12) C dX4_init_7 (by decide) ?_
  refine k_mna (N := 12) (M := 12) (nc2 := 13) (ns2 := 156) (n2 := 69) (nm := "[[I") (lR2 := [(56, 0, 57), (56, 1, 58), (56, 2, 59), (56, 3, 60), (56, 4, 61), (56, 5, 62), (56, 6, 63), (56, 7, 64), (56, 8, 65), (56, 9, 66), (56, 10, 67), (56, 11, 68)]) C (Fr.r ad _ (Fr.s _ (hF.mono (Nat.le_of_ble_eq_true rfl)) rfl) rfl) (by decide) (by decide) hCL_X4_9 (fun _ => rfl) (fun i hi => by rcases (show i = 0 ∨ i = 1 ∨ i = 2 ∨ i = 3 ∨ i = 4 ∨ i = 5 ∨ i = 6 ∨ i = 7 ∨ i = 8 ∨ i = 9 ∨ i = 10 ∨ i = 11 by omega) with rfl | rfl | rfl | rfl | rfl | rfl | rfl | rfl | rfl | rfl | rfl | rfl <;> rfl) (by decide) (by decide) (by decide) (by decide) (by decide) (by decide) (by decide) (Nat.le_of_ble_eq_true rfl) (Nat.le_of_ble_eq_true rfl) rfl rfl rfl rfl dX4_init_9 ?_
  refine k_putF (kc := 55) (t := 56) (ci := 4) (ty := .array (.array .int)) (lR2 := [(56, 0, 57), (56, 1, 58), (56, 2, 59), (56, 3, 60), (56, 4, 61), (56, 5, 62), (56, 6, 63), (56, 7, 64), (56, 8, 65), (56, 9, 66), (56, 10, 67), (56, 11, 68), (55, 2, 56)]) C hin (by decide) (by decide) rfl rfl hin_X4 tyX4 tyX4_ok nmX4 2 (by decide) hF_X4_11 rfl rfl rfl (by decide +kernel) rfl rfl (Nat.le_of_ble_eq_true rfl) rfl rfl dX4_init_13 ?_
  refine k_aload_n C dX4_init_16 rfl 0 rfl ?_
  refine k_bipush (v := 12) C dX4_init_17 (by decide) ?_
  refine k_newa (ty := .int) (N := 12) (cq := 0) (nc2 := 14) (ns2 := 168) C (Fr.r ad _ (Fr.s _ (hF.mono (Nat.le_of_ble_eq_true rfl)) rfl) rfl) (by decide) rfl hA_int (arr_name C.2.2.2.2.2.1).1 rfl rfl (by decide) (by decide) (by decide) (Nat.le_of_ble_eq_true rfl) (Nat.le_of_ble_eq_true rfl) rfl rfl dX4_init_19 ?_
  refine k_putF (kc := 55) (t := 69) (ci := 4) (ty := .array .int) (lR2 := [(56, 0, 57), (56, 1, 58), (56, 2, 59), (56, 3, 60), (56, 4, 61), (56, 5, 62), (56, 6, 63), (56, 7, 64), (56, 8, 65), (56, 9, 66), (56, 10, 67), (56, 11, 68), (55, 2, 56), (55, 3, 69)]) C hin (by decide) (by decide) rfl rfl hin_X4 tyX4 tyX4_ok nmX4 3 (by decide) hF_X4_16 rfl rfl rfl (by decide +kernel) rfl rfl (Nat.le_of_ble_eq_true rfl) rfl rfl dX4_init_21 ?_
  refine k_aload_n C dX4_init_24 rfl 0 rfl ?_
  refine k_aload_n C dX4_init_25 rfl 1 rfl ?_
  refine k_putF (kc := 55) (t := 22) (ci := 4) (ty := .object "ChimeShares$Town") (lR2 := [(56, 0, 57), (56, 1, 58), (56, 2, 59), (56, 3, 60), (56, 4, 61), (56, 5, 62), (56, 6, 63), (56, 7, 64), (56, 8, 65), (56, 9, 66), (56, 10, 67), (56, 11, 68), (55, 2, 56), (55, 3, 69), (55, 0, 22)]) C hin (by decide) (by decide) rfl rfl hin_X4 tyX4 tyX4_ok nmX4 0 (by decide) hF_X4_20 rfl rfl rfl (by decide +kernel) rfl rfl (Nat.le_of_ble_eq_true rfl) rfl rfl dX4_init_26 ?_
  refine k_aload_n C dX4_init_29 rfl 0 rfl ?_
  refine k_aload_n C dX4_init_30 rfl 1 rfl ?_
  refine k_get (kc := 22) (ci := 9) (v := .ref (ad 32)) C (by decide) rfl rfl hin_X9 6 (by decide) hF_X4_24 rfl (by show some (va_rf (ρ 22 6)) = _; rw [hx (by decide)]; rfl) dX4_init_31 ?_
  refine k_putF (kc := 55) (t := 32) (ci := 4) (ty := .object "ChimeShares$Chimes") (lR2 := [(56, 0, 57), (56, 1, 58), (56, 2, 59), (56, 3, 60), (56, 4, 61), (56, 5, 62), (56, 6, 63), (56, 7, 64), (56, 8, 65), (56, 9, 66), (56, 10, 67), (56, 11, 68), (55, 2, 56), (55, 3, 69), (55, 0, 22), (55, 1, 32)]) C hin (by decide) (by decide) rfl rfl hin_X4 tyX4 tyX4_ok nmX4 1 (by decide) hF_X4_30 rfl rfl rfl (by decide +kernel) rfl rfl (Nat.le_of_ble_eq_true rfl) rfl rfl dX4_init_34 ?_
  exact k_vret C hr dX4_init_37
set_option maxHeartbeats 4000000 in
set_option maxRecDepth 100000 in
theorem ck_X3_70 (l : Launch) (dC : Nat → ClassId) (dI : Nat → Nat → Nat) (ad : Nat → Nat) (cy : Nat → ClassId) (z : Nat) (hz : adz ad z) : ConK l yX3_init cX3_init 2 { frames := 1, cells := 0, slots := 0, locals := 12 } dC dI ad cy z 71 71 [.ref (ad 70), .ref (ad 22)] [] [(70, 0, 22), (70, 1, 32)] 0 0 := by
  refine con_k (own := RX3) hz (by decide) rfl rfl (Nat.le_of_ble_eq_true rfl) (fun p e s m below meth c σ ρ C hin hr hF hx => ?_)
  show Gk p l e _ s m _ below meth c _ dC dI ad cy 2 z σ ρ 0 0 71 [] [] 0 [(0, .ref (ad 70)), (1, .ref (ad 22))] []
  refine k_aload_n C dX3_init_0 rfl 0 rfl ?_
  refine k_obj C hM_X3_3 ⟨(Nat.le_of_ble_eq_true rfl), (Nat.le_of_ble_eq_true rfl)⟩ dX3_init_1 ?_
  refine k_aload_n C dX3_init_4 rfl 0 rfl ?_
  refine k_aload_n C dX3_init_5 rfl 1 rfl ?_
  refine k_putF (kc := 70) (t := 22) (ci := 3) (ty := .object "ChimeShares$Town") (lR2 := [(70, 0, 22)]) C hin (by decide) (by decide) rfl rfl hin_X3 tyX3 tyX3_ok nmX3 0 (by decide) hF_X3_9 rfl rfl rfl (by decide +kernel) rfl rfl (Nat.le_of_ble_eq_true rfl) rfl rfl dX3_init_6 ?_
  refine k_aload_n C dX3_init_9 rfl 0 rfl ?_
  refine k_aload_n C dX3_init_10 rfl 1 rfl ?_
  refine k_get (kc := 22) (ci := 9) (v := .ref (ad 32)) C (by decide) rfl rfl hin_X9 6 (by decide) hF_X3_15 rfl (by show some (va_rf (ρ 22 6)) = _; rw [hx (by decide)]; rfl) dX3_init_11 ?_
  refine k_putF (kc := 70) (t := 32) (ci := 3) (ty := .object "ChimeShares$Chimes") (lR2 := [(70, 0, 22), (70, 1, 32)]) C hin (by decide) (by decide) rfl rfl hin_X3 tyX3 tyX3_ok nmX3 1 (by decide) hF_X3_21 rfl rfl rfl (by decide +kernel) rfl rfl (Nat.le_of_ble_eq_true rfl) rfl rfl dX3_init_14 ?_
  exact k_vret C hr dX3_init_17
set_option maxHeartbeats 4000000 in
set_option maxRecDepth 100000 in
theorem ck_X7_90 (l : Launch) (dC : Nat → ClassId) (dI : Nat → Nat → Nat) (ad : Nat → Nat) (cy : Nat → ClassId) (z : Nat) (hz : adz ad z) : ConK l yX7_init cX7_init 1 { frames := 1, cells := 1, slots := 40, locals := 12 } dC dI ad cy z 91 92 [.ref (ad 90)] [(90, 0, (-1))] [(90, 2, 91)] 1 40 := by
  refine con_k (own := RX7) hz (by decide) rfl rfl (Nat.le_of_ble_eq_true rfl) (fun p e s m below meth c σ ρ C hin hr hF hx => ?_)
  show Gk p l e _ s m _ below meth c _ dC dI ad cy 1 z σ ρ 0 0 91 [] [] 0 [(0, .ref (ad 90))] []
  refine k_aload_n C dX7_init_0 rfl 0 rfl ?_
  refine k_obj C hM_X7_3 ⟨(Nat.le_of_ble_eq_true rfl), (Nat.le_of_ble_eq_true rfl)⟩ dX7_init_1 ?_
  refine k_aload_n C dX7_init_4 rfl 0 rfl ?_
  refine k_iconst (v := (-1)) C dX7_init_5 (by decide) ?_
  refine k_puti (kc := 90) (ci := 7) (ty := .int) (lS2 := [(90, 0, (-1))]) C (by decide) (by decide) rfl rfl hin_X7 tyX7 tyX7_ok nmX7 0 (by decide) hF_X7_11 rfl rfl (by decide +kernel) rfl rfl (Nat.le_of_ble_eq_true rfl) rfl rfl dX7_init_6 ?_
  refine k_aload_n C dX7_init_9 rfl 0 rfl ?_
  refine k_bipush (v := 40) C dX7_init_10 (by decide) ?_
  refine k_newa (ty := .int) (N := 40) (cq := 0) (nc2 := 1) (ns2 := 40) C (Fr.r ad _ (Fr.s _ (hF.mono (Nat.le_of_ble_eq_true rfl)) rfl) rfl) (by decide) rfl hA_int (arr_name C.2.2.2.2.2.1).1 rfl rfl (by decide) (by decide) (by decide) (Nat.le_of_ble_eq_true rfl) (Nat.le_of_ble_eq_true rfl) rfl rfl dX7_init_12 ?_
  refine k_putF (kc := 90) (t := 91) (ci := 7) (ty := .array .int) (lR2 := [(90, 2, 91)]) C hin (by decide) (by decide) rfl rfl hin_X7 tyX7 tyX7_ok nmX7 2 (by decide) hF_X7_15 rfl rfl rfl (by decide +kernel) rfl rfl (Nat.le_of_ble_eq_true rfl) rfl rfl dX7_init_14 ?_
  exact k_vret C hr dX7_init_17
set_option maxHeartbeats 4000000 in
set_option maxRecDepth 100000 in
theorem ck_X7_92 (l : Launch) (dC : Nat → ClassId) (dI : Nat → Nat → Nat) (ad : Nat → Nat) (cy : Nat → ClassId) (z : Nat) (hz : adz ad z) : ConK l yX7_init cX7_init 1 { frames := 1, cells := 1, slots := 40, locals := 12 } dC dI ad cy z 93 94 [.ref (ad 92)] [(92, 0, (-1))] [(92, 2, 93)] 1 40 := by
  refine con_k (own := RX7) hz (by decide) rfl rfl (Nat.le_of_ble_eq_true rfl) (fun p e s m below meth c σ ρ C hin hr hF hx => ?_)
  show Gk p l e _ s m _ below meth c _ dC dI ad cy 1 z σ ρ 0 0 93 [] [] 0 [(0, .ref (ad 92))] []
  refine k_aload_n C dX7_init_0 rfl 0 rfl ?_
  refine k_obj C hM_X7_3 ⟨(Nat.le_of_ble_eq_true rfl), (Nat.le_of_ble_eq_true rfl)⟩ dX7_init_1 ?_
  refine k_aload_n C dX7_init_4 rfl 0 rfl ?_
  refine k_iconst (v := (-1)) C dX7_init_5 (by decide) ?_
  refine k_puti (kc := 92) (ci := 7) (ty := .int) (lS2 := [(92, 0, (-1))]) C (by decide) (by decide) rfl rfl hin_X7 tyX7 tyX7_ok nmX7 0 (by decide) hF_X7_11 rfl rfl (by decide +kernel) rfl rfl (Nat.le_of_ble_eq_true rfl) rfl rfl dX7_init_6 ?_
  refine k_aload_n C dX7_init_9 rfl 0 rfl ?_
  refine k_bipush (v := 40) C dX7_init_10 (by decide) ?_
  refine k_newa (ty := .int) (N := 40) (cq := 0) (nc2 := 1) (ns2 := 40) C (Fr.r ad _ (Fr.s _ (hF.mono (Nat.le_of_ble_eq_true rfl)) rfl) rfl) (by decide) rfl hA_int (arr_name C.2.2.2.2.2.1).1 rfl rfl (by decide) (by decide) (by decide) (Nat.le_of_ble_eq_true rfl) (Nat.le_of_ble_eq_true rfl) rfl rfl dX7_init_12 ?_
  refine k_putF (kc := 92) (t := 93) (ci := 7) (ty := .array .int) (lR2 := [(92, 2, 93)]) C hin (by decide) (by decide) rfl rfl hin_X7 tyX7 tyX7_ok nmX7 2 (by decide) hF_X7_15 rfl rfl rfl (by decide +kernel) rfl rfl (Nat.le_of_ble_eq_true rfl) rfl rfl dX7_init_14 ?_
  exact k_vret C hr dX7_init_17
set_option maxHeartbeats 4000000 in
set_option maxRecDepth 100000 in
theorem ck_X7_94 (l : Launch) (dC : Nat → ClassId) (dI : Nat → Nat → Nat) (ad : Nat → Nat) (cy : Nat → ClassId) (z : Nat) (hz : adz ad z) : ConK l yX7_init cX7_init 1 { frames := 1, cells := 1, slots := 40, locals := 12 } dC dI ad cy z 95 96 [.ref (ad 94)] [(94, 0, (-1))] [(94, 2, 95)] 1 40 := by
  refine con_k (own := RX7) hz (by decide) rfl rfl (Nat.le_of_ble_eq_true rfl) (fun p e s m below meth c σ ρ C hin hr hF hx => ?_)
  show Gk p l e _ s m _ below meth c _ dC dI ad cy 1 z σ ρ 0 0 95 [] [] 0 [(0, .ref (ad 94))] []
  refine k_aload_n C dX7_init_0 rfl 0 rfl ?_
  refine k_obj C hM_X7_3 ⟨(Nat.le_of_ble_eq_true rfl), (Nat.le_of_ble_eq_true rfl)⟩ dX7_init_1 ?_
  refine k_aload_n C dX7_init_4 rfl 0 rfl ?_
  refine k_iconst (v := (-1)) C dX7_init_5 (by decide) ?_
  refine k_puti (kc := 94) (ci := 7) (ty := .int) (lS2 := [(94, 0, (-1))]) C (by decide) (by decide) rfl rfl hin_X7 tyX7 tyX7_ok nmX7 0 (by decide) hF_X7_11 rfl rfl (by decide +kernel) rfl rfl (Nat.le_of_ble_eq_true rfl) rfl rfl dX7_init_6 ?_
  refine k_aload_n C dX7_init_9 rfl 0 rfl ?_
  refine k_bipush (v := 40) C dX7_init_10 (by decide) ?_
  refine k_newa (ty := .int) (N := 40) (cq := 0) (nc2 := 1) (ns2 := 40) C (Fr.r ad _ (Fr.s _ (hF.mono (Nat.le_of_ble_eq_true rfl)) rfl) rfl) (by decide) rfl hA_int (arr_name C.2.2.2.2.2.1).1 rfl rfl (by decide) (by decide) (by decide) (Nat.le_of_ble_eq_true rfl) (Nat.le_of_ble_eq_true rfl) rfl rfl dX7_init_12 ?_
  refine k_putF (kc := 94) (t := 95) (ci := 7) (ty := .array .int) (lR2 := [(94, 2, 95)]) C hin (by decide) (by decide) rfl rfl hin_X7 tyX7 tyX7_ok nmX7 2 (by decide) hF_X7_15 rfl rfl rfl (by decide +kernel) rfl rfl (Nat.le_of_ble_eq_true rfl) rfl rfl dX7_init_14 ?_
  exact k_vret C hr dX7_init_17
set_option maxHeartbeats 4000000 in
set_option maxRecDepth 100000 in
theorem ck_X7_96 (l : Launch) (dC : Nat → ClassId) (dI : Nat → Nat → Nat) (ad : Nat → Nat) (cy : Nat → ClassId) (z : Nat) (hz : adz ad z) : ConK l yX7_init cX7_init 1 { frames := 1, cells := 1, slots := 40, locals := 12 } dC dI ad cy z 97 98 [.ref (ad 96)] [(96, 0, (-1))] [(96, 2, 97)] 1 40 := by
  refine con_k (own := RX7) hz (by decide) rfl rfl (Nat.le_of_ble_eq_true rfl) (fun p e s m below meth c σ ρ C hin hr hF hx => ?_)
  show Gk p l e _ s m _ below meth c _ dC dI ad cy 1 z σ ρ 0 0 97 [] [] 0 [(0, .ref (ad 96))] []
  refine k_aload_n C dX7_init_0 rfl 0 rfl ?_
  refine k_obj C hM_X7_3 ⟨(Nat.le_of_ble_eq_true rfl), (Nat.le_of_ble_eq_true rfl)⟩ dX7_init_1 ?_
  refine k_aload_n C dX7_init_4 rfl 0 rfl ?_
  refine k_iconst (v := (-1)) C dX7_init_5 (by decide) ?_
  refine k_puti (kc := 96) (ci := 7) (ty := .int) (lS2 := [(96, 0, (-1))]) C (by decide) (by decide) rfl rfl hin_X7 tyX7 tyX7_ok nmX7 0 (by decide) hF_X7_11 rfl rfl (by decide +kernel) rfl rfl (Nat.le_of_ble_eq_true rfl) rfl rfl dX7_init_6 ?_
  refine k_aload_n C dX7_init_9 rfl 0 rfl ?_
  refine k_bipush (v := 40) C dX7_init_10 (by decide) ?_
  refine k_newa (ty := .int) (N := 40) (cq := 0) (nc2 := 1) (ns2 := 40) C (Fr.r ad _ (Fr.s _ (hF.mono (Nat.le_of_ble_eq_true rfl)) rfl) rfl) (by decide) rfl hA_int (arr_name C.2.2.2.2.2.1).1 rfl rfl (by decide) (by decide) (by decide) (Nat.le_of_ble_eq_true rfl) (Nat.le_of_ble_eq_true rfl) rfl rfl dX7_init_12 ?_
  refine k_putF (kc := 96) (t := 97) (ci := 7) (ty := .array .int) (lR2 := [(96, 2, 97)]) C hin (by decide) (by decide) rfl rfl hin_X7 tyX7 tyX7_ok nmX7 2 (by decide) hF_X7_15 rfl rfl rfl (by decide +kernel) rfl rfl (Nat.le_of_ble_eq_true rfl) rfl rfl dX7_init_14 ?_
  exact k_vret C hr dX7_init_17
