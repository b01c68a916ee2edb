abbrev rm_X5_readFeud : Room := { frames := 3, cells := 0, slots := 0, locals := 61 }
def fX5_readFeud (σ : S0)  : Option (Int32 × S0) := obp (fX5_nextNumber σ ((0 : Int32)) ((5 : Int32))) (fun r1 σ2 => if ¬ r1 = 0 then (ol (σ2 1 5) (fun v5 => obp (fX5_nextNumber σ2 ((0 : Int32)) ((5 : Int32))) (fun r6 σ7 => if ¬ r6 = 0 then (if ¬ (σ7 1 5) = v5 then (obp (fX1_setFoes σ7 14 v5 (σ7 1 5) ((1 : Int32))) (fun r11 σ12 => obp (fX5_advance σ12) (fun r14 σ15 => if r14 = 0 then (some (0, σ15)) else (obp (fX5_endLine σ15) (fun r18 σ19 => if r18 = 0 then (some (0, σ19)) else (some (1, σ19))))))) else (obp (fX5_refuse σ7 ((4 : Int32))) (fun r22 σ23 => og (r22 = 0 ∨ r22 = 1) (some (r22, σ23))))) else (some (0, σ7))))) else (some (0, σ2)))
set_option maxHeartbeats 1000000 in
set_option maxRecDepth 100000 in
theorem fX5_readFeud_ok {p : Program} {l : Launch} {e : Env} {s : State} {m : MethodId} {args : Array Value} {below : List Frame} {meth : Method} {c : Code} {dC : Nat → ClassId} {dI : Nat → Nat → Nat} {ad : Nat → Nat} {cy : Nat → ClassId} {sz : Nat} (C : Cx p s m args meth c RX5 cX5_readFeud 2 (some .boolean) dC dI ad cy sz) {rr : Int32} {ρ : S0} (σ : S0)   (hf : fX5_readFeud σ = some (rr, ρ)) : Gw p l e rm_X5_readFeud s m args below meth c (MQ below (QcI dC dI ad cy sz rr ρ) args s 0 0 (AW ad sz)) dC dI ad cy 2 sz 0 0 0 [(0, .ref (ad 3))] [] σ := by
  unfold fX5_readFeud at hf
  refine g_aload_n C dX5_readFeud_0 rfl 0 rfl ?_
  refine g_iconst (v := 0) C dX5_readFeud_1 (by decide) ?_
  refine g_iconst (v := 5) C dX5_readFeud_2 (by decide) ?_
  obtain ⟨r1, σ2, h3, hf⟩ := obp_e hf
  refine g_callVi (As := [.int 0, .int 5]) (rest := []) C (a_3 ad cy _) rfl (c_X5_nextNumber l dC dI ad cy ((0 : Int32)) ((5 : Int32))) h3 hM_X5_90 cal_X5_nextNumber ⟨Nat.zero_le _, Nat.zero_le _⟩ ⟨rfl, rfl⟩ ⟨Nat.le_of_ble_eq_true rfl, Nat.le_of_ble_eq_true rfl⟩ rfl rfl (Nat.le_of_ble_eq_true rfl) dX5_readFeud_3 ?_
  rcases oi_e hf with ⟨c4, hf⟩ | ⟨c4, hf⟩
  · refine g_if_ne_t (tgt := 11) C dX5_readFeud_6 (by decide) c4 ?_
    refine g_aload_n C dX5_readFeud_11 rfl 0 rfl ?_
    refine g_get C (a_3 ad cy _) rfl hin_X5 0 (by decide) hF_X5_18 rfl rfl dX5_readFeud_12 ?_
    refine g_get C (a_1 ad cy _) rfl hin_X8 5 (by decide) hF_X5_94 rfl rfl dX5_readFeud_15 ?_
    obtain ⟨v5, ev5, hf⟩ := ol_e hf
    refine g_nm ev5 ?_
    refine g_istore_n (lv2 := [(0, .ref (ad 3)), (1, .int v5)]) C dX5_readFeud_18 rfl (by decide) [1, 0] rfl ?_
    refine g_aload_n C dX5_readFeud_19 rfl 0 rfl ?_
    refine g_iconst (v := 0) C dX5_readFeud_20 (by decide) ?_
    refine g_iconst (v := 5) C dX5_readFeud_21 (by decide) ?_
    obtain ⟨r6, σ7, h8, hf⟩ := obp_e hf
    refine g_callVi (As := [.int 0, .int 5]) (rest := []) C (a_3 ad cy _) rfl (c_X5_nextNumber l dC dI ad cy ((0 : Int32)) ((5 : Int32))) h8 hM_X5_90 cal_X5_nextNumber ⟨Nat.zero_le _, Nat.zero_le _⟩ ⟨rfl, rfl⟩ ⟨Nat.le_of_ble_eq_true rfl, Nat.le_of_ble_eq_true rfl⟩ rfl rfl (Nat.le_of_ble_eq_true rfl) dX5_readFeud_22 ?_
    rcases oi_e hf with ⟨c9, hf⟩ | ⟨c9, hf⟩
    · refine g_if_ne_t (tgt := 30) C dX5_readFeud_25 (by decide) c9 ?_
      refine g_aload_n C dX5_readFeud_30 rfl 0 rfl ?_
      refine g_get C (a_3 ad cy _) rfl hin_X5 0 (by decide) hF_X5_18 rfl rfl dX5_readFeud_31 ?_
      refine g_get C (a_1 ad cy _) rfl hin_X8 5 (by decide) hF_X5_94 rfl rfl dX5_readFeud_34 ?_
      refine g_iload_n C dX5_readFeud_37 rfl 1 rfl ?_
      rcases oi_e hf with ⟨c10, hf⟩ | ⟨c10, hf⟩
      · refine g_icmp_ne_t (tgt := 47) C dX5_readFeud_38 (by decide) c10 ?_
        refine g_aload_n C dX5_readFeud_47 rfl 0 rfl ?_
        refine g_get C (a_3 ad cy _) rfl hin_X5 1 (by decide) hF_X5_12 rfl rfl dX5_readFeud_48 ?_
        refine g_get C (a_4 ad cy _) rfl hin_X9 6 (by decide) hF_X5_104 rfl rfl dX5_readFeud_51 ?_
        refine g_iload_n C dX5_readFeud_54 rfl 1 rfl ?_
        refine g_aload_n C dX5_readFeud_55 rfl 0 rfl ?_
        refine g_get C (a_3 ad cy _) rfl hin_X5 0 (by decide) hF_X5_18 rfl rfl dX5_readFeud_56 ?_
        refine g_get C (a_1 ad cy _) rfl hin_X8 5 (by decide) hF_X5_94 rfl rfl dX5_readFeud_59 ?_
        refine g_iconst (v := 1) C dX5_readFeud_62 (by decide) ?_
        obtain ⟨r11, σ12, h13, hf⟩ := obp_e hf
        refine g_callVv (As := [.int v5, .int (σ7 1 5), .int 1]) (rest := []) C (a_14 ad cy _) rfl (c_X1_setFoes l dC dI ad cy 14 k_isChimes_14 v5 (σ7 1 5) ((1 : Int32))) h13 hM_X5_155 cal_X1_setFoes ⟨Nat.zero_le _, Nat.zero_le _⟩ ⟨rfl, rfl⟩ ⟨Nat.le_of_ble_eq_true rfl, Nat.le_of_ble_eq_true rfl⟩ rfl rfl (Nat.le_of_ble_eq_true rfl) dX5_readFeud_63 ?_
        refine g_aload_n C dX5_readFeud_66 rfl 0 rfl ?_
        obtain ⟨r14, σ15, h16, hf⟩ := obp_e hf
        refine g_callVi (As := []) (rest := []) C (a_3 ad cy _) rfl (c_X5_advance l dC dI ad cy ) h16 hM_X5_44 cal_X5_advance ⟨Nat.zero_le _, Nat.zero_le _⟩ ⟨rfl, rfl⟩ ⟨Nat.le_of_ble_eq_true rfl, Nat.le_of_ble_eq_true rfl⟩ rfl rfl (Nat.le_of_ble_eq_true rfl) dX5_readFeud_67 ?_
        rcases oi_e hf with ⟨c17, hf⟩ | ⟨c17, hf⟩
        · refine g_if_eq_t (tgt := 84) C dX5_readFeud_70 (by decide) c17 ?_
          refine g_iconst (v := 0) C dX5_readFeud_84 (by decide) ?_
          obtain ⟨rfl, rfl⟩ := os_e hf
          exact g_zret C rfl (by decide) dX5_readFeud_85
        · refine g_if_eq_f (tgt := 84) C dX5_readFeud_70 (by decide) c17 ?_
          refine g_aload_n C dX5_readFeud_73 rfl 0 rfl ?_
          obtain ⟨r18, σ19, h20, hf⟩ := obp_e hf
          refine g_callVi (As := []) (rest := []) C (a_3 ad cy _) rfl (c_X5_endLine l dC dI ad cy ) h20 hM_X5_99 cal_X5_endLine ⟨Nat.zero_le _, Nat.zero_le _⟩ ⟨rfl, rfl⟩ ⟨Nat.le_of_ble_eq_true rfl, Nat.le_of_ble_eq_true rfl⟩ rfl rfl (Nat.le_of_ble_eq_true rfl) dX5_readFeud_74 ?_
          rcases oi_e hf with ⟨c21, hf⟩ | ⟨c21, hf⟩
          · refine g_if_eq_t (tgt := 84) C dX5_readFeud_77 (by decide) c21 ?_
            refine g_iconst (v := 0) C dX5_readFeud_84 (by decide) ?_
            obtain ⟨rfl, rfl⟩ := os_e hf
            exact g_zret C rfl (by decide) dX5_readFeud_85
          · refine g_if_eq_f (tgt := 84) C dX5_readFeud_77 (by decide) c21 ?_
            refine g_iconst (v := 1) C dX5_readFeud_80 (by decide) ?_
            refine g_goto (tgt := 85) C dX5_readFeud_81 (by decide) ?_
            obtain ⟨rfl, rfl⟩ := os_e hf
            exact g_zret C rfl (by decide) dX5_readFeud_85
      · refine g_icmp_ne_f (tgt := 47) C dX5_readFeud_38 (by decide) (Decidable.of_not_not c10) ?_
        refine g_aload_n C dX5_readFeud_41 rfl 0 rfl ?_
        refine g_iconst (v := 4) C dX5_readFeud_42 (by decide) ?_
        obtain ⟨r22, σ23, h24, hf⟩ := obp_e hf
        refine g_callVi (As := [.int 4]) (rest := []) C (a_3 ad cy _) rfl (c_X5_refuse l dC dI ad cy ((4 : Int32))) h24 hM_X5_57 cal_X5_refuse ⟨Nat.zero_le _, Nat.zero_le _⟩ ⟨rfl, rfl⟩ ⟨Nat.le_of_ble_eq_true rfl, Nat.le_of_ble_eq_true rfl⟩ rfl rfl (Nat.le_of_ble_eq_true rfl) dX5_readFeud_43 ?_
        obtain ⟨h25, hf⟩ := og_e hf
        obtain ⟨rfl, rfl⟩ := os_e hf
        exact g_zret C rfl (zb_ok h25) dX5_readFeud_46
    · refine g_if_ne_f (tgt := 30) C dX5_readFeud_25 (by decide) (Decidable.of_not_not c9) ?_
      refine g_iconst (v := 0) C dX5_readFeud_28 (by decide) ?_
      obtain ⟨rfl, rfl⟩ := os_e hf
      exact g_zret C rfl (by decide) dX5_readFeud_29
  · refine g_if_ne_f (tgt := 11) C dX5_readFeud_6 (by decide) (Decidable.of_not_not c4) ?_
    refine g_iconst (v := 0) C dX5_readFeud_9 (by decide) ?_
    obtain ⟨rfl, rfl⟩ := os_e hf
    exact g_zret C rfl (by decide) dX5_readFeud_10
theorem c_X5_readFeud (l : Launch) (dC : Nat → ClassId) (dI : Nat → Nat → Nat) (ad : Nat → Nat) (cy : Nat → ClassId)  : ConI l yX5_readFeud cX5_readFeud 2 (some .boolean) rm_X5_readFeud dC dI ad cy [.ref (ad 3)] (fun σ => fX5_readFeud σ) := con_i (own := RX5) (by decide) rfl (Nat.le_of_ble_eq_true rfl) (fun _ _ _ _ _ _ _ _ σ _ _ C hf => fX5_readFeud_ok C σ  hf)
theorem cal_X5_readFeud : CalV yX5_readFeud RX5 cX5_readFeud 2 (some .boolean) 0 := ⟨hI_X5_readFeud, hS_X5_readFeud, hIni_X5, hC_X5_readFeud, by decide +kernel⟩
abbrev rm_X5_readLine : Room := { frames := 7, cells := 0, slots := 0, locals := 153 }
def fX5_readLine (σ : S0)  : Option (Int32 × S0) := obp (fX8_isName σ 0) (fun r1 σ2 => if r1 = 0 then (obp (fX8_isName σ2 1) (fun r5 σ6 => if r5 = 0 then (obp (fX8_isName σ6 2) (fun r9 σ10 => if r9 = 0 then (obp (fX8_isName σ10 3) (fun r13 σ14 => if r13 = 0 then (obp (fX8_isName σ14 4) (fun r17 σ18 => if r17 = 0 then (obp (fX5_refuse σ18 ((2 : Int32))) (fun r21 σ22 => og (r21 = 0 ∨ r21 = 1) (some (r21, σ22)))) else (obp (fX5_readFeud σ18) (fun r25 σ26 => og (r25 = 0 ∨ r25 = 1) (some (r25, σ26)))))) else (obp (fX5_readTune σ14) (fun r29 σ30 => og (r29 = 0 ∨ r29 = 1) (some (r29, σ30)))))) else (obp (fX5_readBell σ10) (fun r33 σ34 => og (r33 = 0 ∨ r33 = 1) (some (r33, σ34)))))) else (obp (fX5_readGap σ6) (fun r37 σ38 => og (r37 = 0 ∨ r37 = 1) (some (r37, σ38)))))) else (obp (fX5_readHouses σ2) (fun r41 σ42 => og (r41 = 0 ∨ r41 = 1) (some (r41, σ42)))))
set_option maxHeartbeats 1000000 in
set_option maxRecDepth 100000 in
theorem fX5_readLine_ok {p : Program} {l : Launch} {e : Env} {s : State} {m : MethodId} {args : Array Value} {below : List Frame} {meth : Method} {c : Code} {dC : Nat → ClassId} {dI : Nat → Nat → Nat} {ad : Nat → Nat} {cy : Nat → ClassId} {sz : Nat} (C : Cx p s m args meth c RX5 cX5_readLine 1 (some .boolean) dC dI ad cy sz) {rr : Int32} {ρ : S0} (σ : S0)   (hf : fX5_readLine σ = some (rr, ρ)) : Gw p l e rm_X5_readLine s m args below meth c (MQ below (QcI dC dI ad cy sz rr ρ) args s 0 0 (AW ad sz)) dC dI ad cy 1 sz 0 0 0 [(0, .ref (ad 3))] [] σ := by
  unfold fX5_readLine at hf
  refine g_aload_n C dX5_readLine_0 rfl 0 rfl ?_
  refine g_get C (a_3 ad cy _) rfl hin_X5 0 (by decide) hF_X5_18 rfl rfl dX5_readLine_1 ?_
  refine g_ldcs C (i := 0) (by decide) rfl dX5_readLine_4 ?_
  obtain ⟨r1, σ2, h3, hf⟩ := obp_e hf
  refine g_callVi (As := [.ref (ad (200 + 0))]) (rest := []) C (a_1 ad cy _) rfl (c_X8_isName l dC dI ad cy 0 ((by decide : isStr 0))) h3 hM_X5_63 cal_X8_isName ⟨Nat.zero_le _, Nat.zero_le _⟩ ⟨rfl, rfl⟩ ⟨Nat.le_of_ble_eq_true rfl, Nat.le_of_ble_eq_true rfl⟩ rfl rfl (Nat.le_of_ble_eq_true rfl) dX5_readLine_6 ?_
  rcases oi_e hf with ⟨c4, hf⟩ | ⟨c4, hf⟩
  · refine g_if_eq_t (tgt := 17) C dX5_readLine_9 (by decide) c4 ?_
    refine g_aload_n C dX5_readLine_17 rfl 0 rfl ?_
    refine g_get C (a_3 ad cy _) rfl hin_X5 0 (by decide) hF_X5_18 rfl rfl dX5_readLine_18 ?_
    refine g_ldcs C (i := 1) (by decide) rfl dX5_readLine_21 ?_
    obtain ⟨r5, σ6, h7, hf⟩ := obp_e hf
    refine g_callVi (As := [.ref (ad (200 + 1))]) (rest := []) C (a_1 ad cy _) rfl (c_X8_isName l dC dI ad cy 1 ((by decide : isStr 1))) h7 hM_X5_63 cal_X8_isName ⟨Nat.zero_le _, Nat.zero_le _⟩ ⟨rfl, rfl⟩ ⟨Nat.le_of_ble_eq_true rfl, Nat.le_of_ble_eq_true rfl⟩ rfl rfl (Nat.le_of_ble_eq_true rfl) dX5_readLine_23 ?_
    rcases oi_e hf with ⟨c8, hf⟩ | ⟨c8, hf⟩
    · refine g_if_eq_t (tgt := 34) C dX5_readLine_26 (by decide) c8 ?_
      refine g_aload_n C dX5_readLine_34 rfl 0 rfl ?_
      refine g_get C (a_3 ad cy _) rfl hin_X5 0 (by decide) hF_X5_18 rfl rfl dX5_readLine_35 ?_
      refine g_ldcs C (i := 2) (by decide) rfl dX5_readLine_38 ?_
      obtain ⟨r9, σ10, h11, hf⟩ := obp_e hf
      refine g_callVi (As := [.ref (ad (200 + 2))]) (rest := []) C (a_1 ad cy _) rfl (c_X8_isName l dC dI ad cy 2 ((by decide : isStr 2))) h11 hM_X5_63 cal_X8_isName ⟨Nat.zero_le _, Nat.zero_le _⟩ ⟨rfl, rfl⟩ ⟨Nat.le_of_ble_eq_true rfl, Nat.le_of_ble_eq_true rfl⟩ rfl rfl (Nat.le_of_ble_eq_true rfl) dX5_readLine_40 ?_
      rcases oi_e hf with ⟨c12, hf⟩ | ⟨c12, hf⟩
      · refine g_if_eq_t (tgt := 51) C dX5_readLine_43 (by decide) c12 ?_
        refine g_aload_n C dX5_readLine_51 rfl 0 rfl ?_
        refine g_get C (a_3 ad cy _) rfl hin_X5 0 (by decide) hF_X5_18 rfl rfl dX5_readLine_52 ?_
        refine g_ldcs C (i := 3) (by decide) rfl dX5_readLine_55 ?_
        obtain ⟨r13, σ14, h15, hf⟩ := obp_e hf
        refine g_callVi (As := [.ref (ad (200 + 3))]) (rest := []) C (a_1 ad cy _) rfl (c_X8_isName l dC dI ad cy 3 ((by decide : isStr 3))) h15 hM_X5_63 cal_X8_isName ⟨Nat.zero_le _, Nat.zero_le _⟩ ⟨rfl, rfl⟩ ⟨Nat.le_of_ble_eq_true rfl, Nat.le_of_ble_eq_true rfl⟩ rfl rfl (Nat.le_of_ble_eq_true rfl) dX5_readLine_57 ?_
        rcases oi_e hf with ⟨c16, hf⟩ | ⟨c16, hf⟩
        · refine g_if_eq_t (tgt := 68) C dX5_readLine_60 (by decide) c16 ?_
          refine g_aload_n C dX5_readLine_68 rfl 0 rfl ?_
          refine g_get C (a_3 ad cy _) rfl hin_X5 0 (by decide) hF_X5_18 rfl rfl dX5_readLine_69 ?_
          refine g_ldcs C (i := 4) (by decide) rfl dX5_readLine_72 ?_
          obtain ⟨r17, σ18, h19, hf⟩ := obp_e hf
          refine g_callVi (As := [.ref (ad (200 + 4))]) (rest := []) C (a_1 ad cy _) rfl (c_X8_isName l dC dI ad cy 4 ((by decide : isStr 4))) h19 hM_X5_63 cal_X8_isName ⟨Nat.zero_le _, Nat.zero_le _⟩ ⟨rfl, rfl⟩ ⟨Nat.le_of_ble_eq_true rfl, Nat.le_of_ble_eq_true rfl⟩ rfl rfl (Nat.le_of_ble_eq_true rfl) dX5_readLine_74 ?_
          rcases oi_e hf with ⟨c20, hf⟩ | ⟨c20, hf⟩
          · refine g_if_eq_t (tgt := 87) C dX5_readLine_77 (by decide) c20 ?_
            refine g_aload_n C dX5_readLine_87 rfl 0 rfl ?_
            refine g_iconst (v := 2) C dX5_readLine_88 (by decide) ?_
            obtain ⟨r21, σ22, h23, hf⟩ := obp_e hf
            refine g_callVi (As := [.int 2]) (rest := []) C (a_3 ad cy _) rfl (c_X5_refuse l dC dI ad cy ((2 : Int32))) h23 hM_X5_57 cal_X5_refuse ⟨Nat.zero_le _, Nat.zero_le _⟩ ⟨rfl, rfl⟩ ⟨Nat.le_of_ble_eq_true rfl, Nat.le_of_ble_eq_true rfl⟩ rfl rfl (Nat.le_of_ble_eq_true rfl) dX5_readLine_89 ?_
            obtain ⟨h24, hf⟩ := og_e hf
            obtain ⟨rfl, rfl⟩ := os_e hf
            exact g_zret C rfl (zb_ok h24) dX5_readLine_92
          · refine g_if_eq_f (tgt := 87) C dX5_readLine_77 (by decide) c20 ?_
            refine g_aload_n C dX5_readLine_80 rfl 0 rfl ?_
            obtain ⟨r25, σ26, h27, hf⟩ := obp_e hf
            refine g_callVi (As := []) (rest := []) C (a_3 ad cy _) rfl (c_X5_readFeud l dC dI ad cy ) h27 hM_X5_87 cal_X5_readFeud ⟨Nat.zero_le _, Nat.zero_le _⟩ ⟨rfl, rfl⟩ ⟨Nat.le_of_ble_eq_true rfl, Nat.le_of_ble_eq_true rfl⟩ rfl rfl (Nat.le_of_ble_eq_true rfl) dX5_readLine_81 ?_
            refine g_goto (tgt := 92) C dX5_readLine_84 (by decide) ?_
            obtain ⟨h28, hf⟩ := og_e hf
            obtain ⟨rfl, rfl⟩ := os_e hf
            exact g_zret C rfl (zb_ok h28) dX5_readLine_92
        · refine g_if_eq_f (tgt := 68) C dX5_readLine_60 (by decide) c16 ?_
          refine g_aload_n C dX5_readLine_63 rfl 0 rfl ?_
          obtain ⟨r29, σ30, h31, hf⟩ := obp_e hf
          refine g_callVi (As := []) (rest := []) C (a_3 ad cy _) rfl (c_X5_readTune l dC dI ad cy ) h31 hM_X5_82 cal_X5_readTune ⟨Nat.zero_le _, Nat.zero_le _⟩ ⟨rfl, rfl⟩ ⟨Nat.le_of_ble_eq_true rfl, Nat.le_of_ble_eq_true rfl⟩ rfl rfl (Nat.le_of_ble_eq_true rfl) dX5_readLine_64 ?_
          obtain ⟨h32, hf⟩ := og_e hf
          obtain ⟨rfl, rfl⟩ := os_e hf
          exact g_zret C rfl (zb_ok h32) dX5_readLine_67
      · refine g_if_eq_f (tgt := 51) C dX5_readLine_43 (by decide) c12 ?_
        refine g_aload_n C dX5_readLine_46 rfl 0 rfl ?_
        obtain ⟨r33, σ34, h35, hf⟩ := obp_e hf
        refine g_callVi (As := []) (rest := []) C (a_3 ad cy _) rfl (c_X5_readBell l dC dI ad cy ) h35 hM_X5_77 cal_X5_readBell ⟨Nat.zero_le _, Nat.zero_le _⟩ ⟨rfl, rfl⟩ ⟨Nat.le_of_ble_eq_true rfl, Nat.le_of_ble_eq_true rfl⟩ rfl rfl (Nat.le_of_ble_eq_true rfl) dX5_readLine_47 ?_
        obtain ⟨h36, hf⟩ := og_e hf
        obtain ⟨rfl, rfl⟩ := os_e hf
        exact g_zret C rfl (zb_ok h36) dX5_readLine_50
    · refine g_if_eq_f (tgt := 34) C dX5_readLine_26 (by decide) c8 ?_
      refine g_aload_n C dX5_readLine_29 rfl 0 rfl ?_
      obtain ⟨r37, σ38, h39, hf⟩ := obp_e hf
      refine g_callVi (As := []) (rest := []) C (a_3 ad cy _) rfl (c_X5_readGap l dC dI ad cy ) h39 hM_X5_72 cal_X5_readGap ⟨Nat.zero_le _, Nat.zero_le _⟩ ⟨rfl, rfl⟩ ⟨Nat.le_of_ble_eq_true rfl, Nat.le_of_ble_eq_true rfl⟩ rfl rfl (Nat.le_of_ble_eq_true rfl) dX5_readLine_30 ?_
      obtain ⟨h40, hf⟩ := og_e hf
      obtain ⟨rfl, rfl⟩ := os_e hf
      exact g_zret C rfl (zb_ok h40) dX5_readLine_33
  · refine g_if_eq_f (tgt := 17) C dX5_readLine_9 (by decide) c4 ?_
    refine g_aload_n C dX5_readLine_12 rfl 0 rfl ?_
    obtain ⟨r41, σ42, h43, hf⟩ := obp_e hf
    refine g_callVi (As := []) (rest := []) C (a_3 ad cy _) rfl (c_X5_readHouses l dC dI ad cy ) h43 hM_X5_67 cal_X5_readHouses ⟨Nat.zero_le _, Nat.zero_le _⟩ ⟨rfl, rfl⟩ ⟨Nat.le_of_ble_eq_true rfl, Nat.le_of_ble_eq_true rfl⟩ rfl rfl (Nat.le_of_ble_eq_true rfl) dX5_readLine_13 ?_
    obtain ⟨h44, hf⟩ := og_e hf
    obtain ⟨rfl, rfl⟩ := os_e hf
    exact g_zret C rfl (zb_ok h44) dX5_readLine_16
theorem c_X5_readLine (l : Launch) (dC : Nat → ClassId) (dI : Nat → Nat → Nat) (ad : Nat → Nat) (cy : Nat → ClassId)  : ConI l yX5_readLine cX5_readLine 1 (some .boolean) rm_X5_readLine dC dI ad cy [.ref (ad 3)] (fun σ => fX5_readLine σ) := con_i (own := RX5) (by decide) rfl (Nat.le_of_ble_eq_true rfl) (fun _ _ _ _ _ _ _ _ σ _ _ C hf => fX5_readLine_ok C σ  hf)
theorem cal_X5_readLine : CalV yX5_readLine RX5 cX5_readLine 1 (some .boolean) 0 := ⟨hI_X5_readLine, hS_X5_readLine, hIni_X5, hC_X5_readLine, by decide +kernel⟩
abbrev rm_X5_readAll : Room := { frames := 8, cells := 0, slots := 0, locals := 173 }
def fX5_readAll_b104  (σ : S0)  : Option (Int32 × S0) := some (1, σ)
set_option maxHeartbeats 1000000 in
set_option maxRecDepth 100000 in
theorem fX5_readAll_b104_ok {p : Program} {l : Launch} {e : Env} {s : State} {m : MethodId} {args : Array Value} {below : List Frame} {meth : Method} {c : Code} {dC : Nat → ClassId} {dI : Nat → Nat → Nat} {ad : Nat → Nat} {cy : Nat → ClassId} {sz : Nat} (C : Cx p s m args meth c RX5 cX5_readAll 2 (some .boolean) dC dI ad cy sz) {rr : Int32} {ρ : S0}  (σ : S0)   (hf : fX5_readAll_b104 σ = some (rr, ρ)) : Gw p l e rm_X5_readAll s m args below meth c (MQ below (QcI dC dI ad cy sz rr ρ) args s 0 0 (AW ad sz)) dC dI ad cy 2 sz 0 0 104 [] [] σ := by
  unfold fX5_readAll_b104 at hf
  refine g_iconst (v := 1) C dX5_readAll_104 (by decide) ?_
  refine g_goto (tgt := 109) C dX5_readAll_105 (by decide) ?_
  obtain ⟨rfl, rfl⟩ := os_e hf
  exact g_zret C rfl (by decide) dX5_readAll_109
def fX5_readAll_b81  (σ : S0) (x1 : Int32) : Option (Int32 × S0) := if x1 = 0 then (some (0, σ)) else (obp (fX9_isWhole σ 4) (fun r2 σ3 => if ¬ r2 = 0 then (fX5_readAll_b104 σ3) else (obp (fX5_refuse σ3 ((6 : Int32))) (fun r6 σ7 => if r6 = 0 then (some (0, σ7)) else (fX5_readAll_b104 σ7)))))
set_option maxHeartbeats 1000000 in
set_option maxRecDepth 100000 in
theorem fX5_readAll_b81_ok {p : Program} {l : Launch} {e : Env} {s : State} {m : MethodId} {args : Array Value} {below : List Frame} {meth : Method} {c : Code} {dC : Nat → ClassId} {dI : Nat → Nat → Nat} {ad : Nat → Nat} {cy : Nat → ClassId} {sz : Nat} (C : Cx p s m args meth c RX5 cX5_readAll 2 (some .boolean) dC dI ad cy sz) {rr : Int32} {ρ : S0}  (σ : S0) (x1 : Int32)  (hf : fX5_readAll_b81 σ x1 = some (rr, ρ)) : Gw p l e rm_X5_readAll s m args below meth c (MQ below (QcI dC dI ad cy sz rr ρ) args s 0 0 (AW ad sz)) dC dI ad cy 2 sz 0 0 81 [(0, .ref (ad 3)), (1, .int x1)] [] σ := by
  unfold fX5_readAll_b81 at hf
  refine g_iload_n C dX5_readAll_81 rfl 1 rfl ?_
  rcases oi_e hf with ⟨c1, hf⟩ | ⟨c1, hf⟩
  · refine g_if_eq_t (tgt := 108) C dX5_readAll_82 (by decide) c1 ?_
    refine g_iconst (v := 0) C dX5_readAll_108 (by decide) ?_
    obtain ⟨rfl, rfl⟩ := os_e hf
    exact g_zret C rfl (by decide) dX5_readAll_109
  · refine g_if_eq_f (tgt := 108) C dX5_readAll_82 (by decide) c1 ?_
    refine g_aload_n C dX5_readAll_85 rfl 0 rfl ?_
    refine g_get C (a_3 ad cy _) rfl hin_X5 1 (by decide) hF_X5_12 rfl rfl dX5_readAll_86 ?_
    obtain ⟨r2, σ3, h4, hf⟩ := obp_e hf
    refine g_callVi (As := []) (rest := []) C (a_4 ad cy _) rfl (c_X9_isWhole l dC dI ad cy 4 k_isTown_4) h4 hM_X5_54 cal_X9_isWhole ⟨Nat.zero_le _, Nat.zero_le _⟩ ⟨rfl, rfl⟩ ⟨Nat.le_of_ble_eq_true rfl, Nat.le_of_ble_eq_true rfl⟩ rfl rfl (Nat.le_of_ble_eq_true rfl) dX5_readAll_89 ?_
    rcases oi_e hf with ⟨c5, hf⟩ | ⟨c5, hf⟩
    · refine g_if_ne_t (tgt := 104) C dX5_readAll_92 (by decide) c5 ?_
      exact g_sub [] rfl (fX5_readAll_b104_ok C σ3 hf)
    · refine g_if_ne_f (tgt := 104) C dX5_readAll_92 (by decide) (Decidable.of_not_not c5) ?_
      refine g_aload_n C dX5_readAll_95 rfl 0 rfl ?_
      refine g_bipush (v := 6) C dX5_readAll_96 (by decide) ?_
      obtain ⟨r6, σ7, h8, hf⟩ := obp_e hf
      refine g_callVi (As := [.int 6]) (rest := []) C (a_3 ad cy _) rfl (c_X5_refuse l dC dI ad cy ((6 : Int32))) h8 hM_X5_57 cal_X5_refuse ⟨Nat.zero_le _, Nat.zero_le _⟩ ⟨rfl, rfl⟩ ⟨Nat.le_of_ble_eq_true rfl, Nat.le_of_ble_eq_true rfl⟩ rfl rfl (Nat.le_of_ble_eq_true rfl) dX5_readAll_98 ?_
      rcases oi_e hf with ⟨c9, hf⟩ | ⟨c9, hf⟩
      · refine g_if_eq_t (tgt := 108) C dX5_readAll_101 (by decide) c9 ?_
        refine g_iconst (v := 0) C dX5_readAll_108 (by decide) ?_
        obtain ⟨rfl, rfl⟩ := os_e hf
        exact g_zret C rfl (by decide) dX5_readAll_109
      · refine g_if_eq_f (tgt := 108) C dX5_readAll_101 (by decide) c9 ?_
        exact g_sub [] rfl (fX5_readAll_b104_ok C σ7 hf)
def fX5_readAll_b39 (sf_39 : S0 → Int32 → Option (Int32 × S0)) (σ : S0) (x1 : Int32) : Option (Int32 × S0) := if x1 = 0 then (fX5_readAll_b81 σ x1) else (if (σ 1 3) = 0 then (fX5_readAll_b81 σ x1) else (if (320 : Int32) ≤ (σ 3 4) then (fX5_readAll_b81 σ x1) else (obp (fX5_readLine σ) (fun r4 σ5 => ol ((σ5 3 4) + 1) (fun v7 => ol (su σ5 3 4 v7) (fun σ8 => sf_39 σ8 r4))))))
set_option maxHeartbeats 1000000 in
set_option maxRecDepth 100000 in
theorem fX5_readAll_b39_ok {p : Program} {l : Launch} {e : Env} {s : State} {m : MethodId} {args : Array Value} {below : List Frame} {meth : Method} {c : Code} {dC : Nat → ClassId} {dI : Nat → Nat → Nat} {ad : Nat → Nat} {cy : Nat → ClassId} {sz : Nat} (C : Cx p s m args meth c RX5 cX5_readAll 2 (some .boolean) dC dI ad cy sz) {rr : Int32} {ρ : S0} (sf_39 : S0 → Int32 → Option (Int32 × S0)) (hs_39 : ∀ (σ : S0) (x1 : Int32) , sf_39 σ x1 = some (rr, ρ) → Gw p l e rm_X5_readAll s m args below meth c (MQ below (QcI dC dI ad cy sz rr ρ) args s 0 0 (AW ad sz)) dC dI ad cy 2 sz 0 0 39 [(0, .ref (ad 3)), (1, .int x1)] [] σ) (σ : S0) (x1 : Int32)  (hf : fX5_readAll_b39 sf_39 σ x1 = some (rr, ρ)) : Gw p l e rm_X5_readAll s m args below meth c (MQ below (QcI dC dI ad cy sz rr ρ) args s 0 0 (AW ad sz)) dC dI ad cy 2 sz 0 0 39 [(0, .ref (ad 3)), (1, .int x1)] [] σ := by
  unfold fX5_readAll_b39 at hf
  refine g_iload_n C dX5_readAll_39 rfl 1 rfl ?_
  rcases oi_e hf with ⟨c1, hf⟩ | ⟨c1, hf⟩
  · refine g_if_eq_t (tgt := 81) C dX5_readAll_40 (by decide) c1 ?_
    exact g_sub [0, 1] rfl (fX5_readAll_b81_ok C σ x1 hf)
  · refine g_if_eq_f (tgt := 81) C dX5_readAll_40 (by decide) c1 ?_
    refine g_aload_n C dX5_readAll_43 rfl 0 rfl ?_
    refine g_get C (a_3 ad cy _) rfl hin_X5 0 (by decide) hF_X5_18 rfl rfl dX5_readAll_44 ?_
    refine g_get C (a_1 ad cy _) rfl hin_X8 3 (by decide) hF_X5_48 rfl rfl dX5_readAll_47 ?_
    rcases oi_e hf with ⟨c2, hf⟩ | ⟨c2, hf⟩
    · refine g_if_eq_t (tgt := 81) C dX5_readAll_50 (by decide) c2 ?_
      exact g_sub [0, 1] rfl (fX5_readAll_b81_ok C σ x1 hf)
    · refine g_if_eq_f (tgt := 81) C dX5_readAll_50 (by decide) c2 ?_
      refine g_aload_n C dX5_readAll_53 rfl 0 rfl ?_
      refine g_get C (a_3 ad cy _) rfl hin_X5 4 (by decide) hF_X5_32 rfl rfl dX5_readAll_54 ?_
      refine g_sipush (v := 320) C dX5_readAll_57 (by decide) ?_
      rcases oi_e hf with ⟨c3, hf⟩ | ⟨c3, hf⟩
      · refine g_icmp_ge_t (tgt := 81) C dX5_readAll_60 (by decide) c3 ?_
        exact g_sub [0, 1] rfl (fX5_readAll_b81_ok C σ x1 hf)
      · refine g_icmp_ge_f (tgt := 81) C dX5_readAll_60 (by decide) c3 ?_
        refine g_aload_n C dX5_readAll_63 rfl 0 rfl ?_
        obtain ⟨r4, σ5, h6, hf⟩ := obp_e hf
        refine g_callVi (As := []) (rest := []) C (a_3 ad cy _) rfl (c_X5_readLine l dC dI ad cy ) h6 hM_X5_51 cal_X5_readLine ⟨Nat.zero_le _, Nat.zero_le _⟩ ⟨rfl, rfl⟩ ⟨Nat.le_of_ble_eq_true rfl, Nat.le_of_ble_eq_true rfl⟩ rfl rfl (Nat.le_of_ble_eq_true rfl) dX5_readAll_64 ?_
        refine g_istore_n (lv2 := [(0, .ref (ad 3)), (1, .int r4)]) C dX5_readAll_67 rfl (by decide) [1, 0] rfl ?_
        refine g_aload_n C dX5_readAll_68 rfl 0 rfl ?_
        refine g_dup C dX5_readAll_69 rfl ?_
        refine g_get C (a_3 ad cy _) rfl hin_X5 4 (by decide) hF_X5_32 rfl rfl dX5_readAll_70 ?_
        refine g_iconst (v := 1) C dX5_readAll_73 (by decide) ?_
        refine g_iadd C dX5_readAll_74 ?_
        obtain ⟨v7, ev7, hf⟩ := ol_e hf
        refine g_nm ev7 ?_
        obtain ⟨σ8, eσ8, hf⟩ := ol_e hf
        refine g_put (ty := .int) C (a_3 ad cy _) rfl hin_X5 tyX5 tyX5_ok nmX5 4 (by decide) hF_X5_32 rfl rfl (by decide +kernel) rfl rfl (Nat.le_of_ble_eq_true rfl) (p_3_4 ad cy _ _) eσ8 dX5_readAll_75 ?_
        refine g_goto (tgt := 39) C dX5_readAll_78 (by decide) ?_
        exact g_sub [0, 1] rfl (hs_39 σ8 r4 hf)
def fX5_readAll_h39  : Nat → S0 → Int32 → Option (Int32 × S0)
  | 0 => fun _ _ => none
  | n + 1 => fun σ x1 => fX5_readAll_b39  (fX5_readAll_h39  n) σ x1
set_option maxHeartbeats 1000000 in
set_option maxRecDepth 100000 in
theorem fX5_readAll_h39_ok {p : Program} {l : Launch} {e : Env} {s : State} {m : MethodId} {args : Array Value} {below : List Frame} {meth : Method} {c : Code} {dC : Nat → ClassId} {dI : Nat → Nat → Nat} {ad : Nat → Nat} {cy : Nat → ClassId} {sz : Nat} (C : Cx p s m args meth c RX5 cX5_readAll 2 (some .boolean) dC dI ad cy sz) {rr : Int32} {ρ : S0}  : ∀ (n : Nat) (σ : S0) (x1 : Int32)  (_hf : fX5_readAll_h39  n σ x1 = some (rr, ρ)), Gw p l e rm_X5_readAll s m args below meth c (MQ below (QcI dC dI ad cy sz rr ρ) args s 0 0 (AW ad sz)) dC dI ad cy 2 sz 0 0 39 [(0, .ref (ad 3)), (1, .int x1)] [] σ
  | 0, _, _, hf => by cases hf
  | n + 1, σ, x1, hf => fX5_readAll_b39_ok C  (fX5_readAll_h39  n) (fX5_readAll_h39_ok C  n) σ x1 hf
def fX5_readAll (σ : S0)  : Option (Int32 × S0) := obp (fX9_empty σ 4) (fun r1 σ2 => ol (su σ2 3 2 0) (fun σ4 => ol (su σ4 3 3 0) (fun σ5 => ol (su σ5 3 4 0) (fun σ6 => ol (su σ6 3 5 0) (fun σ7 => obp (fX8_rewind σ7) (fun r8 σ9 => obp (fX5_advance σ9) (fun r11 σ12 => fX5_readAll_h39 400 σ12 r11)))))))
set_option maxHeartbeats 1000000 in
set_option maxRecDepth 100000 in
theorem fX5_readAll_ok {p : Program} {l : Launch} {e : Env} {s : State} {m : MethodId} {args : Array Value} {below : List Frame} {meth : Method} {c : Code} {dC : Nat → ClassId} {dI : Nat → Nat → Nat} {ad : Nat → Nat} {cy : Nat → ClassId} {sz : Nat} (C : Cx p s m args meth c RX5 cX5_readAll 2 (some .boolean) dC dI ad cy sz) {rr : Int32} {ρ : S0} (σ : S0)   (hf : fX5_readAll σ = some (rr, ρ)) : Gw p l e rm_X5_readAll s m args below meth c (MQ below (QcI dC dI ad cy sz rr ρ) args s 0 0 (AW ad sz)) dC dI ad cy 2 sz 0 0 0 [(0, .ref (ad 3))] [] σ := by
  unfold fX5_readAll at hf
  refine g_aload_n C dX5_readAll_0 rfl 0 rfl ?_
  refine g_get C (a_3 ad cy _) rfl hin_X5 1 (by decide) hF_X5_12 rfl rfl dX5_readAll_1 ?_
  obtain ⟨r1, σ2, h3, hf⟩ := obp_e hf
  refine g_callVv (As := []) (rest := []) C (a_4 ad cy _) rfl (c_X9_empty l dC dI ad cy 4 k_isTown_4) h3 hM_X5_22 cal_X9_empty ⟨Nat.zero_le _, Nat.zero_le _⟩ ⟨rfl, rfl⟩ ⟨Nat.le_of_ble_eq_true rfl, Nat.le_of_ble_eq_true rfl⟩ rfl rfl (Nat.le_of_ble_eq_true rfl) dX5_readAll_4 ?_
  refine g_aload_n C dX5_readAll_7 rfl 0 rfl ?_
  refine g_iconst (v := 0) C dX5_readAll_8 (by decide) ?_
  obtain ⟨σ4, eσ4, hf⟩ := ol_e hf
  refine g_put (ty := .boolean) C (a_3 ad cy _) rfl hin_X5 tyX5 tyX5_ok nmX5 2 (by decide) hF_X5_25 rfl rfl (by decide +kernel) rfl rfl (Nat.le_of_ble_eq_true rfl) (p_3_2 ad cy _ _) eσ4 dX5_readAll_9 ?_
  refine g_aload_n C dX5_readAll_12 rfl 0 rfl ?_
  refine g_iconst (v := 0) C dX5_readAll_13 (by decide) ?_
  obtain ⟨σ5, eσ5, hf⟩ := ol_e hf
  refine g_put (ty := .boolean) C (a_3 ad cy _) rfl hin_X5 tyX5 tyX5_ok nmX5 3 (by decide) hF_X5_29 rfl rfl (by decide +kernel) rfl rfl (Nat.le_of_ble_eq_true rfl) (p_3_3 ad cy _ _) eσ5 dX5_readAll_14 ?_
  refine g_aload_n C dX5_readAll_17 rfl 0 rfl ?_
  refine g_iconst (v := 0) C dX5_readAll_18 (by decide) ?_
  obtain ⟨σ6, eσ6, hf⟩ := ol_e hf
  refine g_put (ty := .int) C (a_3 ad cy _) rfl hin_X5 tyX5 tyX5_ok nmX5 4 (by decide) hF_X5_32 rfl rfl (by decide +kernel) rfl rfl (Nat.le_of_ble_eq_true rfl) (p_3_4 ad cy _ _) eσ6 dX5_readAll_19 ?_
  refine g_aload_n C dX5_readAll_22 rfl 0 rfl ?_
  refine g_iconst (v := 0) C dX5_readAll_23 (by decide) ?_
  obtain ⟨σ7, eσ7, hf⟩ := ol_e hf
  refine g_put (ty := .int) C (a_3 ad cy _) rfl hin_X5 tyX5 tyX5_ok nmX5 5 (by decide) hF_X5_36 rfl rfl (by decide +kernel) rfl rfl (Nat.le_of_ble_eq_true rfl) (p_3_5 ad cy _ _) eσ7 dX5_readAll_24 ?_
  refine g_aload_n C dX5_readAll_27 rfl 0 rfl ?_
  refine g_get C (a_3 ad cy _) rfl hin_X5 0 (by decide) hF_X5_18 rfl rfl dX5_readAll_28 ?_
  obtain ⟨r8, σ9, h10, hf⟩ := obp_e hf
  refine g_callVv (As := []) (rest := []) C (a_1 ad cy _) rfl (c_X8_rewind l dC dI ad cy ) h10 hM_X5_39 cal_X8_rewind ⟨Nat.zero_le _, Nat.zero_le _⟩ ⟨rfl, rfl⟩ ⟨Nat.le_of_ble_eq_true rfl, Nat.le_of_ble_eq_true rfl⟩ rfl rfl (Nat.le_of_ble_eq_true rfl) dX5_readAll_31 ?_
  refine g_aload_n C dX5_readAll_34 rfl 0 rfl ?_
  obtain ⟨r11, σ12, h13, hf⟩ := obp_e hf
  refine g_callVi (As := []) (rest := []) C (a_3 ad cy _) rfl (c_X5_advance l dC dI ad cy ) h13 hM_X5_44 cal_X5_advance ⟨Nat.zero_le _, Nat.zero_le _⟩ ⟨rfl, rfl⟩ ⟨Nat.le_of_ble_eq_true rfl, Nat.le_of_ble_eq_true rfl⟩ rfl rfl (Nat.le_of_ble_eq_true rfl) dX5_readAll_35 ?_
  refine g_istore_n (lv2 := [(0, .ref (ad 3)), (1, .int r11)]) C dX5_readAll_38 rfl (by decide) [1, 0] rfl ?_
  exact g_sub [0, 1] rfl (fX5_readAll_h39_ok C 400 σ12 r11 hf)
theorem c_X5_readAll (l : Launch) (dC : Nat → ClassId) (dI : Nat → Nat → Nat) (ad : Nat → Nat) (cy : Nat → ClassId)  : ConI l yX5_readAll cX5_readAll 2 (some .boolean) rm_X5_readAll dC dI ad cy [.ref (ad 3)] (fun σ => fX5_readAll σ) := con_i (own := RX5) (by decide) rfl (Nat.le_of_ble_eq_true rfl) (fun _ _ _ _ _ _ _ _ σ _ _ C hf => fX5_readAll_ok C σ  hf)
theorem cal_X5_readAll : CalV yX5_readAll RX5 cX5_readAll 2 (some .boolean) 0 := ⟨hI_X5_readAll, hS_X5_readAll, hIni_X5, hC_X5_readAll, by decide +kernel⟩
abbrev rm_X10_feed : Room := { frames := 1, cells := 0, slots := 0, locals := 23 }
def fX10_feed (σ : S0) (x1 : Int64) : Option (Int32 × S0) := if ((σ 1 1) + 8) ≤ 320 then (obp (fX8_append σ x1) (fun r2 σ3 => some (σ3 1 1, σ3))) else (some ((-3), σ))
set_option maxHeartbeats 1000000 in
set_option maxRecDepth 100000 in
theorem fX10_feed_ok {p : Program} {l : Launch} {e : Env} {s : State} {m : MethodId} {args : Array Value} {below : List Frame} {meth : Method} {c : Code} {dC : Nat → ClassId} {dI : Nat → Nat → Nat} {ad : Nat → Nat} {cy : Nat → ClassId} {sz : Nat} (C : Cx p s m args meth c RX10 cX10_feed 3 (some .int) dC dI ad cy sz) {rr : Int32} {ρ : S0} (σ : S0) (x1 : Int64)  (hf : fX10_feed σ x1 = some (rr, ρ)) : Gw p l e rm_X10_feed s m args below meth c (MQ below (QcI dC dI ad cy sz rr ρ) args s 0 0 (AW ad sz)) dC dI ad cy 3 sz 0 0 0 [(0, .ref (ad 0)), (1, .long x1)] [] σ := by
  unfold fX10_feed at hf
  refine g_aload_n C dX10_feed_0 rfl 0 rfl ?_
  refine g_get C (a_0 ad cy _) rfl hin_X10 0 (by decide) hF_X10_12 rfl rfl dX10_feed_1 ?_
  refine g_get C (a_1 ad cy _) rfl hin_X8 1 (by decide) hF_X10_94 rfl rfl dX10_feed_4 ?_
  refine g_bipush (v := 8) C dX10_feed_7 (by decide) ?_
  refine g_iadd C dX10_feed_9 ?_
  refine g_sipush (v := 320) C dX10_feed_10 (by decide) ?_
  rcases oi_e hf with ⟨c1, hf⟩ | ⟨c1, hf⟩
  · refine g_icmp_le_t (tgt := 19) C dX10_feed_13 (by decide) c1 ?_
    refine g_aload_n C dX10_feed_19 rfl 0 rfl ?_
    refine g_get C (a_0 ad cy _) rfl hin_X10 0 (by decide) hF_X10_12 rfl rfl dX10_feed_20 ?_
    refine g_lload_n C dX10_feed_23 rfl 1 rfl ?_
    obtain ⟨r2, σ3, h4, hf⟩ := obp_e hf
    refine g_callVv (As := [.long x1]) (rest := []) C (a_1 ad cy _) rfl (c_X8_append l dC dI ad cy x1) h4 hM_X10_98 cal_X8_append ⟨Nat.zero_le _, Nat.zero_le _⟩ ⟨rfl, rfl⟩ ⟨Nat.le_of_ble_eq_true rfl, Nat.le_of_ble_eq_true rfl⟩ rfl rfl (Nat.le_of_ble_eq_true rfl) dX10_feed_24 ?_
    refine g_aload_n C dX10_feed_27 rfl 0 rfl ?_
    refine g_get C (a_0 ad cy _) rfl hin_X10 0 (by decide) hF_X10_12 rfl rfl dX10_feed_28 ?_
    refine g_get C (a_1 ad cy _) rfl hin_X8 1 (by decide) hF_X10_94 rfl rfl dX10_feed_31 ?_
    obtain ⟨rfl, rfl⟩ := os_e hf
    exact g_iret C rfl dX10_feed_34
  · refine g_icmp_le_f (tgt := 19) C dX10_feed_13 (by decide) c1 ?_
    refine g_bipush (v := (-3)) C dX10_feed_16 (by decide) ?_
    obtain ⟨rfl, rfl⟩ := os_e hf
    exact g_iret C rfl dX10_feed_18
theorem c_X10_feed (l : Launch) (dC : Nat → ClassId) (dI : Nat → Nat → Nat) (ad : Nat → Nat) (cy : Nat → ClassId) (x1 : Int64) : ConI l yX10_feed cX10_feed 3 (some .int) rm_X10_feed dC dI ad cy [.ref (ad 0), .long x1] (fun σ => fX10_feed σ x1) := con_i (own := RX10) (by decide) rfl (Nat.le_of_ble_eq_true rfl) (fun _ _ _ _ _ _ _ _ σ _ _ C hf => fX10_feed_ok C σ x1 hf)
theorem cal_X10_feed : CalV yX10_feed RX10 cX10_feed 3 (some .int) 1 := ⟨hI_X10_feed, hS_X10_feed, hIni_X10, hC_X10_feed, by decide +kernel⟩
abbrev rm_X10_end : Room := { frames := 0, cells := 0, slots := 0, locals := 0 }
def fX10_end (σ : S0) (x1 : Int32) : Option (Int32 × S0) := if x1 < 0 then (some ((-1), σ)) else (if x1 ≤ (σ 1 1) then (ol (σ 1 1) (fun v3 => ol (su σ 1 1 x1) (fun σ4 => some (v3, σ4)))) else (some ((-1), σ)))
set_option maxHeartbeats 1000000 in
set_option maxRecDepth 100000 in
theorem fX10_end_ok {p : Program} {l : Launch} {e : Env} {s : State} {m : MethodId} {args : Array Value} {below : List Frame} {meth : Method} {c : Code} {dC : Nat → ClassId} {dI : Nat → Nat → Nat} {ad : Nat → Nat} {cy : Nat → ClassId} {sz : Nat} (C : Cx p s m args meth c RX10 cX10_end 3 (some .int) dC dI ad cy sz) {rr : Int32} {ρ : S0} (σ : S0) (x1 : Int32)  (hf : fX10_end σ x1 = some (rr, ρ)) : Gw p l e rm_X10_end s m args below meth c (MQ below (QcI dC dI ad cy sz rr ρ) args s 0 0 (AW ad sz)) dC dI ad cy 3 sz 0 0 0 [(0, .ref (ad 0)), (1, .int x1)] [] σ := by
  unfold fX10_end at hf
  refine g_iload_n C dX10_end_0 rfl 1 rfl ?_
  rcases oi_e hf with ⟨c1, hf⟩ | ⟨c1, hf⟩
  · refine g_if_lt_t (tgt := 15) C dX10_end_1 (by decide) c1 ?_
    refine g_iconst (v := (-1)) C dX10_end_15 (by decide) ?_
    obtain ⟨rfl, rfl⟩ := os_e hf
    exact g_iret C rfl dX10_end_16
  · refine g_if_lt_f (tgt := 15) C dX10_end_1 (by decide) c1 ?_
    refine g_iload_n C dX10_end_4 rfl 1 rfl ?_
    refine g_aload_n C dX10_end_5 rfl 0 rfl ?_
    refine g_get C (a_0 ad cy _) rfl hin_X10 0 (by decide) hF_X10_12 rfl rfl dX10_end_6 ?_
    refine g_get C (a_1 ad cy _) rfl hin_X8 1 (by decide) hF_X10_94 rfl rfl dX10_end_9 ?_
    rcases oi_e hf with ⟨c2, hf⟩ | ⟨c2, hf⟩
    · refine g_icmp_le_t (tgt := 17) C dX10_end_12 (by decide) c2 ?_
      refine g_aload_n C dX10_end_17 rfl 0 rfl ?_
      refine g_get C (a_0 ad cy _) rfl hin_X10 0 (by decide) hF_X10_12 rfl rfl dX10_end_18 ?_
      refine g_get C (a_1 ad cy _) rfl hin_X8 1 (by decide) hF_X10_94 rfl rfl dX10_end_21 ?_
      obtain ⟨v3, ev3, hf⟩ := ol_e hf
      refine g_nm ev3 ?_
      refine g_istore_n (lv2 := [(0, .ref (ad 0)), (1, .int x1), (2, .int v3)]) C dX10_end_24 rfl (by decide) [1, 2, 0] rfl ?_
      refine g_aload_n C dX10_end_25 rfl 0 rfl ?_
      refine g_get C (a_0 ad cy _) rfl hin_X10 0 (by decide) hF_X10_12 rfl rfl dX10_end_26 ?_
      refine g_iload_n C dX10_end_29 rfl 1 rfl ?_
      obtain ⟨σ4, eσ4, hf⟩ := ol_e hf
      refine g_put (ty := .int) C (a_1 ad cy _) rfl hin_X8 tyX8 tyX8_ok nmX8 1 (by decide) hF_X10_94 rfl rfl (by decide +kernel) rfl rfl (Nat.le_of_ble_eq_true rfl) (p_1_1 ad cy _ _) eσ4 dX10_end_30 ?_
      refine g_iload_n C dX10_end_33 rfl 2 rfl ?_
      obtain ⟨rfl, rfl⟩ := os_e hf
      exact g_iret C rfl dX10_end_34
    · refine g_icmp_le_f (tgt := 17) C dX10_end_12 (by decide) c2 ?_
      refine g_iconst (v := (-1)) C dX10_end_15 (by decide) ?_
      obtain ⟨rfl, rfl⟩ := os_e hf
      exact g_iret C rfl dX10_end_16
theorem c_X10_end (l : Launch) (dC : Nat → ClassId) (dI : Nat → Nat → Nat) (ad : Nat → Nat) (cy : Nat → ClassId) (x1 : Int32) : ConI l yX10_end cX10_end 3 (some .int) rm_X10_end dC dI ad cy [.ref (ad 0), .int x1] (fun σ => fX10_end σ x1) := con_i (own := RX10) (by decide) rfl (Nat.le_of_ble_eq_true rfl) (fun _ _ _ _ _ _ _ _ σ _ _ C hf => fX10_end_ok C σ x1 hf)
theorem cal_X10_end : CalV yX10_end RX10 cX10_end 3 (some .int) 1 := ⟨hI_X10_end, hS_X10_end, hIni_X10, hC_X10_end, by decide +kernel⟩
abbrev rm_X10_text : Room := { frames := 9, cells := 0, slots := 0, locals := 194 }
def fX10_text_b47 (sf_47 : S0 → Int32 → Option (Int32 × S0)) (σ : S0) (x2 : Int32) : Option (Int32 × S0) := if (2 : Int32) ≤ x2 then (some (σ 3 4, σ)) else (og (¬ (x2 < 0 ∨ 2 ≤ x2.toNatClampNeg)) (ol (su σ 72 x2.toNatClampNeg (vp_nar .boolean 0)) (fun σ3 => ol (x2 + 1) (fun v4 => sf_47 σ3 v4))))
set_option maxHeartbeats 1000000 in
set_option maxRecDepth 100000 in
theorem fX10_text_b47_ok {p : Program} {l : Launch} {e : Env} {s : State} {m : MethodId} {args : Array Value} {below : List Frame} {meth : Method} {c : Code} {dC : Nat → ClassId} {dI : Nat → Nat → Nat} {ad : Nat → Nat} {cy : Nat → ClassId} {sz : Nat} (C : Cx p s m args meth c RX10 cX10_text 3 (some .int) dC dI ad cy sz) {rr : Int32} {ρ : S0} (sf_47 : S0 → Int32 → Option (Int32 × S0)) (hs_47 : ∀ (σ : S0) (x2 : Int32) , sf_47 σ x2 = some (rr, ρ) → Gw p l e rm_X10_text s m args below meth c (MQ below (QcI dC dI ad cy sz rr ρ) args s 0 0 (AW ad sz)) dC dI ad cy 3 sz 0 0 47 [(0, .ref (ad 0)), (2, .int x2)] [] σ) (σ : S0) (x2 : Int32)  (hf : fX10_text_b47 sf_47 σ x2 = some (rr, ρ)) : Gw p l e rm_X10_text s m args below meth c (MQ below (QcI dC dI ad cy sz rr ρ) args s 0 0 (AW ad sz)) dC dI ad cy 3 sz 0 0 47 [(0, .ref (ad 0)), (2, .int x2)] [] σ := by
  unfold fX10_text_b47 at hf
  refine g_iload_n C dX10_text_47 rfl 1 rfl ?_
  refine g_iconst (v := 2) C dX10_text_48 (by decide) ?_
  rcases oi_e hf with ⟨c1, hf⟩ | ⟨c1, hf⟩
  · refine g_icmp_ge_t (tgt := 65) C dX10_text_49 (by decide) c1 ?_
    refine g_aload_n C dX10_text_65 rfl 0 rfl ?_
    refine g_get C (a_0 ad cy _) rfl hin_X10 1 (by decide) hF_X10_21 rfl rfl dX10_text_66 ?_
    refine g_get C (a_3 ad cy _) rfl hin_X5 4 (by decide) hF_X10_115 rfl rfl dX10_text_69 ?_
    obtain ⟨rfl, rfl⟩ := os_e hf
    exact g_iret C rfl dX10_text_72
  · refine g_icmp_ge_f (tgt := 65) C dX10_text_49 (by decide) c1 ?_
    refine g_aload_n C dX10_text_52 rfl 0 rfl ?_
    refine g_get C (a_0 ad cy _) rfl hin_X10 10 (by decide) hF_X10_82 rfl rfl dX10_text_53 ?_
    refine g_iload_n C dX10_text_56 rfl 1 rfl ?_
    refine g_iconst (v := 0) C dX10_text_57 (by decide) ?_
    obtain ⟨h2, hf⟩ := og_e hf
    obtain ⟨σ3, eσ3, hf⟩ := ol_e hf
    refine g_zast C (a_72 ad cy _) h2 (w_72 ad cy _) eσ3 dX10_text_58 ?_
    obtain ⟨v4, ev4, hf⟩ := ol_e hf
    refine g_iinc (j := 1) (w := 1) (lv2 := [(0, .ref (ad 0)), (2, .int v4)]) C dX10_text_59 rfl (by decide) ev4 (by decide) [1, 0] rfl ?_
    refine g_goto (tgt := 47) C dX10_text_62 (by decide) ?_
    exact g_sub [0, 1] rfl (hs_47 σ3 v4 hf)
def fX10_text_h47  : Nat → S0 → Int32 → Option (Int32 × S0)
  | 0 => fun _ _ => none
  | n + 1 => fun σ x2 => fX10_text_b47  (fX10_text_h47  n) σ x2
set_option maxHeartbeats 1000000 in
set_option maxRecDepth 100000 in
theorem fX10_text_h47_ok {p : Program} {l : Launch} {e : Env} {s : State} {m : MethodId} {args : Array Value} {below : List Frame} {meth : Method} {c : Code} {dC : Nat → ClassId} {dI : Nat → Nat → Nat} {ad : Nat → Nat} {cy : Nat → ClassId} {sz : Nat} (C : Cx p s m args meth c RX10 cX10_text 3 (some .int) dC dI ad cy sz) {rr : Int32} {ρ : S0}  : ∀ (n : Nat) (σ : S0) (x2 : Int32)  (_hf : fX10_text_h47  n σ x2 = some (rr, ρ)), Gw p l e rm_X10_text s m args below meth c (MQ below (QcI dC dI ad cy sz rr ρ) args s 0 0 (AW ad sz)) dC dI ad cy 3 sz 0 0 47 [(0, .ref (ad 0)), (2, .int x2)] [] σ
  | 0, _, _, hf => by cases hf
  | n + 1, σ, x2, hf => fX10_text_b47_ok C  (fX10_text_h47  n) (fX10_text_h47_ok C  n) σ x2 hf
def fX10_text (σ : S0)  : Option (Int32 × S0) := obp (fX5_readAll σ) (fun r1 σ2 => ol (su σ2 1 1 0) (fun σ4 => if ¬ r1 = 0 then (obp (fX9_copyFrom σ4 22 4) (fun r6 σ7 => fX10_text_h47 400 σ7 0)) else (some (((-10)) - (σ4 3 6), σ4))))
set_option maxHeartbeats 1000000 in
set_option maxRecDepth 100000 in
theorem fX10_text_ok {p : Program} {l : Launch} {e : Env} {s : State} {m : MethodId} {args : Array Value} {below : List Frame} {meth : Method} {c : Code} {dC : Nat → ClassId} {dI : Nat → Nat → Nat} {ad : Nat → Nat} {cy : Nat → ClassId} {sz : Nat} (C : Cx p s m args meth c RX10 cX10_text 3 (some .int) dC dI ad cy sz) {rr : Int32} {ρ : S0} (σ : S0)   (hf : fX10_text σ = some (rr, ρ)) : Gw p l e rm_X10_text s m args below meth c (MQ below (QcI dC dI ad cy sz rr ρ) args s 0 0 (AW ad sz)) dC dI ad cy 3 sz 0 0 0 [(0, .ref (ad 0))] [] σ := by
  unfold fX10_text at hf
  refine g_aload_n C dX10_text_0 rfl 0 rfl ?_
  refine g_get C (a_0 ad cy _) rfl hin_X10 1 (by decide) hF_X10_21 rfl rfl dX10_text_1 ?_
  obtain ⟨r1, σ2, h3, hf⟩ := obp_e hf
  refine g_callVi (As := []) (rest := []) C (a_3 ad cy _) rfl (c_X5_readAll l dC dI ad cy ) h3 hM_X10_102 cal_X5_readAll ⟨Nat.zero_le _, Nat.zero_le _⟩ ⟨rfl, rfl⟩ ⟨Nat.le_of_ble_eq_true rfl, Nat.le_of_ble_eq_true rfl⟩ rfl rfl (Nat.le_of_ble_eq_true rfl) dX10_text_4 ?_
  refine g_istore_n (lv2 := [(0, .ref (ad 0)), (1, .int r1)]) C dX10_text_7 rfl (by decide) [1, 0] rfl ?_
  refine g_aload_n C dX10_text_8 rfl 0 rfl ?_
  refine g_get C (a_0 ad cy _) rfl hin_X10 0 (by decide) hF_X10_12 rfl rfl dX10_text_9 ?_
  refine g_iconst (v := 0) C dX10_text_12 (by decide) ?_
  obtain ⟨σ4, eσ4, hf⟩ := ol_e hf
  refine g_put (ty := .int) C (a_1 ad cy _) rfl hin_X8 tyX8 tyX8_ok nmX8 1 (by decide) hF_X10_94 rfl rfl (by decide +kernel) rfl rfl (Nat.le_of_ble_eq_true rfl) (p_1_1 ad cy _ _) eσ4 dX10_text_13 ?_
  refine g_iload_n C dX10_text_16 rfl 1 rfl ?_
  rcases oi_e hf with ⟨c5, hf⟩ | ⟨c5, hf⟩
  · refine g_if_ne_t (tgt := 31) C dX10_text_17 (by decide) c5 ?_
    refine g_aload_n C dX10_text_31 rfl 0 rfl ?_
    refine g_get C (a_0 ad cy _) rfl hin_X10 2 (by decide) hF_X10_28 rfl rfl dX10_text_32 ?_
    refine g_aload_n C dX10_text_35 rfl 0 rfl ?_
    refine g_get C (a_0 ad cy _) rfl hin_X10 1 (by decide) hF_X10_21 rfl rfl dX10_text_36 ?_
    refine g_get C (a_3 ad cy _) rfl hin_X5 1 (by decide) hF_X10_109 rfl rfl dX10_text_39 ?_
    obtain ⟨r6, σ7, h8, hf⟩ := obp_e hf
    refine g_callVv (As := [.ref (ad 4)]) (rest := []) C (a_22 ad cy _) rfl (c_X9_copyFrom l dC dI ad cy 22 k_isTown_22 4 k_isTown_4) h8 hM_X10_112 cal_X9_copyFrom ⟨Nat.zero_le _, Nat.zero_le _⟩ ⟨rfl, rfl⟩ ⟨Nat.le_of_ble_eq_true rfl, Nat.le_of_ble_eq_true rfl⟩ rfl rfl (Nat.le_of_ble_eq_true rfl) dX10_text_42 ?_
    refine g_iconst (v := 0) C dX10_text_45 (by decide) ?_
    refine g_istore_n (lv2 := [(0, .ref (ad 0)), (1, .int r1), (2, .int 0)]) C dX10_text_46 rfl (by decide) [1, 2, 0] rfl ?_
    exact g_sub [0, 2] rfl (fX10_text_h47_ok C 400 σ7 0 hf)
  · refine g_if_ne_f (tgt := 31) C dX10_text_17 (by decide) (Decidable.of_not_not c5) ?_
    refine g_bipush (v := (-10)) C dX10_text_20 (by decide) ?_
    refine g_aload_n C dX10_text_22 rfl 0 rfl ?_
    refine g_get C (a_0 ad cy _) rfl hin_X10 1 (by decide) hF_X10_21 rfl rfl dX10_text_23 ?_
    refine g_get C (a_3 ad cy _) rfl hin_X5 6 (by decide) hF_X10_106 rfl rfl dX10_text_26 ?_
    refine g_isub C dX10_text_29 ?_
    obtain ⟨rfl, rfl⟩ := os_e hf
    exact g_iret C rfl dX10_text_30
theorem c_X10_text (l : Launch) (dC : Nat → ClassId) (dI : Nat → Nat → Nat) (ad : Nat → Nat) (cy : Nat → ClassId)  : ConI l yX10_text cX10_text 3 (some .int) rm_X10_text dC dI ad cy [.ref (ad 0)] (fun σ => fX10_text σ) := con_i (own := RX10) (by decide) rfl (Nat.le_of_ble_eq_true rfl) (fun _ _ _ _ _ _ _ _ σ _ _ C hf => fX10_text_ok C σ  hf)
theorem cal_X10_text : CalV yX10_text RX10 cX10_text 3 (some .int) 0 := ⟨hI_X10_text, hS_X10_text, hIni_X10, hC_X10_text, by decide +kernel⟩
abbrev rm_X10_fault : Room := { frames := 0, cells := 0, slots := 0, locals := 0 }
def fX10_fault (σ : S0)  : Option (Int32 × S0) := some (σ 3 5, σ)
set_option maxHeartbeats 1000000 in
set_option maxRecDepth 100000 in
theorem fX10_fault_ok {p : Program} {l : Launch} {e : Env} {s : State} {m : MethodId} {args : Array Value} {below : List Frame} {meth : Method} {c : Code} {dC : Nat → ClassId} {dI : Nat → Nat → Nat} {ad : Nat → Nat} {cy : Nat → ClassId} {sz : Nat} (C : Cx p s m args meth c RX10 cX10_fault 1 (some .int) dC dI ad cy sz) {rr : Int32} {ρ : S0} (σ : S0)   (hf : fX10_fault σ = some (rr, ρ)) : Gw p l e rm_X10_fault s m args below meth c (MQ below (QcI dC dI ad cy sz rr ρ) args s 0 0 (AW ad sz)) dC dI ad cy 1 sz 0 0 0 [(0, .ref (ad 0))] [] σ := by
  unfold fX10_fault at hf
  refine g_aload_n C dX10_fault_0 rfl 0 rfl ?_
  refine g_get C (a_0 ad cy _) rfl hin_X10 1 (by decide) hF_X10_21 rfl rfl dX10_fault_1 ?_
  refine g_get C (a_3 ad cy _) rfl hin_X5 5 (by decide) hF_X10_118 rfl rfl dX10_fault_4 ?_
  obtain ⟨rfl, rfl⟩ := os_e hf
  exact g_iret C rfl dX10_fault_7
theorem c_X10_fault (l : Launch) (dC : Nat → ClassId) (dI : Nat → Nat → Nat) (ad : Nat → Nat) (cy : Nat → ClassId)  : ConI l yX10_fault cX10_fault 1 (some .int) rm_X10_fault dC dI ad cy [.ref (ad 0)] (fun σ => fX10_fault σ) := con_i (own := RX10) (by decide) rfl (Nat.le_of_ble_eq_true rfl) (fun _ _ _ _ _ _ _ _ σ _ _ C hf => fX10_fault_ok C σ  hf)
theorem cal_X10_fault : CalV yX10_fault RX10 cX10_fault 1 (some .int) 0 := ⟨hI_X10_fault, hS_X10_fault, hIni_X10, hC_X10_fault, by decide +kernel⟩
abbrev rm_X10_rule : Room := { frames := 0, cells := 0, slots := 0, locals := 0 }
def fX10_rule (σ : S0) (x1 : Int32) : Option (Int32 × S0) := if x1 = 0 then (some (σ 22 0, σ)) else if x1 = 1 then (some (σ 22 1, σ)) else (some ((-1), σ))
set_option maxHeartbeats 1000000 in
set_option maxRecDepth 100000 in
theorem fX10_rule_ok {p : Program} {l : Launch} {e : Env} {s : State} {m : MethodId} {args : Array Value} {below : List Frame} {meth : Method} {c : Code} {dC : Nat → ClassId} {dI : Nat → Nat → Nat} {ad : Nat → Nat} {cy : Nat → ClassId} {sz : Nat} (C : Cx p s m args meth c RX10 cX10_rule 2 (some .int) dC dI ad cy sz) {rr : Int32} {ρ : S0} (σ : S0) (x1 : Int32)  (hf : fX10_rule σ x1 = some (rr, ρ)) : Gw p l e rm_X10_rule s m args below meth c (MQ below (QcI dC dI ad cy sz rr ρ) args s 0 0 (AW ad sz)) dC dI ad cy 2 sz 0 0 0 [(0, .ref (ad 0)), (1, .int x1)] [] σ := by
  unfold fX10_rule at hf
  refine g_iload_n C dX10_rule_0 rfl 1 rfl ?_
  rcases oi_e hf with ⟨c1, hf⟩ | ⟨c1, hf⟩
  · refine g_lookup (tgt := 28) C dX10_rule_1 rfl (by rw [c1] <;> rfl) (by decide) ?_
    refine g_aload_n C dX10_rule_28 rfl 0 rfl ?_
    refine g_get C (a_0 ad cy _) rfl hin_X10 2 (by decide) hF_X10_28 rfl rfl dX10_rule_29 ?_
    refine g_get C (a_22 ad cy _) rfl hin_X9 0 (by decide) hF_X10_121 rfl rfl dX10_rule_32 ?_
    obtain ⟨rfl, rfl⟩ := os_e hf
    exact g_iret C rfl dX10_rule_35
  · skip
    rcases oi_e hf with ⟨c2, hf⟩ | ⟨c2, hf⟩
    · refine g_lookup (tgt := 36) C dX10_rule_1 rfl (by rw [c2] <;> rfl) (by decide) ?_
      refine g_aload_n C dX10_rule_36 rfl 0 rfl ?_
      refine g_get C (a_0 ad cy _) rfl hin_X10 2 (by decide) hF_X10_28 rfl rfl dX10_rule_37 ?_
      refine g_get C (a_22 ad cy _) rfl hin_X9 1 (by decide) hF_X10_124 rfl rfl dX10_rule_40 ?_
      obtain ⟨rfl, rfl⟩ := os_e hf
      exact g_iret C rfl dX10_rule_43
    · skip
      refine g_lookup (tgt := 44) (off := 43) C dX10_rule_1 rfl (by show (if (0 : Int) = x1.toInt then (27 : Int) else if (1 : Int) = x1.toInt then (35 : Int) else 43) = 43; rw [if_neg (lk_ne (a := 0) (by decide) c1), if_neg (lk_ne (a := 1) (by decide) c2)]) (by decide) ?_
      refine g_iconst (v := (-1)) C dX10_rule_44 (by decide) ?_
      obtain ⟨rfl, rfl⟩ := os_e hf
      exact g_iret C rfl dX10_rule_45
theorem c_X10_rule (l : Launch) (dC : Nat → ClassId) (dI : Nat → Nat → Nat) (ad : Nat → Nat) (cy : Nat → ClassId) (x1 : Int32) : ConI l yX10_rule cX10_rule 2 (some .int) rm_X10_rule dC dI ad cy [.ref (ad 0), .int x1] (fun σ => fX10_rule σ x1) := con_i (own := RX10) (by decide) rfl (Nat.le_of_ble_eq_true rfl) (fun _ _ _ _ _ _ _ _ σ _ _ C hf => fX10_rule_ok C σ x1 hf)
theorem cal_X10_rule : CalV yX10_rule RX10 cX10_rule 2 (some .int) 1 := ⟨hI_X10_rule, hS_X10_rule, hIni_X10, hC_X10_rule, by decide +kernel⟩
abbrev rm_X10_bell : Room := { frames := 1, cells := 0, slots := 0, locals := 21 }
def fX10_bell (σ : S0) (x1 : Int32) (x2 : Int32) : Option (Int32 × S0) := obp (fX1_hasBell σ 32 x1) (fun r1 σ2 => if ¬ r1 = 0 then (if x2.toInt < 0 ∨ 4 < x2.toInt then (some ((-1), σ2)) else if x2 = 0 then (og (¬ (x1 < 0 ∨ 12 ≤ x1.toNatClampNeg)) (ol (σ2 33 x1.toNatClampNeg) (fun v8 => some (v8, σ2)))) else if x2 = 1 then (og (¬ (x1 < 0 ∨ 12 ≤ x1.toNatClampNeg)) (ol (σ2 34 x1.toNatClampNeg) (fun v11 => some (v11, σ2)))) else if x2 = 2 then (og (¬ (x1 < 0 ∨ 12 ≤ x1.toNatClampNeg)) (ol (σ2 35 x1.toNatClampNeg) (fun v14 => some (v14, σ2)))) else if x2 = 3 then (og (¬ (x1 < 0 ∨ 12 ≤ x1.toNatClampNeg)) (ol (σ2 36 x1.toNatClampNeg) (fun v17 => some (v17, σ2)))) else if x2 = 4 then (og (¬ (x1 < 0 ∨ 12 ≤ x1.toNatClampNeg)) (ol (σ2 37 x1.toNatClampNeg) (fun v20 => some (v20, σ2)))) else none) else (some ((-1), σ2)))
set_option maxHeartbeats 1000000 in
set_option maxRecDepth 100000 in
theorem fX10_bell_ok {p : Program} {l : Launch} {e : Env} {s : State} {m : MethodId} {args : Array Value} {below : List Frame} {meth : Method} {c : Code} {dC : Nat → ClassId} {dI : Nat → Nat → Nat} {ad : Nat → Nat} {cy : Nat → ClassId} {sz : Nat} (C : Cx p s m args meth c RX10 cX10_bell 3 (some .int) dC dI ad cy sz) {rr : Int32} {ρ : S0} (σ : S0) (x1 : Int32) (x2 : Int32)  (hf : fX10_bell σ x1 x2 = some (rr, ρ)) : Gw p l e rm_X10_bell s m args below meth c (MQ below (QcI dC dI ad cy sz rr ρ) args s 0 0 (AW ad sz)) dC dI ad cy 3 sz 0 0 0 [(0, .ref (ad 0)), (1, .int x1), (2, .int x2)] [] σ := by
  unfold fX10_bell at hf
  refine g_aload_n C dX10_bell_0 rfl 0 rfl ?_
  refine g_get C (a_0 ad cy _) rfl hin_X10 3 (by decide) hF_X10_36 rfl rfl dX10_bell_1 ?_
  refine g_iload_n C dX10_bell_4 rfl 1 rfl ?_
  obtain ⟨r1, σ2, h3, hf⟩ := obp_e hf
  refine g_callVi (As := [.int x1]) (rest := []) C (a_32 ad cy _) rfl (c_X1_hasBell l dC dI ad cy 32 k_isChimes_32 x1) h3 hM_X10_127 cal_X1_hasBell ⟨Nat.zero_le _, Nat.zero_le _⟩ ⟨rfl, rfl⟩ ⟨Nat.le_of_ble_eq_true rfl, Nat.le_of_ble_eq_true rfl⟩ rfl rfl (Nat.le_of_ble_eq_true rfl) dX10_bell_5 ?_
  rcases oi_e hf with ⟨c4, hf⟩ | ⟨c4, hf⟩
  · refine g_if_ne_t (tgt := 13) C dX10_bell_8 (by decide) c4 ?_
    refine g_iload_n C dX10_bell_13 rfl 2 rfl ?_
    rcases oi_e hf with ⟨c5, hf⟩ | ⟨c5, hf⟩
    · refine g_tout (tgt := 98) C dX10_bell_14 c5 (by decide) ?_
      refine g_iconst (v := (-1)) C dX10_bell_98 (by decide) ?_
      obtain ⟨rfl, rfl⟩ := os_e hf
      exact g_iret C rfl dX10_bell_99
    · skip
      rcases oi_e hf with ⟨c6, hf⟩ | ⟨c6, hf⟩
      · refine g_tin (tgt := 48) C dX10_bell_14 (by rw [c6]; decide) (by rw [c6]; decide) (by rw [c6]; rfl) (by decide) ?_
        refine g_aload_n C dX10_bell_48 rfl 0 rfl ?_
        refine g_get C (a_0 ad cy _) rfl hin_X10 3 (by decide) hF_X10_36 rfl rfl dX10_bell_49 ?_
        refine g_get C (a_32 ad cy _) rfl hin_X1 1 (by decide) hF_X10_131 rfl rfl dX10_bell_52 ?_
        refine g_iload_n C dX10_bell_55 rfl 1 rfl ?_
        obtain ⟨h7, hf⟩ := og_e hf
        refine g_iald C (a_33 ad cy _) h7 dX10_bell_56 ?_
        obtain ⟨v8, ev8, hf⟩ := ol_e hf
        refine g_nm ev8 ?_
        obtain ⟨rfl, rfl⟩ := os_e hf
        exact g_iret C rfl dX10_bell_57
      · skip
        rcases oi_e hf with ⟨c9, hf⟩ | ⟨c9, hf⟩
        · refine g_tin (tgt := 58) C dX10_bell_14 (by rw [c9]; decide) (by rw [c9]; decide) (by rw [c9]; rfl) (by decide) ?_
          refine g_aload_n C dX10_bell_58 rfl 0 rfl ?_
          refine g_get C (a_0 ad cy _) rfl hin_X10 3 (by decide) hF_X10_36 rfl rfl dX10_bell_59 ?_
          refine g_get C (a_32 ad cy _) rfl hin_X1 2 (by decide) hF_X10_135 rfl rfl dX10_bell_62 ?_
          refine g_iload_n C dX10_bell_65 rfl 1 rfl ?_
          obtain ⟨h10, hf⟩ := og_e hf
          refine g_iald C (a_34 ad cy _) h10 dX10_bell_66 ?_
          obtain ⟨v11, ev11, hf⟩ := ol_e hf
          refine g_nm ev11 ?_
          obtain ⟨rfl, rfl⟩ := os_e hf
          exact g_iret C rfl dX10_bell_67
        · skip
          rcases oi_e hf with ⟨c12, hf⟩ | ⟨c12, hf⟩
          · refine g_tin (tgt := 68) C dX10_bell_14 (by rw [c12]; decide) (by rw [c12]; decide) (by rw [c12]; rfl) (by decide) ?_
            refine g_aload_n C dX10_bell_68 rfl 0 rfl ?_
            refine g_get C (a_0 ad cy _) rfl hin_X10 3 (by decide) hF_X10_36 rfl rfl dX10_bell_69 ?_
            refine g_get C (a_32 ad cy _) rfl hin_X1 3 (by decide) hF_X10_138 rfl rfl dX10_bell_72 ?_
            refine g_iload_n C dX10_bell_75 rfl 1 rfl ?_
            obtain ⟨h13, hf⟩ := og_e hf
            refine g_iald C (a_35 ad cy _) h13 dX10_bell_76 ?_
            obtain ⟨v14, ev14, hf⟩ := ol_e hf
            refine g_nm ev14 ?_
            obtain ⟨rfl, rfl⟩ := os_e hf
            exact g_iret C rfl dX10_bell_77
          · skip
            rcases oi_e hf with ⟨c15, hf⟩ | ⟨c15, hf⟩
            · refine g_tin (tgt := 78) C dX10_bell_14 (by rw [c15]; decide) (by rw [c15]; decide) (by rw [c15]; rfl) (by decide) ?_
              refine g_aload_n C dX10_bell_78 rfl 0 rfl ?_
              refine g_get C (a_0 ad cy _) rfl hin_X10 3 (by decide) hF_X10_36 rfl rfl dX10_bell_79 ?_
              refine g_get C (a_32 ad cy _) rfl hin_X1 4 (by decide) hF_X10_141 rfl rfl dX10_bell_82 ?_
              refine g_iload_n C dX10_bell_85 rfl 1 rfl ?_
              obtain ⟨h16, hf⟩ := og_e hf
              refine g_iald C (a_36 ad cy _) h16 dX10_bell_86 ?_
              obtain ⟨v17, ev17, hf⟩ := ol_e hf
              refine g_nm ev17 ?_
              obtain ⟨rfl, rfl⟩ := os_e hf
              exact g_iret C rfl dX10_bell_87
            · skip
              rcases oi_e hf with ⟨c18, hf⟩ | ⟨c18, hf⟩
              · refine g_tin (tgt := 88) C dX10_bell_14 (by rw [c18]; decide) (by rw [c18]; decide) (by rw [c18]; rfl) (by decide) ?_
                refine g_aload_n C dX10_bell_88 rfl 0 rfl ?_
                refine g_get C (a_0 ad cy _) rfl hin_X10 3 (by decide) hF_X10_36 rfl rfl dX10_bell_89 ?_
                refine g_get C (a_32 ad cy _) rfl hin_X1 5 (by decide) hF_X10_144 rfl rfl dX10_bell_92 ?_
                refine g_iload_n C dX10_bell_95 rfl 1 rfl ?_
                obtain ⟨h19, hf⟩ := og_e hf
                refine g_iald C (a_37 ad cy _) h19 dX10_bell_96 ?_
                obtain ⟨v20, ev20, hf⟩ := ol_e hf
                refine g_nm ev20 ?_
                obtain ⟨rfl, rfl⟩ := os_e hf
                exact g_iret C rfl dX10_bell_97
              · skip
                cases hf
  · refine g_if_ne_f (tgt := 13) C dX10_bell_8 (by decide) (Decidable.of_not_not c4) ?_
    refine g_iconst (v := (-1)) C dX10_bell_11 (by decide) ?_
    obtain ⟨rfl, rfl⟩ := os_e hf
    exact g_iret C rfl dX10_bell_12
theorem c_X10_bell (l : Launch) (dC : Nat → ClassId) (dI : Nat → Nat → Nat) (ad : Nat → Nat) (cy : Nat → ClassId) (x1 : Int32) (x2 : Int32) : ConI l yX10_bell cX10_bell 3 (some .int) rm_X10_bell dC dI ad cy [.ref (ad 0), .int x1, .int x2] (fun σ => fX10_bell σ x1 x2) := con_i (own := RX10) (by decide) rfl (Nat.le_of_ble_eq_true rfl) (fun _ _ _ _ _ _ _ _ σ _ _ C hf => fX10_bell_ok C σ x1 x2 hf)
theorem cal_X10_bell : CalV yX10_bell RX10 cX10_bell 3 (some .int) 2 := ⟨hI_X10_bell, hS_X10_bell, hIni_X10, hC_X10_bell, by decide +kernel⟩
abbrev rm_X10_tune : Room := { frames := 1, cells := 0, slots := 0, locals := 22 }
def fX10_tune (σ : S0) (x1 : Int32) (x2 : Int32) : Option (Int32 × S0) := obp (fX9_hasTune σ 22 x1) (fun r1 σ2 => if ¬ r1 = 0 then (if ¬ x2 = 0 then (if ¬ x2 = 1 then (obp (fX9_asksStroke σ2 22 x1 x2) (fun r7 σ8 => if r7 = 0 then (some ((-1), σ8)) else (og (¬ (x1 < 0 ∨ 6 ≤ x1.toNatClampNeg)) (ol (26 + 1 * x1.toNatClampNeg) (fun q12 => ol (x2 - 10) (fun v13 => og (¬ (v13 < 0 ∨ 12 ≤ v13.toNatClampNeg)) (ol (σ8 q12 v13.toNatClampNeg) (fun v15 => some (v15, σ8))))))))) else (og (¬ (x1 < 0 ∨ 6 ≤ x1.toNatClampNeg)) (ol (σ2 24 x1.toNatClampNeg) (fun v17 => some (v17, σ2))))) else (og (¬ (x1 < 0 ∨ 6 ≤ x1.toNatClampNeg)) (ol (σ2 23 x1.toNatClampNeg) (fun v19 => some (v19, σ2))))) else (some ((-1), σ2)))
set_option maxHeartbeats 1000000 in
set_option maxRecDepth 100000 in
theorem fX10_tune_ok {p : Program} {l : Launch} {e : Env} {s : State} {m : MethodId} {args : Array Value} {below : List Frame} {meth : Method} {c : Code} {dC : Nat → ClassId} {dI : Nat → Nat → Nat} {ad : Nat → Nat} {cy : Nat → ClassId} {sz : Nat} (C : Cx p s m args meth c RX10 cX10_tune 3 (some .int) dC dI ad cy sz) {rr : Int32} {ρ : S0} (σ : S0) (x1 : Int32) (x2 : Int32)  (hf : fX10_tune σ x1 x2 = some (rr, ρ)) : Gw p l e rm_X10_tune s m args below meth c (MQ below (QcI dC dI ad cy sz rr ρ) args s 0 0 (AW ad sz)) dC dI ad cy 3 sz 0 0 0 [(0, .ref (ad 0)), (1, .int x1), (2, .int x2)] [] σ := by
  unfold fX10_tune at hf
  refine g_aload_n C dX10_tune_0 rfl 0 rfl ?_
  refine g_get C (a_0 ad cy _) rfl hin_X10 2 (by decide) hF_X10_28 rfl rfl dX10_tune_1 ?_
  refine g_iload_n C dX10_tune_4 rfl 1 rfl ?_
  obtain ⟨r1, σ2, h3, hf⟩ := obp_e hf
  refine g_callVi (As := [.int x1]) (rest := []) C (a_22 ad cy _) rfl (c_X9_hasTune l dC dI ad cy 22 k_isTown_22 x1) h3 hM_X10_147 cal_X9_hasTune ⟨Nat.zero_le _, Nat.zero_le _⟩ ⟨rfl, rfl⟩ ⟨Nat.le_of_ble_eq_true rfl, Nat.le_of_ble_eq_true rfl⟩ rfl rfl (Nat.le_of_ble_eq_true rfl) dX10_tune_5 ?_
  rcases oi_e hf with ⟨c4, hf⟩ | ⟨c4, hf⟩
  · refine g_if_ne_t (tgt := 13) C dX10_tune_8 (by decide) c4 ?_
    refine g_iload_n C dX10_tune_13 rfl 2 rfl ?_
    rcases oi_e hf with ⟨c5, hf⟩ | ⟨c5, hf⟩
    · refine g_if_ne_t (tgt := 27) C dX10_tune_14 (by decide) c5 ?_
      refine g_iload_n C dX10_tune_27 rfl 2 rfl ?_
      refine g_iconst (v := 1) C dX10_tune_28 (by decide) ?_
      rcases oi_e hf with ⟨c6, hf⟩ | ⟨c6, hf⟩
      · refine g_icmp_ne_t (tgt := 42) C dX10_tune_29 (by decide) c6 ?_
        refine g_aload_n C dX10_tune_42 rfl 0 rfl ?_
        refine g_get C (a_0 ad cy _) rfl hin_X10 2 (by decide) hF_X10_28 rfl rfl dX10_tune_43 ?_
        refine g_iload_n C dX10_tune_46 rfl 1 rfl ?_
        refine g_iload_n C dX10_tune_47 rfl 2 rfl ?_
        obtain ⟨r7, σ8, h9, hf⟩ := obp_e hf
        refine g_callVi (As := [.int x1, .int x2]) (rest := []) C (a_22 ad cy _) rfl (c_X9_asksStroke l dC dI ad cy 22 k_isTown_22 x1 x2) h9 hM_X10_155 cal_X9_asksStroke ⟨Nat.zero_le _, Nat.zero_le _⟩ ⟨rfl, rfl⟩ ⟨Nat.le_of_ble_eq_true rfl, Nat.le_of_ble_eq_true rfl⟩ rfl rfl (Nat.le_of_ble_eq_true rfl) dX10_tune_48 ?_
        rcases oi_e hf with ⟨c10, hf⟩ | ⟨c10, hf⟩
        · refine g_if_eq_t (tgt := 71) C dX10_tune_51 (by decide) c10 ?_
          refine g_iconst (v := (-1)) C dX10_tune_71 (by decide) ?_
          obtain ⟨rfl, rfl⟩ := os_e hf
          exact g_iret C rfl dX10_tune_72
        · refine g_if_eq_f (tgt := 71) C dX10_tune_51 (by decide) c10 ?_
          refine g_aload_n C dX10_tune_54 rfl 0 rfl ?_
          refine g_get C (a_0 ad cy _) rfl hin_X10 2 (by decide) hF_X10_28 rfl rfl dX10_tune_55 ?_
          refine g_get C (a_22 ad cy _) rfl hin_X9 5 (by decide) hF_X10_159 rfl rfl dX10_tune_58 ?_
          refine g_iload_n C dX10_tune_61 rfl 1 rfl ?_
          obtain ⟨h11, hf⟩ := og_e hf
          obtain ⟨q12, eq12, hf⟩ := ol_e hf
          refine g_aald C (a_25 ad cy _) rfl rfl h11 dX10_tune_62 ?_
          refine g_nmr eq12 ?_
          have hq12 := (o_25 h11 eq12)
          refine g_iload_n C dX10_tune_63 rfl 2 rfl ?_
          refine g_bipush (v := 10) C dX10_tune_64 (by decide) ?_
          refine g_isub C dX10_tune_66 ?_
          obtain ⟨v13, ev13, hf⟩ := ol_e hf
          refine g_nm ev13 ?_
          obtain ⟨h14, hf⟩ := og_e hf
          refine g_iald C (s_row hq12 ad cy _) h14 dX10_tune_67 ?_
          obtain ⟨v15, ev15, hf⟩ := ol_e hf
          refine g_nm ev15 ?_
          refine g_goto (tgt := 72) C dX10_tune_68 (by decide) ?_
          obtain ⟨rfl, rfl⟩ := os_e hf
          exact g_iret C rfl dX10_tune_72
      · refine g_icmp_ne_f (tgt := 42) C dX10_tune_29 (by decide) (Decidable.of_not_not c6) ?_
        refine g_aload_n C dX10_tune_32 rfl 0 rfl ?_
        refine g_get C (a_0 ad cy _) rfl hin_X10 2 (by decide) hF_X10_28 rfl rfl dX10_tune_33 ?_
        refine g_get C (a_22 ad cy _) rfl hin_X9 4 (by decide) hF_X10_153 rfl rfl dX10_tune_36 ?_
        refine g_iload_n C dX10_tune_39 rfl 1 rfl ?_
        obtain ⟨h16, hf⟩ := og_e hf
        refine g_iald C (a_24 ad cy _) h16 dX10_tune_40 ?_
        obtain ⟨v17, ev17, hf⟩ := ol_e hf
        refine g_nm ev17 ?_
        obtain ⟨rfl, rfl⟩ := os_e hf
        exact g_iret C rfl dX10_tune_41
    · refine g_if_ne_f (tgt := 27) C dX10_tune_14 (by decide) (Decidable.of_not_not c5) ?_
      refine g_aload_n C dX10_tune_17 rfl 0 rfl ?_
      refine g_get C (a_0 ad cy _) rfl hin_X10 2 (by decide) hF_X10_28 rfl rfl dX10_tune_18 ?_
      refine g_get C (a_22 ad cy _) rfl hin_X9 3 (by decide) hF_X10_150 rfl rfl dX10_tune_21 ?_
      refine g_iload_n C dX10_tune_24 rfl 1 rfl ?_
      obtain ⟨h18, hf⟩ := og_e hf
      refine g_iald C (a_23 ad cy _) h18 dX10_tune_25 ?_
      obtain ⟨v19, ev19, hf⟩ := ol_e hf
      refine g_nm ev19 ?_
      obtain ⟨rfl, rfl⟩ := os_e hf
      exact g_iret C rfl dX10_tune_26
  · refine g_if_ne_f (tgt := 13) C dX10_tune_8 (by decide) (Decidable.of_not_not c4) ?_
    refine g_iconst (v := (-1)) C dX10_tune_11 (by decide) ?_
    obtain ⟨rfl, rfl⟩ := os_e hf
    exact g_iret C rfl dX10_tune_12
theorem c_X10_tune (l : Launch) (dC : Nat → ClassId) (dI : Nat → Nat → Nat) (ad : Nat → Nat) (cy : Nat → ClassId) (x1 : Int32) (x2 : Int32) : ConI l yX10_tune cX10_tune 3 (some .int) rm_X10_tune dC dI ad cy [.ref (ad 0), .int x1, .int x2] (fun σ => fX10_tune σ x1 x2) := con_i (own := RX10) (by decide) rfl (Nat.le_of_ble_eq_true rfl) (fun _ _ _ _ _ _ _ _ σ _ _ C hf => fX10_tune_ok C σ x1 x2 hf)
theorem cal_X10_tune : CalV yX10_tune RX10 cX10_tune 3 (some .int) 2 := ⟨hI_X10_tune, hS_X10_tune, hIni_X10, hC_X10_tune, by decide +kernel⟩
abbrev rm_X10_feuds : Room := { frames := 1, cells := 0, slots := 0, locals := 21 }
def fX10_feuds (σ : S0) (x1 : Int32) : Option (Int32 × S0) := obp (fX9_hasHouse σ 22 x1) (fun r1 σ2 => if r1 = 0 then (some ((-1), σ2)) else (og (¬ (x1 < 0 ∨ 6 ≤ x1.toNatClampNeg)) (ol (σ2 38 x1.toNatClampNeg) (fun v6 => some (v6, σ2)))))
set_option maxHeartbeats 1000000 in
set_option maxRecDepth 100000 in
theorem fX10_feuds_ok {p : Program} {l : Launch} {e : Env} {s : State} {m : MethodId} {args : Array Value} {below : List Frame} {meth : Method} {c : Code} {dC : Nat → ClassId} {dI : Nat → Nat → Nat} {ad : Nat → Nat} {cy : Nat → ClassId} {sz : Nat} (C : Cx p s m args meth c RX10 cX10_feuds 2 (some .int) dC dI ad cy sz) {rr : Int32} {ρ : S0} (σ : S0) (x1 : Int32)  (hf : fX10_feuds σ x1 = some (rr, ρ)) : Gw p l e rm_X10_feuds s m args below meth c (MQ below (QcI dC dI ad cy sz rr ρ) args s 0 0 (AW ad sz)) dC dI ad cy 2 sz 0 0 0 [(0, .ref (ad 0)), (1, .int x1)] [] σ := by
  unfold fX10_feuds at hf
  refine g_aload_n C dX10_feuds_0 rfl 0 rfl ?_
  refine g_get C (a_0 ad cy _) rfl hin_X10 2 (by decide) hF_X10_28 rfl rfl dX10_feuds_1 ?_
  refine g_iload_n C dX10_feuds_4 rfl 1 rfl ?_
  obtain ⟨r1, σ2, h3, hf⟩ := obp_e hf
  refine g_callVi (As := [.int x1]) (rest := []) C (a_22 ad cy _) rfl (c_X9_hasHouse l dC dI ad cy 22 k_isTown_22 x1) h3 hM_X10_163 cal_X9_hasHouse ⟨Nat.zero_le _, Nat.zero_le _⟩ ⟨rfl, rfl⟩ ⟨Nat.le_of_ble_eq_true rfl, Nat.le_of_ble_eq_true rfl⟩ rfl rfl (Nat.le_of_ble_eq_true rfl) dX10_feuds_5 ?_
  rcases oi_e hf with ⟨c4, hf⟩ | ⟨c4, hf⟩
  · refine g_if_eq_t (tgt := 23) C dX10_feuds_8 (by decide) c4 ?_
    refine g_iconst (v := (-1)) C dX10_feuds_23 (by decide) ?_
    obtain ⟨rfl, rfl⟩ := os_e hf
    exact g_iret C rfl dX10_feuds_24
  · refine g_if_eq_f (tgt := 23) C dX10_feuds_8 (by decide) c4 ?_
    refine g_aload_n C dX10_feuds_11 rfl 0 rfl ?_
    refine g_get C (a_0 ad cy _) rfl hin_X10 3 (by decide) hF_X10_36 rfl rfl dX10_feuds_12 ?_
    refine g_get C (a_32 ad cy _) rfl hin_X1 6 (by decide) hF_X10_166 rfl rfl dX10_feuds_15 ?_
    refine g_iload_n C dX10_feuds_18 rfl 1 rfl ?_
    obtain ⟨h5, hf⟩ := og_e hf
    refine g_iald C (a_38 ad cy _) h5 dX10_feuds_19 ?_
    obtain ⟨v6, ev6, hf⟩ := ol_e hf
    refine g_nm ev6 ?_
    refine g_goto (tgt := 24) C dX10_feuds_20 (by decide) ?_
    obtain ⟨rfl, rfl⟩ := os_e hf
    exact g_iret C rfl dX10_feuds_24
theorem c_X10_feuds (l : Launch) (dC : Nat → ClassId) (dI : Nat → Nat → Nat) (ad : Nat → Nat) (cy : Nat → ClassId) (x1 : Int32) : ConI l yX10_feuds cX10_feuds 2 (some .int) rm_X10_feuds dC dI ad cy [.ref (ad 0), .int x1] (fun σ => fX10_feuds σ x1) := con_i (own := RX10) (by decide) rfl (Nat.le_of_ble_eq_true rfl) (fun _ _ _ _ _ _ _ _ σ _ _ C hf => fX10_feuds_ok C σ x1 hf)
theorem cal_X10_feuds : CalV yX10_feuds RX10 cX10_feuds 2 (some .int) 1 := ⟨hI_X10_feuds, hS_X10_feuds, hIni_X10, hC_X10_feuds, by decide +kernel⟩
abbrev rm_X10_isFee : Room := { frames := 0, cells := 0, slots := 0, locals := 0 }
def fX10_isFee (σ : S0) (x0 : Int32) : Option (Int32 × S0) := if x0 < 0 then (some (0, σ)) else (if (20 : Int32) < x0 then (some (0, σ)) else (some (1, σ)))
set_option maxHeartbeats 1000000 in
set_option maxRecDepth 100000 in
theorem fX10_isFee_ok {p : Program} {l : Launch} {e : Env} {s : State} {m : MethodId} {args : Array Value} {below : List Frame} {meth : Method} {c : Code} {dC : Nat → ClassId} {dI : Nat → Nat → Nat} {ad : Nat → Nat} {cy : Nat → ClassId} {sz : Nat} (C : Cx p s m args meth c RX10 cX10_isFee 1 (some .boolean) dC dI ad cy sz) {rr : Int32} {ρ : S0} (σ : S0) (x0 : Int32)  (hf : fX10_isFee σ x0 = some (rr, ρ)) : Gw p l e rm_X10_isFee s m args below meth c (MQ below (QcI dC dI ad cy sz rr ρ) args s 0 0 (AW ad sz)) dC dI ad cy 1 sz 0 0 0 [(0, .int x0)] [] σ := by
  unfold fX10_isFee at hf
  refine g_iload_n C dX10_isFee_0 rfl 0 rfl ?_
  rcases oi_e hf with ⟨c1, hf⟩ | ⟨c1, hf⟩
  · refine g_if_lt_t (tgt := 14) C dX10_isFee_1 (by decide) c1 ?_
    refine g_iconst (v := 0) C dX10_isFee_14 (by decide) ?_
    obtain ⟨rfl, rfl⟩ := os_e hf
    exact g_zret C rfl (by decide) dX10_isFee_15
  · refine g_if_lt_f (tgt := 14) C dX10_isFee_1 (by decide) c1 ?_
    refine g_iload_n C dX10_isFee_4 rfl 0 rfl ?_
    refine g_bipush (v := 20) C dX10_isFee_5 (by decide) ?_
    rcases oi_e hf with ⟨c2, hf⟩ | ⟨c2, hf⟩
    · refine g_icmp_gt_t (tgt := 14) C dX10_isFee_7 (by decide) c2 ?_
      refine g_iconst (v := 0) C dX10_isFee_14 (by decide) ?_
      obtain ⟨rfl, rfl⟩ := os_e hf
      exact g_zret C rfl (by decide) dX10_isFee_15
    · refine g_icmp_gt_f (tgt := 14) C dX10_isFee_7 (by decide) c2 ?_
      refine g_iconst (v := 1) C dX10_isFee_10 (by decide) ?_
      refine g_goto (tgt := 15) C dX10_isFee_11 (by decide) ?_
      obtain ⟨rfl, rfl⟩ := os_e hf
      exact g_zret C rfl (by decide) dX10_isFee_15
theorem c_X10_isFee (l : Launch) (dC : Nat → ClassId) (dI : Nat → Nat → Nat) (ad : Nat → Nat) (cy : Nat → ClassId) (x0 : Int32) : ConI l yX10_isFee cX10_isFee 1 (some .boolean) rm_X10_isFee dC dI ad cy [.int x0] (fun σ => fX10_isFee σ x0) := con_i (own := RX10) (by decide) rfl (Nat.le_of_ble_eq_true rfl) (fun _ _ _ _ _ _ _ _ σ _ _ C hf => fX10_isFee_ok C σ x0 hf)
theorem cal_X10_isFee : CalS yX10_isFee cX10_isFee 1 (some .boolean) 1 := ⟨hSt_X10_isFee, hIni_X10, hC_X10_isFee, by decide +kernel⟩
abbrev rm_X10_fee : Room := { frames := 1, cells := 0, slots := 0, locals := 21 }
def fX10_fee (σ : S0) (x1 : Int32) (x2 : Int32) : Option (Int32 × S0) := obp (fX1_hasBell σ 32 x1) (fun r1 σ2 => if r1 = 0 then (some ((-1), σ2)) else (obp (fX10_isFee σ2 x2) (fun r5 σ6 => if ¬ r5 = 0 then (og (¬ (x1 < 0 ∨ 12 ≤ x1.toNatClampNeg)) (ol (σ6 34 x1.toNatClampNeg) (fun v10 => og (¬ (x1 < 0 ∨ 12 ≤ x1.toNatClampNeg)) (ol (su σ6 34 x1.toNatClampNeg x2) (fun σ12 => some (v10, σ12)))))) else (some ((-1), σ6)))))
set_option maxHeartbeats 1000000 in
set_option maxRecDepth 100000 in
theorem fX10_fee_ok {p : Program} {l : Launch} {e : Env} {s : State} {m : MethodId} {args : Array Value} {below : List Frame} {meth : Method} {c : Code} {dC : Nat → ClassId} {dI : Nat → Nat → Nat} {ad : Nat → Nat} {cy : Nat → ClassId} {sz : Nat} (C : Cx p s m args meth c RX10 cX10_fee 4 (some .int) dC dI ad cy sz) {rr : Int32} {ρ : S0} (σ : S0) (x1 : Int32) (x2 : Int32)  (hf : fX10_fee σ x1 x2 = some (rr, ρ)) : Gw p l e rm_X10_fee s m args below meth c (MQ below (QcI dC dI ad cy sz rr ρ) args s 0 0 (AW ad sz)) dC dI ad cy 4 sz 0 0 0 [(0, .ref (ad 0)), (1, .int x1), (2, .int x2)] [] σ := by
  unfold fX10_fee at hf
  refine g_aload_n C dX10_fee_0 rfl 0 rfl ?_
  refine g_get C (a_0 ad cy _) rfl hin_X10 3 (by decide) hF_X10_36 rfl rfl dX10_fee_1 ?_
  refine g_iload_n C dX10_fee_4 rfl 1 rfl ?_
  obtain ⟨r1, σ2, h3, hf⟩ := obp_e hf
  refine g_callVi (As := [.int x1]) (rest := []) C (a_32 ad cy _) rfl (c_X1_hasBell l dC dI ad cy 32 k_isChimes_32 x1) h3 hM_X10_127 cal_X1_hasBell ⟨Nat.zero_le _, Nat.zero_le _⟩ ⟨rfl, rfl⟩ ⟨Nat.le_of_ble_eq_true rfl, Nat.le_of_ble_eq_true rfl⟩ rfl rfl (Nat.le_of_ble_eq_true rfl) dX10_fee_5 ?_
  rcases oi_e hf with ⟨c4, hf⟩ | ⟨c4, hf⟩
  · refine g_if_eq_t (tgt := 18) C dX10_fee_8 (by decide) c4 ?_
    refine g_iconst (v := (-1)) C dX10_fee_18 (by decide) ?_
    obtain ⟨rfl, rfl⟩ := os_e hf
    exact g_iret C rfl dX10_fee_19
  · refine g_if_eq_f (tgt := 18) C dX10_fee_8 (by decide) c4 ?_
    refine g_iload_n C dX10_fee_11 rfl 2 rfl ?_
    obtain ⟨r5, σ6, h7, hf⟩ := obp_e hf
    refine g_callSi (As := [.int x2]) (rest := []) C (c_X10_isFee l dC dI ad cy x2) h7 hM_X10_169 cal_X10_isFee ⟨Nat.zero_le _, Nat.zero_le _⟩ ⟨rfl, rfl⟩ ⟨Nat.le_of_ble_eq_true rfl, Nat.le_of_ble_eq_true rfl⟩ rfl rfl (Nat.le_of_ble_eq_true rfl) dX10_fee_12 ?_
    rcases oi_e hf with ⟨c8, hf⟩ | ⟨c8, hf⟩
    · refine g_if_ne_t (tgt := 20) C dX10_fee_15 (by decide) c8 ?_
      refine g_aload_n C dX10_fee_20 rfl 0 rfl ?_
      refine g_get C (a_0 ad cy _) rfl hin_X10 3 (by decide) hF_X10_36 rfl rfl dX10_fee_21 ?_
      refine g_get C (a_32 ad cy _) rfl hin_X1 2 (by decide) hF_X10_135 rfl rfl dX10_fee_24 ?_
      refine g_iload_n C dX10_fee_27 rfl 1 rfl ?_
      obtain ⟨h9, hf⟩ := og_e hf
      refine g_iald C (a_34 ad cy _) h9 dX10_fee_28 ?_
      obtain ⟨v10, ev10, hf⟩ := ol_e hf
      refine g_nm ev10 ?_
      refine g_istore_n (lv2 := [(0, .ref (ad 0)), (1, .int x1), (2, .int x2), (3, .int v10)]) C dX10_fee_29 rfl (by decide) [1, 2, 3, 0] rfl ?_
      refine g_aload_n C dX10_fee_30 rfl 0 rfl ?_
      refine g_get C (a_0 ad cy _) rfl hin_X10 3 (by decide) hF_X10_36 rfl rfl dX10_fee_31 ?_
      refine g_get C (a_32 ad cy _) rfl hin_X1 2 (by decide) hF_X10_135 rfl rfl dX10_fee_34 ?_
      refine g_iload_n C dX10_fee_37 rfl 1 rfl ?_
      refine g_iload_n C dX10_fee_38 rfl 2 rfl ?_
      obtain ⟨h11, hf⟩ := og_e hf
      obtain ⟨σ12, eσ12, hf⟩ := ol_e hf
      refine g_iast C (a_34 ad cy _) h11 (w_34 ad cy _) eσ12 dX10_fee_39 ?_
      refine g_iload_n C dX10_fee_40 rfl 3 rfl ?_
      obtain ⟨rfl, rfl⟩ := os_e hf
      exact g_iret C rfl dX10_fee_41
    · refine g_if_ne_f (tgt := 20) C dX10_fee_15 (by decide) (Decidable.of_not_not c8) ?_
      refine g_iconst (v := (-1)) C dX10_fee_18 (by decide) ?_
      obtain ⟨rfl, rfl⟩ := os_e hf
      exact g_iret C rfl dX10_fee_19
theorem c_X10_fee (l : Launch) (dC : Nat → ClassId) (dI : Nat → Nat → Nat) (ad : Nat → Nat) (cy : Nat → ClassId) (x1 : Int32) (x2 : Int32) : ConI l yX10_fee cX10_fee 4 (some .int) rm_X10_fee dC dI ad cy [.ref (ad 0), .int x1, .int x2] (fun σ => fX10_fee σ x1 x2) := con_i (own := RX10) (by decide) rfl (Nat.le_of_ble_eq_true rfl) (fun _ _ _ _ _ _ _ _ σ _ _ C hf => fX10_fee_ok C σ x1 x2 hf)
theorem cal_X10_fee : CalV yX10_fee RX10 cX10_fee 4 (some .int) 2 := ⟨hI_X10_fee, hS_X10_fee, hIni_X10, hC_X10_fee, by decide +kernel⟩
abbrev rm_X10_shut : Room := { frames := 1, cells := 0, slots := 0, locals := 21 }
def fX10_shut_b40  (σ : S0) (x3 : Int32) (t0 : Int32) (t1 : Int32) : Option (Int32 × S0) := og (¬ (t1 < 0 ∨ 12 ≤ t1.toNatClampNeg)) (ol (su σ 36 t1.toNatClampNeg t0) (fun σ2 => some (x3, σ2)))
set_option maxHeartbeats 1000000 in
set_option maxRecDepth 100000 in
theorem fX10_shut_b40_ok {p : Program} {l : Launch} {e : Env} {s : State} {m : MethodId} {args : Array Value} {below : List Frame} {meth : Method} {c : Code} {dC : Nat → ClassId} {dI : Nat → Nat → Nat} {ad : Nat → Nat} {cy : Nat → ClassId} {sz : Nat} (C : Cx p s m args meth c RX10 cX10_shut 4 (some .int) dC dI ad cy sz) {rr : Int32} {ρ : S0}  (σ : S0) (x3 : Int32) (t0 : Int32) (t1 : Int32)  (hf : fX10_shut_b40 σ x3 t0 t1 = some (rr, ρ)) : Gw p l e rm_X10_shut s m args below meth c (MQ below (QcI dC dI ad cy sz rr ρ) args s 0 0 (AW ad sz)) dC dI ad cy 4 sz 0 0 40 [(3, .int x3)] [.int t0, .int t1, .ref (ad 36)] σ := by
  unfold fX10_shut_b40 at hf
  obtain ⟨h1, hf⟩ := og_e hf
  obtain ⟨σ2, eσ2, hf⟩ := ol_e hf
  refine g_iast C (a_36 ad cy _) h1 (w_36 ad cy _) eσ2 dX10_shut_40 ?_
  refine g_iload_n C dX10_shut_41 rfl 0 rfl ?_
  obtain ⟨rfl, rfl⟩ := os_e hf
  exact g_iret C rfl dX10_shut_42
def fX10_shut (σ : S0) (x1 : Int32) (x2 : Int32) : Option (Int32 × S0) := obp (fX1_hasBell σ 32 x1) (fun r1 σ2 => if ¬ r1 = 0 then (og (¬ (x1 < 0 ∨ 12 ≤ x1.toNatClampNeg)) (ol (σ2 36 x1.toNatClampNeg) (fun v6 => if x2 = 0 then (fX10_shut_b40 σ2 v6 0 x1) else (fX10_shut_b40 σ2 v6 1 x1)))) else (some ((-1), σ2)))
set_option maxHeartbeats 1000000 in
set_option maxRecDepth 100000 in
theorem fX10_shut_ok {p : Program} {l : Launch} {e : Env} {s : State} {m : MethodId} {args : Array Value} {below : List Frame} {meth : Method} {c : Code} {dC : Nat → ClassId} {dI : Nat → Nat → Nat} {ad : Nat → Nat} {cy : Nat → ClassId} {sz : Nat} (C : Cx p s m args meth c RX10 cX10_shut 4 (some .int) dC dI ad cy sz) {rr : Int32} {ρ : S0} (σ : S0) (x1 : Int32) (x2 : Int32)  (hf : fX10_shut σ x1 x2 = some (rr, ρ)) : Gw p l e rm_X10_shut s m args below meth c (MQ below (QcI dC dI ad cy sz rr ρ) args s 0 0 (AW ad sz)) dC dI ad cy 4 sz 0 0 0 [(0, .ref (ad 0)), (1, .int x1), (2, .int x2)] [] σ := by
  unfold fX10_shut at hf
  refine g_aload_n C dX10_shut_0 rfl 0 rfl ?_
  refine g_get C (a_0 ad cy _) rfl hin_X10 3 (by decide) hF_X10_36 rfl rfl dX10_shut_1 ?_
  refine g_iload_n C dX10_shut_4 rfl 1 rfl ?_
  obtain ⟨r1, σ2, h3, hf⟩ := obp_e hf
  refine g_callVi (As := [.int x1]) (rest := []) C (a_32 ad cy _) rfl (c_X1_hasBell l dC dI ad cy 32 k_isChimes_32 x1) h3 hM_X10_127 cal_X1_hasBell ⟨Nat.zero_le _, Nat.zero_le _⟩ ⟨rfl, rfl⟩ ⟨Nat.le_of_ble_eq_true rfl, Nat.le_of_ble_eq_true rfl⟩ rfl rfl (Nat.le_of_ble_eq_true rfl) dX10_shut_5 ?_
  rcases oi_e hf with ⟨c4, hf⟩ | ⟨c4, hf⟩
  · refine g_if_ne_t (tgt := 13) C dX10_shut_8 (by decide) c4 ?_
    refine g_aload_n C dX10_shut_13 rfl 0 rfl ?_
    refine g_get C (a_0 ad cy _) rfl hin_X10 3 (by decide) hF_X10_36 rfl rfl dX10_shut_14 ?_
    refine g_get C (a_32 ad cy _) rfl hin_X1 4 (by decide) hF_X10_141 rfl rfl dX10_shut_17 ?_
    refine g_iload_n C dX10_shut_20 rfl 1 rfl ?_
    obtain ⟨h5, hf⟩ := og_e hf
    refine g_iald C (a_36 ad cy _) h5 dX10_shut_21 ?_
    obtain ⟨v6, ev6, hf⟩ := ol_e hf
    refine g_nm ev6 ?_
    refine g_istore_n (lv2 := [(0, .ref (ad 0)), (1, .int x1), (2, .int x2), (3, .int v6)]) C dX10_shut_22 rfl (by decide) [1, 2, 3, 0] rfl ?_
    refine g_aload_n C dX10_shut_23 rfl 0 rfl ?_
    refine g_get C (a_0 ad cy _) rfl hin_X10 3 (by decide) hF_X10_36 rfl rfl dX10_shut_24 ?_
    refine g_get C (a_32 ad cy _) rfl hin_X1 4 (by decide) hF_X10_141 rfl rfl dX10_shut_27 ?_
    refine g_iload_n C dX10_shut_30 rfl 1 rfl ?_
    refine g_iload_n C dX10_shut_31 rfl 2 rfl ?_
    rcases oi_e hf with ⟨c7, hf⟩ | ⟨c7, hf⟩
    · refine g_if_eq_t (tgt := 39) C dX10_shut_32 (by decide) c7 ?_
      refine g_iconst (v := 0) C dX10_shut_39 (by decide) ?_
      exact g_sub [3] rfl (fX10_shut_b40_ok C σ2 v6 0 x1 hf)
    · refine g_if_eq_f (tgt := 39) C dX10_shut_32 (by decide) c7 ?_
      refine g_iconst (v := 1) C dX10_shut_35 (by decide) ?_
      refine g_goto (tgt := 40) C dX10_shut_36 (by decide) ?_
      exact g_sub [3] rfl (fX10_shut_b40_ok C σ2 v6 1 x1 hf)
  · refine g_if_ne_f (tgt := 13) C dX10_shut_8 (by decide) (Decidable.of_not_not c4) ?_
    refine g_iconst (v := (-1)) C dX10_shut_11 (by decide) ?_
    obtain ⟨rfl, rfl⟩ := os_e hf
    exact g_iret C rfl dX10_shut_12
theorem c_X10_shut (l : Launch) (dC : Nat → ClassId) (dI : Nat → Nat → Nat) (ad : Nat → Nat) (cy : Nat → ClassId) (x1 : Int32) (x2 : Int32) : ConI l yX10_shut cX10_shut 4 (some .int) rm_X10_shut dC dI ad cy [.ref (ad 0), .int x1, .int x2] (fun σ => fX10_shut σ x1 x2) := con_i (own := RX10) (by decide) rfl (Nat.le_of_ble_eq_true rfl) (fun _ _ _ _ _ _ _ _ σ _ _ C hf => fX10_shut_ok C σ x1 x2 hf)
theorem cal_X10_shut : CalV yX10_shut RX10 cX10_shut 4 (some .int) 2 := ⟨hI_X10_shut, hS_X10_shut, hIni_X10, hC_X10_shut, by decide +kernel⟩
abbrev rm_X10_sell : Room := { frames := 1, cells := 0, slots := 0, locals := 21 }
def fX10_sell (σ : S0) (x1 : Int32) (x2 : Int32) : Option (Int32 × S0) := obp (fX1_hasBell σ 32 x1) (fun r1 σ2 => if r1 = 0 then (some ((-1), σ2)) else (obp (fX9_hasHouse σ2 22 x2) (fun r5 σ6 => if ¬ r5 = 0 then (og (¬ (x1 < 0 ∨ 12 ≤ x1.toNatClampNeg)) (ol (σ6 33 x1.toNatClampNeg) (fun v10 => if ¬ v10 = x2 then (og (¬ (x1 < 0 ∨ 12 ≤ x1.toNatClampNeg)) (ol (su σ6 33 x1.toNatClampNeg x2) (fun σ13 => og (¬ (x1 < 0 ∨ 12 ≤ x1.toNatClampNeg)) (ol (σ13 37 x1.toNatClampNeg) (fun v15 => if ¬ v15 = x2 then (some (v10, σ13)) else (og (¬ (x1 < 0 ∨ 12 ≤ x1.toNatClampNeg)) (ol (su σ13 37 x1.toNatClampNeg ((-4))) (fun σ18 => some (v10, σ18))))))))) else (some ((-2), σ6))))) else (some ((-1), σ6)))))
set_option maxHeartbeats 1000000 in
set_option maxRecDepth 100000 in
theorem fX10_sell_ok {p : Program} {l : Launch} {e : Env} {s : State} {m : MethodId} {args : Array Value} {below : List Frame} {meth : Method} {c : Code} {dC : Nat → ClassId} {dI : Nat → Nat → Nat} {ad : Nat → Nat} {cy : Nat → ClassId} {sz : Nat} (C : Cx p s m args meth c RX10 cX10_sell 4 (some .int) dC dI ad cy sz) {rr : Int32} {ρ : S0} (σ : S0) (x1 : Int32) (x2 : Int32)  (hf : fX10_sell σ x1 x2 = some (rr, ρ)) : Gw p l e rm_X10_sell s m args below meth c (MQ below (QcI dC dI ad cy sz rr ρ) args s 0 0 (AW ad sz)) dC dI ad cy 4 sz 0 0 0 [(0, .ref (ad 0)), (1, .int x1), (2, .int x2)] [] σ := by
  unfold fX10_sell at hf
  refine g_aload_n C dX10_sell_0 rfl 0 rfl ?_
  refine g_get C (a_0 ad cy _) rfl hin_X10 3 (by decide) hF_X10_36 rfl rfl dX10_sell_1 ?_
  refine g_iload_n C dX10_sell_4 rfl 1 rfl ?_
  obtain ⟨r1, σ2, h3, hf⟩ := obp_e hf
  refine g_callVi (As := [.int x1]) (rest := []) C (a_32 ad cy _) rfl (c_X1_hasBell l dC dI ad cy 32 k_isChimes_32 x1) h3 hM_X10_127 cal_X1_hasBell ⟨Nat.zero_le _, Nat.zero_le _⟩ ⟨rfl, rfl⟩ ⟨Nat.le_of_ble_eq_true rfl, Nat.le_of_ble_eq_true rfl⟩ rfl rfl (Nat.le_of_ble_eq_true rfl) dX10_sell_5 ?_
  rcases oi_e hf with ⟨c4, hf⟩ | ⟨c4, hf⟩
  · refine g_if_eq_t (tgt := 22) C dX10_sell_8 (by decide) c4 ?_
    refine g_iconst (v := (-1)) C dX10_sell_22 (by decide) ?_
    obtain ⟨rfl, rfl⟩ := os_e hf
    exact g_iret C rfl dX10_sell_23
  · refine g_if_eq_f (tgt := 22) C dX10_sell_8 (by decide) c4 ?_
    refine g_aload_n C dX10_sell_11 rfl 0 rfl ?_
    refine g_get C (a_0 ad cy _) rfl hin_X10 2 (by decide) hF_X10_28 rfl rfl dX10_sell_12 ?_
    refine g_iload_n C dX10_sell_15 rfl 2 rfl ?_
    obtain ⟨r5, σ6, h7, hf⟩ := obp_e hf
    refine g_callVi (As := [.int x2]) (rest := []) C (a_22 ad cy _) rfl (c_X9_hasHouse l dC dI ad cy 22 k_isTown_22 x2) h7 hM_X10_163 cal_X9_hasHouse ⟨Nat.zero_le _, Nat.zero_le _⟩ ⟨rfl, rfl⟩ ⟨Nat.le_of_ble_eq_true rfl, Nat.le_of_ble_eq_true rfl⟩ rfl rfl (Nat.le_of_ble_eq_true rfl) dX10_sell_16 ?_
    rcases oi_e hf with ⟨c8, hf⟩ | ⟨c8, hf⟩
    · refine g_if_ne_t (tgt := 24) C dX10_sell_19 (by decide) c8 ?_
      refine g_aload_n C dX10_sell_24 rfl 0 rfl ?_
      refine g_get C (a_0 ad cy _) rfl hin_X10 3 (by decide) hF_X10_36 rfl rfl dX10_sell_25 ?_
      refine g_get C (a_32 ad cy _) rfl hin_X1 1 (by decide) hF_X10_131 rfl rfl dX10_sell_28 ?_
      refine g_iload_n C dX10_sell_31 rfl 1 rfl ?_
      obtain ⟨h9, hf⟩ := og_e hf
      refine g_iald C (a_33 ad cy _) h9 dX10_sell_32 ?_
      obtain ⟨v10, ev10, hf⟩ := ol_e hf
      refine g_nm ev10 ?_
      refine g_istore_n (lv2 := [(0, .ref (ad 0)), (1, .int x1), (2, .int x2), (3, .int v10)]) C dX10_sell_33 rfl (by decide) [1, 2, 3, 0] rfl ?_
      refine g_iload_n C dX10_sell_34 rfl 3 rfl ?_
      refine g_iload_n C dX10_sell_35 rfl 2 rfl ?_
      rcases oi_e hf with ⟨c11, hf⟩ | ⟨c11, hf⟩
      · refine g_icmp_ne_t (tgt := 42) C dX10_sell_36 (by decide) c11 ?_
        refine g_aload_n C dX10_sell_42 rfl 0 rfl ?_
        refine g_get C (a_0 ad cy _) rfl hin_X10 3 (by decide) hF_X10_36 rfl rfl dX10_sell_43 ?_
        refine g_get C (a_32 ad cy _) rfl hin_X1 1 (by decide) hF_X10_131 rfl rfl dX10_sell_46 ?_
        refine g_iload_n C dX10_sell_49 rfl 1 rfl ?_
        refine g_iload_n C dX10_sell_50 rfl 2 rfl ?_
        obtain ⟨h12, hf⟩ := og_e hf
        obtain ⟨σ13, eσ13, hf⟩ := ol_e hf
        refine g_iast C (a_33 ad cy _) h12 (w_33 ad cy _) eσ13 dX10_sell_51 ?_
        refine g_aload_n C dX10_sell_52 rfl 0 rfl ?_
        refine g_get C (a_0 ad cy _) rfl hin_X10 3 (by decide) hF_X10_36 rfl rfl dX10_sell_53 ?_
        refine g_get C (a_32 ad cy _) rfl hin_X1 5 (by decide) hF_X10_144 rfl rfl dX10_sell_56 ?_
        refine g_iload_n C dX10_sell_59 rfl 1 rfl ?_
        obtain ⟨h14, hf⟩ := og_e hf
        refine g_iald C (a_37 ad cy _) h14 dX10_sell_60 ?_
        obtain ⟨v15, ev15, hf⟩ := ol_e hf
        refine g_nm ev15 ?_
        refine g_iload_n C dX10_sell_61 rfl 2 rfl ?_
        rcases oi_e hf with ⟨c16, hf⟩ | ⟨c16, hf⟩
        · refine g_icmp_ne_t (tgt := 76) C dX10_sell_62 (by decide) c16 ?_
          refine g_iload_n C dX10_sell_76 rfl 3 rfl ?_
          obtain ⟨rfl, rfl⟩ := os_e hf
          exact g_iret C rfl dX10_sell_77
        · refine g_icmp_ne_f (tgt := 76) C dX10_sell_62 (by decide) (Decidable.of_not_not c16) ?_
          refine g_aload_n C dX10_sell_65 rfl 0 rfl ?_
          refine g_get C (a_0 ad cy _) rfl hin_X10 3 (by decide) hF_X10_36 rfl rfl dX10_sell_66 ?_
          refine g_get C (a_32 ad cy _) rfl hin_X1 5 (by decide) hF_X10_144 rfl rfl dX10_sell_69 ?_
          refine g_iload_n C dX10_sell_72 rfl 1 rfl ?_
          refine g_bipush (v := (-4)) C dX10_sell_73 (by decide) ?_
          obtain ⟨h17, hf⟩ := og_e hf
          obtain ⟨σ18, eσ18, hf⟩ := ol_e hf
          refine g_iast C (a_37 ad cy _) h17 (w_37 ad cy _) eσ18 dX10_sell_75 ?_
          refine g_iload_n C dX10_sell_76 rfl 3 rfl ?_
          obtain ⟨rfl, rfl⟩ := os_e hf
          exact g_iret C rfl dX10_sell_77
      · refine g_icmp_ne_f (tgt := 42) C dX10_sell_36 (by decide) (Decidable.of_not_not c11) ?_
        refine g_bipush (v := (-2)) C dX10_sell_39 (by decide) ?_
        obtain ⟨rfl, rfl⟩ := os_e hf
        exact g_iret C rfl dX10_sell_41
    · refine g_if_ne_f (tgt := 24) C dX10_sell_19 (by decide) (Decidable.of_not_not c8) ?_
      refine g_iconst (v := (-1)) C dX10_sell_22 (by decide) ?_
      obtain ⟨rfl, rfl⟩ := os_e hf
      exact g_iret C rfl dX10_sell_23
theorem c_X10_sell (l : Launch) (dC : Nat → ClassId) (dI : Nat → Nat → Nat) (ad : Nat → Nat) (cy : Nat → ClassId) (x1 : Int32) (x2 : Int32) : ConI l yX10_sell cX10_sell 4 (some .int) rm_X10_sell dC dI ad cy [.ref (ad 0), .int x1, .int x2] (fun σ => fX10_sell σ x1 x2) := con_i (own := RX10) (by decide) rfl (Nat.le_of_ble_eq_true rfl) (fun _ _ _ _ _ _ _ _ σ _ _ C hf => fX10_sell_ok C σ x1 x2 hf)
theorem cal_X10_sell : CalV yX10_sell RX10 cX10_sell 4 (some .int) 2 := ⟨hI_X10_sell, hS_X10_sell, hIni_X10, hC_X10_sell, by decide +kernel⟩
abbrev rm_X10_half : Room := { frames := 1, cells := 0, slots := 0, locals := 21 }
def fX10_half_b30  (σ : S0) (x1 : Int32) (x2 : Int32) : Option (Int32 × S0) := og (¬ (x1 < 0 ∨ 12 ≤ x1.toNatClampNeg)) (ol (σ 33 x1.toNatClampNeg) (fun v2 => if ¬ v2 = x2 then (og (¬ (x1 < 0 ∨ 12 ≤ x1.toNatClampNeg)) (ol (σ 37 x1.toNatClampNeg) (fun v5 => og (¬ (x1 < 0 ∨ 12 ≤ x1.toNatClampNeg)) (ol (su σ 37 x1.toNatClampNeg x2) (fun σ7 => some (v5, σ7)))))) else (some ((-2), σ))))
set_option maxHeartbeats 1000000 in
set_option maxRecDepth 100000 in
theorem fX10_half_b30_ok {p : Program} {l : Launch} {e : Env} {s : State} {m : MethodId} {args : Array Value} {below : List Frame} {meth : Method} {c : Code} {dC : Nat → ClassId} {dI : Nat → Nat → Nat} {ad : Nat → Nat} {cy : Nat → ClassId} {sz : Nat} (C : Cx p s m args meth c RX10 cX10_half 4 (some .int) dC dI ad cy sz) {rr : Int32} {ρ : S0}  (σ : S0) (x1 : Int32) (x2 : Int32)  (hf : fX10_half_b30 σ x1 x2 = some (rr, ρ)) : Gw p l e rm_X10_half s m args below meth c (MQ below (QcI dC dI ad cy sz rr ρ) args s 0 0 (AW ad sz)) dC dI ad cy 4 sz 0 0 30 [(0, .ref (ad 0)), (1, .int x1), (2, .int x2)] [] σ := by
  unfold fX10_half_b30 at hf
  refine g_aload_n C dX10_half_30 rfl 0 rfl ?_
  refine g_get C (a_0 ad cy _) rfl hin_X10 3 (by decide) hF_X10_36 rfl rfl dX10_half_31 ?_
  refine g_get C (a_32 ad cy _) rfl hin_X1 1 (by decide) hF_X10_131 rfl rfl dX10_half_34 ?_
  refine g_iload_n C dX10_half_37 rfl 1 rfl ?_
  obtain ⟨h1, hf⟩ := og_e hf
  refine g_iald C (a_33 ad cy _) h1 dX10_half_38 ?_
  obtain ⟨v2, ev2, hf⟩ := ol_e hf
  refine g_nm ev2 ?_
  refine g_iload_n C dX10_half_39 rfl 2 rfl ?_
  rcases oi_e hf with ⟨c3, hf⟩ | ⟨c3, hf⟩
  · refine g_icmp_ne_t (tgt := 46) C dX10_half_40 (by decide) c3 ?_
    refine g_aload_n C dX10_half_46 rfl 0 rfl ?_
    refine g_get C (a_0 ad cy _) rfl hin_X10 3 (by decide) hF_X10_36 rfl rfl dX10_half_47 ?_
    refine g_get C (a_32 ad cy _) rfl hin_X1 5 (by decide) hF_X10_144 rfl rfl dX10_half_50 ?_
    refine g_iload_n C dX10_half_53 rfl 1 rfl ?_
    obtain ⟨h4, hf⟩ := og_e hf
    refine g_iald C (a_37 ad cy _) h4 dX10_half_54 ?_
    obtain ⟨v5, ev5, hf⟩ := ol_e hf
    refine g_nm ev5 ?_
    refine g_istore_n (lv2 := [(0, .ref (ad 0)), (1, .int x1), (2, .int x2), (3, .int v5)]) C dX10_half_55 rfl (by decide) [1, 2, 3, 0] rfl ?_
    refine g_aload_n C dX10_half_56 rfl 0 rfl ?_
    refine g_get C (a_0 ad cy _) rfl hin_X10 3 (by decide) hF_X10_36 rfl rfl dX10_half_57 ?_
    refine g_get C (a_32 ad cy _) rfl hin_X1 5 (by decide) hF_X10_144 rfl rfl dX10_half_60 ?_
    refine g_iload_n C dX10_half_63 rfl 1 rfl ?_
    refine g_iload_n C dX10_half_64 rfl 2 rfl ?_
    obtain ⟨h6, hf⟩ := og_e hf
    obtain ⟨σ7, eσ7, hf⟩ := ol_e hf
    refine g_iast C (a_37 ad cy _) h6 (w_37 ad cy _) eσ7 dX10_half_65 ?_
    refine g_iload_n C dX10_half_66 rfl 3 rfl ?_
    obtain ⟨rfl, rfl⟩ := os_e hf
    exact g_iret C rfl dX10_half_67
  · refine g_icmp_ne_f (tgt := 46) C dX10_half_40 (by decide) (Decidable.of_not_not c3) ?_
    refine g_bipush (v := (-2)) C dX10_half_43 (by decide) ?_
    obtain ⟨rfl, rfl⟩ := os_e hf
    exact g_iret C rfl dX10_half_45
def fX10_half (σ : S0) (x1 : Int32) (x2 : Int32) : Option (Int32 × S0) := obp (fX1_hasBell σ 32 x1) (fun r1 σ2 => if r1 = 0 then (some ((-1), σ2)) else (if x2 = ((-4)) then (fX10_half_b30 σ2 x1 x2) else (obp (fX9_hasHouse σ2 22 x2) (fun r6 σ7 => if ¬ r6 = 0 then (fX10_half_b30 σ7 x1 x2) else (some ((-1), σ7))))))
set_option maxHeartbeats 1000000 in
set_option maxRecDepth 100000 in
theorem fX10_half_ok {p : Program} {l : Launch} {e : Env} {s : State} {m : MethodId} {args : Array Value} {below : List Frame} {meth : Method} {c : Code} {dC : Nat → ClassId} {dI : Nat → Nat → Nat} {ad : Nat → Nat} {cy : Nat → ClassId} {sz : Nat} (C : Cx p s m args meth c RX10 cX10_half 4 (some .int) dC dI ad cy sz) {rr : Int32} {ρ : S0} (σ : S0) (x1 : Int32) (x2 : Int32)  (hf : fX10_half σ x1 x2 = some (rr, ρ)) : Gw p l e rm_X10_half s m args below meth c (MQ below (QcI dC dI ad cy sz rr ρ) args s 0 0 (AW ad sz)) dC dI ad cy 4 sz 0 0 0 [(0, .ref (ad 0)), (1, .int x1), (2, .int x2)] [] σ := by
  unfold fX10_half at hf
  refine g_aload_n C dX10_half_0 rfl 0 rfl ?_
  refine g_get C (a_0 ad cy _) rfl hin_X10 3 (by decide) hF_X10_36 rfl rfl dX10_half_1 ?_
  refine g_iload_n C dX10_half_4 rfl 1 rfl ?_
  obtain ⟨r1, σ2, h3, hf⟩ := obp_e hf
  refine g_callVi (As := [.int x1]) (rest := []) C (a_32 ad cy _) rfl (c_X1_hasBell l dC dI ad cy 32 k_isChimes_32 x1) h3 hM_X10_127 cal_X1_hasBell ⟨Nat.zero_le _, Nat.zero_le _⟩ ⟨rfl, rfl⟩ ⟨Nat.le_of_ble_eq_true rfl, Nat.le_of_ble_eq_true rfl⟩ rfl rfl (Nat.le_of_ble_eq_true rfl) dX10_half_5 ?_
  rcases oi_e hf with ⟨c4, hf⟩ | ⟨c4, hf⟩
  · refine g_if_eq_t (tgt := 28) C dX10_half_8 (by decide) c4 ?_
    refine g_iconst (v := (-1)) C dX10_half_28 (by decide) ?_
    obtain ⟨rfl, rfl⟩ := os_e hf
    exact g_iret C rfl dX10_half_29
  · refine g_if_eq_f (tgt := 28) C dX10_half_8 (by decide) c4 ?_
    refine g_iload_n C dX10_half_11 rfl 2 rfl ?_
    refine g_bipush (v := (-4)) C dX10_half_12 (by decide) ?_
    rcases oi_e hf with ⟨c5, hf⟩ | ⟨c5, hf⟩
    · refine g_icmp_eq_t (tgt := 30) C dX10_half_14 (by decide) c5 ?_
      exact g_sub [0, 1, 2] rfl (fX10_half_b30_ok C σ2 x1 x2 hf)
    · refine g_icmp_eq_f (tgt := 30) C dX10_half_14 (by decide) c5 ?_
      refine g_aload_n C dX10_half_17 rfl 0 rfl ?_
      refine g_get C (a_0 ad cy _) rfl hin_X10 2 (by decide) hF_X10_28 rfl rfl dX10_half_18 ?_
      refine g_iload_n C dX10_half_21 rfl 2 rfl ?_
      obtain ⟨r6, σ7, h8, hf⟩ := obp_e hf
      refine g_callVi (As := [.int x2]) (rest := []) C (a_22 ad cy _) rfl (c_X9_hasHouse l dC dI ad cy 22 k_isTown_22 x2) h8 hM_X10_163 cal_X9_hasHouse ⟨Nat.zero_le _, Nat.zero_le _⟩ ⟨rfl, rfl⟩ ⟨Nat.le_of_ble_eq_true rfl, Nat.le_of_ble_eq_true rfl⟩ rfl rfl (Nat.le_of_ble_eq_true rfl) dX10_half_22 ?_
      rcases oi_e hf with ⟨c9, hf⟩ | ⟨c9, hf⟩
      · refine g_if_ne_t (tgt := 30) C dX10_half_25 (by decide) c9 ?_
        exact g_sub [0, 1, 2] rfl (fX10_half_b30_ok C σ7 x1 x2 hf)
      · refine g_if_ne_f (tgt := 30) C dX10_half_25 (by decide) (Decidable.of_not_not c9) ?_
        refine g_iconst (v := (-1)) C dX10_half_28 (by decide) ?_
        obtain ⟨rfl, rfl⟩ := os_e hf
        exact g_iret C rfl dX10_half_29
theorem c_X10_half (l : Launch) (dC : Nat → ClassId) (dI : Nat → Nat → Nat) (ad : Nat → Nat) (cy : Nat → ClassId) (x1 : Int32) (x2 : Int32) : ConI l yX10_half cX10_half 4 (some .int) rm_X10_half dC dI ad cy [.ref (ad 0), .int x1, .int x2] (fun σ => fX10_half σ x1 x2) := con_i (own := RX10) (by decide) rfl (Nat.le_of_ble_eq_true rfl) (fun _ _ _ _ _ _ _ _ σ _ _ C hf => fX10_half_ok C σ x1 x2 hf)
theorem cal_X10_half : CalV yX10_half RX10 cX10_half 4 (some .int) 2 := ⟨hI_X10_half, hS_X10_half, hIni_X10, hC_X10_half, by decide +kernel⟩
abbrev rm_X10_feud : Room := { frames := 1, cells := 0, slots := 0, locals := 23 }
def fX10_feud_b46  (σ : S0) (x1 : Int32) (x2 : Int32) (x3 : Int32) (t0 : Int32) : Option (Int32 × S0) := obp (fX1_setFoes σ 32 x1 x2 x3) (fun r1 σ2 => some (t0, σ2))
set_option maxHeartbeats 1000000 in
set_option maxRecDepth 100000 in
theorem fX10_feud_b46_ok {p : Program} {l : Launch} {e : Env} {s : State} {m : MethodId} {args : Array Value} {below : List Frame} {meth : Method} {c : Code} {dC : Nat → ClassId} {dI : Nat → Nat → Nat} {ad : Nat → Nat} {cy : Nat → ClassId} {sz : Nat} (C : Cx p s m args meth c RX10 cX10_feud 5 (some .int) dC dI ad cy sz) {rr : Int32} {ρ : S0}  (σ : S0) (x1 : Int32) (x2 : Int32) (x3 : Int32) (t0 : Int32)  (hf : fX10_feud_b46 σ x1 x2 x3 t0 = some (rr, ρ)) : Gw p l e rm_X10_feud s m args below meth c (MQ below (QcI dC dI ad cy sz rr ρ) args s 0 0 (AW ad sz)) dC dI ad cy 5 sz 0 0 46 [(0, .ref (ad 0)), (1, .int x1), (2, .int x2), (3, .int x3)] [.int t0] σ := by
  unfold fX10_feud_b46 at hf
  refine g_istore (lv2 := [(0, .ref (ad 0)), (1, .int x1), (2, .int x2), (3, .int x3), (4, .int t0)]) C dX10_feud_46 (by decide) [1, 2, 3, 4, 0] rfl ?_
  refine g_aload_n C dX10_feud_48 rfl 0 rfl ?_
  refine g_get C (a_0 ad cy _) rfl hin_X10 3 (by decide) hF_X10_36 rfl rfl dX10_feud_49 ?_
  refine g_iload_n C dX10_feud_52 rfl 1 rfl ?_
  refine g_iload_n C dX10_feud_53 rfl 2 rfl ?_
  refine g_iload_n C dX10_feud_54 rfl 3 rfl ?_
  obtain ⟨r1, σ2, h3, hf⟩ := obp_e hf
  refine g_callVv (As := [.int x1, .int x2, .int x3]) (rest := []) C (a_32 ad cy _) rfl (c_X1_setFoes l dC dI ad cy 32 k_isChimes_32 x1 x2 x3) h3 hM_X10_175 cal_X1_setFoes ⟨Nat.zero_le _, Nat.zero_le _⟩ ⟨rfl, rfl⟩ ⟨Nat.le_of_ble_eq_true rfl, Nat.le_of_ble_eq_true rfl⟩ rfl rfl (Nat.le_of_ble_eq_true rfl) dX10_feud_55 ?_
  refine g_iload C dX10_feud_58 4 rfl ?_
  obtain ⟨rfl, rfl⟩ := os_e hf
  exact g_iret C rfl dX10_feud_60
def fX10_feud (σ : S0) (x1 : Int32) (x2 : Int32) (x3 : Int32) : Option (Int32 × S0) := obp (fX9_hasHouse σ 22 x1) (fun r1 σ2 => if r1 = 0 then (some ((-1), σ2)) else (obp (fX9_hasHouse σ2 22 x2) (fun r5 σ6 => if r5 = 0 then (some ((-1), σ6)) else (if ¬ x1 = x2 then (obp (fX1_areFoes σ6 32 x1 x2) (fun r10 σ11 => if r10 = 0 then (fX10_feud_b46 σ11 x1 x2 x3 0) else (fX10_feud_b46 σ11 x1 x2 x3 1))) else (some ((-1), σ6))))))
set_option maxHeartbeats 1000000 in
set_option maxRecDepth 100000 in
theorem fX10_feud_ok {p : Program} {l : Launch} {e : Env} {s : State} {m : MethodId} {args : Array Value} {below : List Frame} {meth : Method} {c : Code} {dC : Nat → ClassId} {dI : Nat → Nat → Nat} {ad : Nat → Nat} {cy : Nat → ClassId} {sz : Nat} (C : Cx p s m args meth c RX10 cX10_feud 5 (some .int) dC dI ad cy sz) {rr : Int32} {ρ : S0} (σ : S0) (x1 : Int32) (x2 : Int32) (x3 : Int32)  (hf : fX10_feud σ x1 x2 x3 = some (rr, ρ)) : Gw p l e rm_X10_feud s m args below meth c (MQ below (QcI dC dI ad cy sz rr ρ) args s 0 0 (AW ad sz)) dC dI ad cy 5 sz 0 0 0 [(0, .ref (ad 0)), (1, .int x1), (2, .int x2), (3, .int x3)] [] σ := by
  unfold fX10_feud at hf
  refine g_aload_n C dX10_feud_0 rfl 0 rfl ?_
  refine g_get C (a_0 ad cy _) rfl hin_X10 2 (by decide) hF_X10_28 rfl rfl dX10_feud_1 ?_
  refine g_iload_n C dX10_feud_4 rfl 1 rfl ?_
  obtain ⟨r1, σ2, h3, hf⟩ := obp_e hf
  refine g_callVi (As := [.int x1]) (rest := []) C (a_22 ad cy _) rfl (c_X9_hasHouse l dC dI ad cy 22 k_isTown_22 x1) h3 hM_X10_163 cal_X9_hasHouse ⟨Nat.zero_le _, Nat.zero_le _⟩ ⟨rfl, rfl⟩ ⟨Nat.le_of_ble_eq_true rfl, Nat.le_of_ble_eq_true rfl⟩ rfl rfl (Nat.le_of_ble_eq_true rfl) dX10_feud_5 ?_
  rcases oi_e hf with ⟨c4, hf⟩ | ⟨c4, hf⟩
  · refine g_if_eq_t (tgt := 27) C dX10_feud_8 (by decide) c4 ?_
    refine g_iconst (v := (-1)) C dX10_feud_27 (by decide) ?_
    obtain ⟨rfl, rfl⟩ := os_e hf
    exact g_iret C rfl dX10_feud_28
  · refine g_if_eq_f (tgt := 27) C dX10_feud_8 (by decide) c4 ?_
    refine g_aload_n C dX10_feud_11 rfl 0 rfl ?_
    refine g_get C (a_0 ad cy _) rfl hin_X10 2 (by decide) hF_X10_28 rfl rfl dX10_feud_12 ?_
    refine g_iload_n C dX10_feud_15 rfl 2 rfl ?_
    obtain ⟨r5, σ6, h7, hf⟩ := obp_e hf
    refine g_callVi (As := [.int x2]) (rest := []) C (a_22 ad cy _) rfl (c_X9_hasHouse l dC dI ad cy 22 k_isTown_22 x2) h7 hM_X10_163 cal_X9_hasHouse ⟨Nat.zero_le _, Nat.zero_le _⟩ ⟨rfl, rfl⟩ ⟨Nat.le_of_ble_eq_true rfl, Nat.le_of_ble_eq_true rfl⟩ rfl rfl (Nat.le_of_ble_eq_true rfl) dX10_feud_16 ?_
    rcases oi_e hf with ⟨c8, hf⟩ | ⟨c8, hf⟩
    · refine g_if_eq_t (tgt := 27) C dX10_feud_19 (by decide) c8 ?_
      refine g_iconst (v := (-1)) C dX10_feud_27 (by decide) ?_
      obtain ⟨rfl, rfl⟩ := os_e hf
      exact g_iret C rfl dX10_feud_28
    · refine g_if_eq_f (tgt := 27) C dX10_feud_19 (by decide) c8 ?_
      refine g_iload_n C dX10_feud_22 rfl 1 rfl ?_
      refine g_iload_n C dX10_feud_23 rfl 2 rfl ?_
      rcases oi_e hf with ⟨c9, hf⟩ | ⟨c9, hf⟩
      · refine g_icmp_ne_t (tgt := 29) C dX10_feud_24 (by decide) c9 ?_
        refine g_aload_n C dX10_feud_29 rfl 0 rfl ?_
        refine g_get C (a_0 ad cy _) rfl hin_X10 3 (by decide) hF_X10_36 rfl rfl dX10_feud_30 ?_
        refine g_iload_n C dX10_feud_33 rfl 1 rfl ?_
        refine g_iload_n C dX10_feud_34 rfl 2 rfl ?_
        obtain ⟨r10, σ11, h12, hf⟩ := obp_e hf
        refine g_callVi (As := [.int x1, .int x2]) (rest := []) C (a_32 ad cy _) rfl (c_X1_areFoes l dC dI ad cy 32 k_isChimes_32 x1 x2) h12 hM_X10_172 cal_X1_areFoes ⟨Nat.zero_le _, Nat.zero_le _⟩ ⟨rfl, rfl⟩ ⟨Nat.le_of_ble_eq_true rfl, Nat.le_of_ble_eq_true rfl⟩ rfl rfl (Nat.le_of_ble_eq_true rfl) dX10_feud_35 ?_
        rcases oi_e hf with ⟨c13, hf⟩ | ⟨c13, hf⟩
        · refine g_if_eq_t (tgt := 45) C dX10_feud_38 (by decide) c13 ?_
          refine g_iconst (v := 0) C dX10_feud_45 (by decide) ?_
          exact g_sub [0, 1, 2, 3] rfl (fX10_feud_b46_ok C σ11 x1 x2 x3 0 hf)
        · refine g_if_eq_f (tgt := 45) C dX10_feud_38 (by decide) c13 ?_
          refine g_iconst (v := 1) C dX10_feud_41 (by decide) ?_
          refine g_goto (tgt := 46) C dX10_feud_42 (by decide) ?_
          exact g_sub [0, 1, 2, 3] rfl (fX10_feud_b46_ok C σ11 x1 x2 x3 1 hf)
      · refine g_icmp_ne_f (tgt := 29) C dX10_feud_24 (by decide) (Decidable.of_not_not c9) ?_
        refine g_iconst (v := (-1)) C dX10_feud_27 (by decide) ?_
        obtain ⟨rfl, rfl⟩ := os_e hf
        exact g_iret C rfl dX10_feud_28
theorem c_X10_feud (l : Launch) (dC : Nat → ClassId) (dI : Nat → Nat → Nat) (ad : Nat → Nat) (cy : Nat → ClassId) (x1 : Int32) (x2 : Int32) (x3 : Int32) : ConI l yX10_feud cX10_feud 5 (some .int) rm_X10_feud dC dI ad cy [.ref (ad 0), .int x1, .int x2, .int x3] (fun σ => fX10_feud σ x1 x2 x3) := con_i (own := RX10) (by decide) rfl (Nat.le_of_ble_eq_true rfl) (fun _ _ _ _ _ _ _ _ σ _ _ C hf => fX10_feud_ok C σ x1 x2 x3 hf)
theorem cal_X10_feud : CalV yX10_feud RX10 cX10_feud 5 (some .int) 3 := ⟨hI_X10_feud, hS_X10_feud, hIni_X10, hC_X10_feud, by decide +kernel⟩
