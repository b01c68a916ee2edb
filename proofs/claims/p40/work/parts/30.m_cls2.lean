section
abbrev rm_X5_readFeud : Room := { frames := 3, cells := 0, slots := 0, locals := 61 }
def fX5_readFeud (σ : S0)  : Option (Int32 × S0) := obp (fX5_nextNumber σ ((0 : Int32)) ((5 : Int32))) (fun r1 σ2 => if ¬ r1 = 0 then (ol (σ2 1 5) (fun v5 => obp (fX5_nextNumber σ2 ((0 : Int32)) ((5 : Int32))) (fun r6 σ7 => if ¬ r6 = 0 then (if ¬ (σ7 1 5) = v5 then (obp (fX1_setFoes σ7 14 v5 (σ7 1 5) ((1 : Int32))) (fun r11 σ12 => obp (fX5_advance σ12) (fun r14 σ15 => if r14 = 0 then (some (0, σ15)) else (obp (fX5_endLine σ15) (fun r18 σ19 => if r18 = 0 then (some (0, σ19)) else (some (1, σ19))))))) else (obp (fX5_refuse σ7 ((4 : Int32))) (fun r22 σ23 => og (r22 = 0 ∨ r22 = 1) (some (r22, σ23))))) else (some (0, σ7))))) else (some (0, σ2)))
set_option maxHeartbeats 1000000 in
set_option maxRecDepth 100000 in
theorem fX5_readFeud_ok {p : Program} {l : Launch} {e : Env} {s : State} {m : MethodId} {args : Array Value} {below : List Frame} {meth : Method} {c : Code} {dC : Nat → ClassId} {dI : Nat → Nat → Nat} {ad : Nat → Nat} {cy : Nat → ClassId} {sz : Nat} (C : Cx p s m args meth c RX5 cX5_readFeud 2 (some .boolean) dC dI ad cy sz) {rr : Int32} {ρ : S0} (σ : S0)   (hf : fX5_readFeud σ = some (rr, ρ)) : Gw p l e rm_X5_readFeud s m args below meth c (MQ below (QcI dC dI ad cy sz rr ρ) args s 0 0 (AW ad sz)) dC dI ad cy 2 sz 0 0 0 [(0, .ref (ad 3))] [] σ := by
  unfold fX5_readFeud at hf
  refine g_aload_n C dX5_readFeud_0 rfl 0 rfl ?_
  refine g_iconst (v := 0) C dX5_readFeud_1 (by decide) ?_
  refine g_iconst (v := 5) C dX5_readFeud_2 (by decide) ?_
  obtain ⟨r1, σ2, h3, hf⟩ := obp_e hf
  refine g_callVi (As := [.int 0, .int 5]) (rest := []) C (a_3 ad cy _) rfl (c_X5_nextNumber l dC dI ad cy ((0 : Int32)) ((5 : Int32))) h3 hM_X5_90 cal_X5_nextNumber ⟨Nat.zero_le _, Nat.zero_le _⟩ ⟨rfl, rfl⟩ ⟨Nat.le_of_ble_eq_true rfl, Nat.le_of_ble_eq_true rfl⟩ rfl rfl (Nat.le_of_ble_eq_true rfl) dX5_readFeud_3 ?_
  rcases oi_e hf with ⟨c4, hf⟩ | ⟨c4, hf⟩
  · refine g_if_ne_t (tgt := 11) C dX5_readFeud_6 (by decide) c4 ?_
    refine g_aload_n C dX5_readFeud_11 rfl 0 rfl ?_
    refine g_get C (a_3 ad cy _) rfl hin_X5 0 (by decide) hF_X5_18 rfl rfl dX5_readFeud_12 ?_
    refine g_get C (a_1 ad cy _) rfl hin_X8 5 (by decide) hF_X5_94 rfl rfl dX5_readFeud_15 ?_
    obtain ⟨v5, ev5, hf⟩ := ol_e hf
    refine g_nm ev5 ?_
    refine g_istore_n (lv2 := [(0, .ref (ad 3)), (1, .int v5)]) C dX5_readFeud_18 rfl (by decide) [1, 0] rfl ?_
    refine g_aload_n C dX5_readFeud_19 rfl 0 rfl ?_
    refine g_iconst (v := 0) C dX5_readFeud_20 (by decide) ?_
    refine g_iconst (v := 5) C dX5_readFeud_21 (by decide) ?_
    obtain ⟨r6, σ7, h8, hf⟩ := obp_e hf
    refine g_callVi (As := [.int 0, .int 5]) (rest := []) C (a_3 ad cy _) rfl (c_X5_nextNumber l dC dI ad cy ((0 : Int32)) ((5 : Int32))) h8 hM_X5_90 cal_X5_nextNumber ⟨Nat.zero_le _, Nat.zero_le _⟩ ⟨rfl, rfl⟩ ⟨Nat.le_of_ble_eq_true rfl, Nat.le_of_ble_eq_true rfl⟩ rfl rfl (Nat.le_of_ble_eq_true rfl) dX5_readFeud_22 ?_
    rcases oi_e hf with ⟨c9, hf⟩ | ⟨c9, hf⟩
    · refine g_if_ne_t (tgt := 30) C dX5_readFeud_25 (by decide) c9 ?_
      refine g_aload_n C dX5_readFeud_30 rfl 0 rfl ?_
      refine g_get C (a_3 ad cy _) rfl hin_X5 0 (by decide) hF_X5_18 rfl rfl dX5_readFeud_31 ?_
      refine g_get C (a_1 ad cy _) rfl hin_X8 5 (by decide) hF_X5_94 rfl rfl dX5_readFeud_34 ?_
      refine g_iload_n C dX5_readFeud_37 rfl 1 rfl ?_
      rcases oi_e hf with ⟨c10, hf⟩ | ⟨c10, hf⟩
      · refine g_icmp_ne_t (tgt := 47) C dX5_readFeud_38 (by decide) c10 ?_
        refine g_aload_n C dX5_readFeud_47 rfl 0 rfl ?_
        refine g_get C (a_3 ad cy _) rfl hin_X5 1 (by decide) hF_X5_12 rfl rfl dX5_readFeud_48 ?_
        refine g_get C (a_4 ad cy _) rfl hin_X9 6 (by decide) hF_X5_104 rfl rfl dX5_readFeud_51 ?_
        refine g_iload_n C dX5_readFeud_54 rfl 1 rfl ?_
        refine g_aload_n C dX5_readFeud_55 rfl 0 rfl ?_
        refine g_get C (a_3 ad cy _) rfl hin_X5 0 (by decide) hF_X5_18 rfl rfl dX5_readFeud_56 ?_
        refine g_get C (a_1 ad cy _) rfl hin_X8 5 (by decide) hF_X5_94 rfl rfl dX5_readFeud_59 ?_
        refine g_iconst (v := 1) C dX5_readFeud_62 (by decide) ?_
        obtain ⟨r11, σ12, h13, hf⟩ := obp_e hf
        refine g_callVv (As := [.int v5, .int (σ7 1 5), .int 1]) (rest := []) C (a_14 ad cy _) rfl (c_X1_setFoes l dC dI ad cy 14 k_isChimes_14 v5 (σ7 1 5) ((1 : Int32))) h13 hM_X5_155 cal_X1_setFoes ⟨Nat.zero_le _, Nat.zero_le _⟩ ⟨rfl, rfl⟩ ⟨Nat.le_of_ble_eq_true rfl, Nat.le_of_ble_eq_true rfl⟩ rfl rfl (Nat.le_of_ble_eq_true rfl) dX5_readFeud_63 ?_
        refine g_aload_n C dX5_readFeud_66 rfl 0 rfl ?_
        obtain ⟨r14, σ15, h16, hf⟩ := obp_e hf
        refine g_callVi (As := []) (rest := []) C (a_3 ad cy _) rfl (c_X5_advance l dC dI ad cy ) h16 hM_X5_44 cal_X5_advance ⟨Nat.zero_le _, Nat.zero_le _⟩ ⟨rfl, rfl⟩ ⟨Nat.le_of_ble_eq_true rfl, Nat.le_of_ble_eq_true rfl⟩ rfl rfl (Nat.le_of_ble_eq_true rfl) dX5_readFeud_67 ?_
        rcases oi_e hf with ⟨c17, hf⟩ | ⟨c17, hf⟩
        · refine g_if_eq_t (tgt := 84) C dX5_readFeud_70 (by decide) c17 ?_
          refine g_iconst (v := 0) C dX5_readFeud_84 (by decide) ?_
          obtain ⟨rfl, rfl⟩ := os_e hf
          exact g_zret C rfl (by decide) dX5_readFeud_85
        · refine g_if_eq_f (tgt := 84) C dX5_readFeud_70 (by decide) c17 ?_
          refine g_aload_n C dX5_readFeud_73 rfl 0 rfl ?_
          obtain ⟨r18, σ19, h20, hf⟩ := obp_e hf
          refine g_callVi (As := []) (rest := []) C (a_3 ad cy _) rfl (c_X5_endLine l dC dI ad cy ) h20 hM_X5_99 cal_X5_endLine ⟨Nat.zero_le _, Nat.zero_le _⟩ ⟨rfl, rfl⟩ ⟨Nat.le_of_ble_eq_true rfl, Nat.le_of_ble_eq_true rfl⟩ rfl rfl (Nat.le_of_ble_eq_true rfl) dX5_readFeud_74 ?_
          rcases oi_e hf with ⟨c21, hf⟩ | ⟨c21, hf⟩
          · refine g_if_eq_t (tgt := 84) C dX5_readFeud_77 (by decide) c21 ?_
            refine g_iconst (v := 0) C dX5_readFeud_84 (by decide) ?_
            obtain ⟨rfl, rfl⟩ := os_e hf
            exact g_zret C rfl (by decide) dX5_readFeud_85
          · refine g_if_eq_f (tgt := 84) C dX5_readFeud_77 (by decide) c21 ?_
            refine g_iconst (v := 1) C dX5_readFeud_80 (by decide) ?_
            refine g_goto (tgt := 85) C dX5_readFeud_81 (by decide) ?_
            obtain ⟨rfl, rfl⟩ := os_e hf
            exact g_zret C rfl (by decide) dX5_readFeud_85
      · refine g_icmp_ne_f (tgt := 47) C dX5_readFeud_38 (by decide) (Decidable.of_not_not c10) ?_
        refine g_aload_n C dX5_readFeud_41 rfl 0 rfl ?_
        refine g_iconst (v := 4) C dX5_readFeud_42 (by decide) ?_
        obtain ⟨r22, σ23, h24, hf⟩ := obp_e hf
        refine g_callVi (As := [.int 4]) (rest := []) C (a_3 ad cy _) rfl (c_X5_refuse l dC dI ad cy ((4 : Int32))) h24 hM_X5_57 cal_X5_refuse ⟨Nat.zero_le _, Nat.zero_le _⟩ ⟨rfl, rfl⟩ ⟨Nat.le_of_ble_eq_true rfl, Nat.le_of_ble_eq_true rfl⟩ rfl rfl (Nat.le_of_ble_eq_true rfl) dX5_readFeud_43 ?_
        obtain ⟨h25, hf⟩ := og_e hf
        obtain ⟨rfl, rfl⟩ := os_e hf
        exact g_zret C rfl (zb_ok h25) dX5_readFeud_46
    · refine g_if_ne_f (tgt := 30) C dX5_readFeud_25 (by decide) (Decidable.of_not_not c9) ?_
      refine g_iconst (v := 0) C dX5_readFeud_28 (by decide) ?_
      obtain ⟨rfl, rfl⟩ := os_e hf
      exact g_zret C rfl (by decide) dX5_readFeud_29
  · refine g_if_ne_f (tgt := 11) C dX5_readFeud_6 (by decide) (Decidable.of_not_not c4) ?_
    refine g_iconst (v := 0) C dX5_readFeud_9 (by decide) ?_
    obtain ⟨rfl, rfl⟩ := os_e hf
    exact g_zret C rfl (by decide) dX5_readFeud_10
theorem c_X5_readFeud (l : Launch) (dC : Nat → ClassId) (dI : Nat → Nat → Nat) (ad : Nat → Nat) (cy : Nat → ClassId)  : ConI l yX5_readFeud cX5_readFeud 2 (some .boolean) rm_X5_readFeud dC dI ad cy [.ref (ad 3)] (fun σ => fX5_readFeud σ) := con_i (own := RX5) (by decide) rfl (Nat.le_of_ble_eq_true rfl) (fun _ _ _ _ _ _ _ _ σ _ _ C hf => fX5_readFeud_ok C σ  hf)
theorem cal_X5_readFeud : CalV yX5_readFeud RX5 cX5_readFeud 2 (some .boolean) 0 := ⟨hI_X5_readFeud, hS_X5_readFeud, hIni_X5, hC_X5_readFeud, by decide +kernel⟩
abbrev rm_X5_readLine : Room := { frames := 7, cells := 0, slots := 0, locals := 153 }
def fX5_readLine (σ : S0)  : Option (Int32 × S0) := obp (fX8_isName σ 0) (fun r1 σ2 => if r1 = 0 then (obp (fX8_isName σ2 1) (fun r5 σ6 => if r5 = 0 then (obp (fX8_isName σ6 2) (fun r9 σ10 => if r9 = 0 then (obp (fX8_isName σ10 3) (fun r13 σ14 => if r13 = 0 then (obp (fX8_isName σ14 4) (fun r17 σ18 => if r17 = 0 then (obp (fX5_refuse σ18 ((2 : Int32))) (fun r21 σ22 => og (r21 = 0 ∨ r21 = 1) (some (r21, σ22)))) else (obp (fX5_readFeud σ18) (fun r25 σ26 => og (r25 = 0 ∨ r25 = 1) (some (r25, σ26)))))) else (obp (fX5_readTune σ14) (fun r29 σ30 => og (r29 = 0 ∨ r29 = 1) (some (r29, σ30)))))) else (obp (fX5_readBell σ10) (fun r33 σ34 => og (r33 = 0 ∨ r33 = 1) (some (r33, σ34)))))) else (obp (fX5_readGap σ6) (fun r37 σ38 => og (r37 = 0 ∨ r37 = 1) (some (r37, σ38)))))) else (obp (fX5_readHouses σ2) (fun r41 σ42 => og (r41 = 0 ∨ r41 = 1) (some (r41, σ42)))))
set_option maxHeartbeats 1000000 in
set_option maxRecDepth 100000 in
theorem fX5_readLine_ok {p : Program} {l : Launch} {e : Env} {s : State} {m : MethodId} {args : Array Value} {below : List Frame} {meth : Method} {c : Code} {dC : Nat → ClassId} {dI : Nat → Nat → Nat} {ad : Nat → Nat} {cy : Nat → ClassId} {sz : Nat} (C : Cx p s m args meth c RX5 cX5_readLine 1 (some .boolean) dC dI ad cy sz) {rr : Int32} {ρ : S0} (σ : S0)   (hf : fX5_readLine σ = some (rr, ρ)) : Gw p l e rm_X5_readLine s m args below meth c (MQ below (QcI dC dI ad cy sz rr ρ) args s 0 0 (AW ad sz)) dC dI ad cy 1 sz 0 0 0 [(0, .ref (ad 3))] [] σ := by
  unfold fX5_readLine at hf
  refine g_aload_n C dX5_readLine_0 rfl 0 rfl ?_
  refine g_get C (a_3 ad cy _) rfl hin_X5 0 (by decide) hF_X5_18 rfl rfl dX5_readLine_1 ?_
  refine g_ldcs C (i := 0) (by decide) rfl dX5_readLine_4 ?_
  obtain ⟨r1, σ2, h3, hf⟩ := obp_e hf
  refine g_callVi (As := [.ref (ad (200 + 0))]) (rest := []) C (a_1 ad cy _) rfl (c_X8_isName l dC dI ad cy 0 ((by decide : isStr 0))) h3 hM_X5_63 cal_X8_isName ⟨Nat.zero_le _, Nat.zero_le _⟩ ⟨rfl, rfl⟩ ⟨Nat.le_of_ble_eq_true rfl, Nat.le_of_ble_eq_true rfl⟩ rfl rfl (Nat.le_of_ble_eq_true rfl) dX5_readLine_6 ?_
  rcases oi_e hf with ⟨c4, hf⟩ | ⟨c4, hf⟩
  · refine g_if_eq_t (tgt := 17) C dX5_readLine_9 (by decide) c4 ?_
    refine g_aload_n C dX5_readLine_17 rfl 0 rfl ?_
    refine g_get C (a_3 ad cy _) rfl hin_X5 0 (by decide) hF_X5_18 rfl rfl dX5_readLine_18 ?_
    refine g_ldcs C (i := 1) (by decide) rfl dX5_readLine_21 ?_
    obtain ⟨r5, σ6, h7, hf⟩ := obp_e hf
    refine g_callVi (As := [.ref (ad (200 + 1))]) (rest := []) C (a_1 ad cy _) rfl (c_X8_isName l dC dI ad cy 1 ((by decide : isStr 1))) h7 hM_X5_63 cal_X8_isName ⟨Nat.zero_le _, Nat.zero_le _⟩ ⟨rfl, rfl⟩ ⟨Nat.le_of_ble_eq_true rfl, Nat.le_of_ble_eq_true rfl⟩ rfl rfl (Nat.le_of_ble_eq_true rfl) dX5_readLine_23 ?_
    rcases oi_e hf with ⟨c8, hf⟩ | ⟨c8, hf⟩
    · refine g_if_eq_t (tgt := 34) C dX5_readLine_26 (by decide) c8 ?_
      refine g_aload_n C dX5_readLine_34 rfl 0 rfl ?_
      refine g_get C (a_3 ad cy _) rfl hin_X5 0 (by decide) hF_X5_18 rfl rfl dX5_readLine_35 ?_
      refine g_ldcs C (i := 2) (by decide) rfl dX5_readLine_38 ?_
      obtain ⟨r9, σ10, h11, hf⟩ := obp_e hf
      refine g_callVi (As := [.ref (ad (200 + 2))]) (rest := []) C (a_1 ad cy _) rfl (c_X8_isName l dC dI ad cy 2 ((by decide : isStr 2))) h11 hM_X5_63 cal_X8_isName ⟨Nat.zero_le _, Nat.zero_le _⟩ ⟨rfl, rfl⟩ ⟨Nat.le_of_ble_eq_true rfl, Nat.le_of_ble_eq_true rfl⟩ rfl rfl (Nat.le_of_ble_eq_true rfl) dX5_readLine_40 ?_
      rcases oi_e hf with ⟨c12, hf⟩ | ⟨c12, hf⟩
      · refine g_if_eq_t (tgt := 51) C dX5_readLine_43 (by decide) c12 ?_
        refine g_aload_n C dX5_readLine_51 rfl 0 rfl ?_
        refine g_get C (a_3 ad cy _) rfl hin_X5 0 (by decide) hF_X5_18 rfl rfl dX5_readLine_52 ?_
        refine g_ldcs C (i := 3) (by decide) rfl dX5_readLine_55 ?_
        obtain ⟨r13, σ14, h15, hf⟩ := obp_e hf
        refine g_callVi (As := [.ref (ad (200 + 3))]) (rest := []) C (a_1 ad cy _) rfl (c_X8_isName l dC dI ad cy 3 ((by decide : isStr 3))) h15 hM_X5_63 cal_X8_isName ⟨Nat.zero_le _, Nat.zero_le _⟩ ⟨rfl, rfl⟩ ⟨Nat.le_of_ble_eq_true rfl, Nat.le_of_ble_eq_true rfl⟩ rfl rfl (Nat.le_of_ble_eq_true rfl) dX5_readLine_57 ?_
        rcases oi_e hf with ⟨c16, hf⟩ | ⟨c16, hf⟩
        · refine g_if_eq_t (tgt := 68) C dX5_readLine_60 (by decide) c16 ?_
          refine g_aload_n C dX5_readLine_68 rfl 0 rfl ?_
          refine g_get C (a_3 ad cy _) rfl hin_X5 0 (by decide) hF_X5_18 rfl rfl dX5_readLine_69 ?_
          refine g_ldcs C (i := 4) (by decide) rfl dX5_readLine_72 ?_
          obtain ⟨r17, σ18, h19, hf⟩ := obp_e hf
          refine g_callVi (As := [.ref (ad (200 + 4))]) (rest := []) C (a_1 ad cy _) rfl (c_X8_isName l dC dI ad cy 4 ((by decide : isStr 4))) h19 hM_X5_63 cal_X8_isName ⟨Nat.zero_le _, Nat.zero_le _⟩ ⟨rfl, rfl⟩ ⟨Nat.le_of_ble_eq_true rfl, Nat.le_of_ble_eq_true rfl⟩ rfl rfl (Nat.le_of_ble_eq_true rfl) dX5_readLine_74 ?_
          rcases oi_e hf with ⟨c20, hf⟩ | ⟨c20, hf⟩
          · refine g_if_eq_t (tgt := 87) C dX5_readLine_77 (by decide) c20 ?_
            refine g_aload_n C dX5_readLine_87 rfl 0 rfl ?_
            refine g_iconst (v := 2) C dX5_readLine_88 (by decide) ?_
            obtain ⟨r21, σ22, h23, hf⟩ := obp_e hf
            refine g_callVi (As := [.int 2]) (rest := []) C (a_3 ad cy _) rfl (c_X5_refuse l dC dI ad cy ((2 : Int32))) h23 hM_X5_57 cal_X5_refuse ⟨Nat.zero_le _, Nat.zero_le _⟩ ⟨rfl, rfl⟩ ⟨Nat.le_of_ble_eq_true rfl, Nat.le_of_ble_eq_true rfl⟩ rfl rfl (Nat.le_of_ble_eq_true rfl) dX5_readLine_89 ?_
            obtain ⟨h24, hf⟩ := og_e hf
            obtain ⟨rfl, rfl⟩ := os_e hf
            exact g_zret C rfl (zb_ok h24) dX5_readLine_92
          · refine g_if_eq_f (tgt := 87) C dX5_readLine_77 (by decide) c20 ?_
            refine g_aload_n C dX5_readLine_80 rfl 0 rfl ?_
            obtain ⟨r25, σ26, h27, hf⟩ := obp_e hf
            refine g_callVi (As := []) (rest := []) C (a_3 ad cy _) rfl (c_X5_readFeud l dC dI ad cy ) h27 hM_X5_87 cal_X5_readFeud ⟨Nat.zero_le _, Nat.zero_le _⟩ ⟨rfl, rfl⟩ ⟨Nat.le_of_ble_eq_true rfl, Nat.le_of_ble_eq_true rfl⟩ rfl rfl (Nat.le_of_ble_eq_true rfl) dX5_readLine_81 ?_
            refine g_goto (tgt := 92) C dX5_readLine_84 (by decide) ?_
            obtain ⟨h28, hf⟩ := og_e hf
            obtain ⟨rfl, rfl⟩ := os_e hf
            exact g_zret C rfl (zb_ok h28) dX5_readLine_92
        · refine g_if_eq_f (tgt := 68) C dX5_readLine_60 (by decide) c16 ?_
          refine g_aload_n C dX5_readLine_63 rfl 0 rfl ?_
          obtain ⟨r29, σ30, h31, hf⟩ := obp_e hf
          refine g_callVi (As := []) (rest := []) C (a_3 ad cy _) rfl (c_X5_readTune l dC dI ad cy ) h31 hM_X5_82 cal_X5_readTune ⟨Nat.zero_le _, Nat.zero_le _⟩ ⟨rfl, rfl⟩ ⟨Nat.le_of_ble_eq_true rfl, Nat.le_of_ble_eq_true rfl⟩ rfl rfl (Nat.le_of_ble_eq_true rfl) dX5_readLine_64 ?_
          obtain ⟨h32, hf⟩ := og_e hf
          obtain ⟨rfl, rfl⟩ := os_e hf
          exact g_zret C rfl (zb_ok h32) dX5_readLine_67
      · refine g_if_eq_f (tgt := 51) C dX5_readLine_43 (by decide) c12 ?_
        refine g_aload_n C dX5_readLine_46 rfl 0 rfl ?_
        obtain ⟨r33, σ34, h35, hf⟩ := obp_e hf
        refine g_callVi (As := []) (rest := []) C (a_3 ad cy _) rfl (c_X5_readBell l dC dI ad cy ) h35 hM_X5_77 cal_X5_readBell ⟨Nat.zero_le _, Nat.zero_le _⟩ ⟨rfl, rfl⟩ ⟨Nat.le_of_ble_eq_true rfl, Nat.le_of_ble_eq_true rfl⟩ rfl rfl (Nat.le_of_ble_eq_true rfl) dX5_readLine_47 ?_
        obtain ⟨h36, hf⟩ := og_e hf
        obtain ⟨rfl, rfl⟩ := os_e hf
        exact g_zret C rfl (zb_ok h36) dX5_readLine_50
    · refine g_if_eq_f (tgt := 34) C dX5_readLine_26 (by decide) c8 ?_
      refine g_aload_n C dX5_readLine_29 rfl 0 rfl ?_
      obtain ⟨r37, σ38, h39, hf⟩ := obp_e hf
      refine g_callVi (As := []) (rest := []) C (a_3 ad cy _) rfl (c_X5_readGap l dC dI ad cy ) h39 hM_X5_72 cal_X5_readGap ⟨Nat.zero_le _, Nat.zero_le _⟩ ⟨rfl, rfl⟩ ⟨Nat.le_of_ble_eq_true rfl, Nat.le_of_ble_eq_true rfl⟩ rfl rfl (Nat.le_of_ble_eq_true rfl) dX5_readLine_30 ?_
      obtain ⟨h40, hf⟩ := og_e hf
      obtain ⟨rfl, rfl⟩ := os_e hf
      exact g_zret C rfl (zb_ok h40) dX5_readLine_33
  · refine g_if_eq_f (tgt := 17) C dX5_readLine_9 (by decide) c4 ?_
    refine g_aload_n C dX5_readLine_12 rfl 0 rfl ?_
    obtain ⟨r41, σ42, h43, hf⟩ := obp_e hf
    refine g_callVi (As := []) (rest := []) C (a_3 ad cy _) rfl (c_X5_readHouses l dC dI ad cy ) h43 hM_X5_67 cal_X5_readHouses ⟨Nat.zero_le _, Nat.zero_le _⟩ ⟨rfl, rfl⟩ ⟨Nat.le_of_ble_eq_true rfl, Nat.le_of_ble_eq_true rfl⟩ rfl rfl (Nat.le_of_ble_eq_true rfl) dX5_readLine_13 ?_
    obtain ⟨h44, hf⟩ := og_e hf
    obtain ⟨rfl, rfl⟩ := os_e hf
    exact g_zret C rfl (zb_ok h44) dX5_readLine_16
theorem c_X5_readLine (l : Launch) (dC : Nat → ClassId) (dI : Nat → Nat → Nat) (ad : Nat → Nat) (cy : Nat → ClassId)  : ConI l yX5_readLine cX5_readLine 1 (some .boolean) rm_X5_readLine dC dI ad cy [.ref (ad 3)] (fun σ => fX5_readLine σ) := con_i (own := RX5) (by decide) rfl (Nat.le_of_ble_eq_true rfl) (fun _ _ _ _ _ _ _ _ σ _ _ C hf => fX5_readLine_ok C σ  hf)
theorem cal_X5_readLine : CalV yX5_readLine RX5 cX5_readLine 1 (some .boolean) 0 := ⟨hI_X5_readLine, hS_X5_readLine, hIni_X5, hC_X5_readLine, by decide +kernel⟩
abbrev rm_X5_readAll : Room := { frames := 8, cells := 0, slots := 0, locals := 173 }
def fX5_readAll_b104  (σ : S0)  : Option (Int32 × S0) := some (1, σ)
set_option maxHeartbeats 1000000 in
set_option maxRecDepth 100000 in
theorem fX5_readAll_b104_ok {p : Program} {l : Launch} {e : Env} {s : State} {m : MethodId} {args : Array Value} {below : List Frame} {meth : Method} {c : Code} {dC : Nat → ClassId} {dI : Nat → Nat → Nat} {ad : Nat → Nat} {cy : Nat → ClassId} {sz : Nat} (C : Cx p s m args meth c RX5 cX5_readAll 2 (some .boolean) dC dI ad cy sz) {rr : Int32} {ρ : S0}  (σ : S0)   (hf : fX5_readAll_b104 σ = some (rr, ρ)) : Gw p l e rm_X5_readAll s m args below meth c (MQ below (QcI dC dI ad cy sz rr ρ) args s 0 0 (AW ad sz)) dC dI ad cy 2 sz 0 0 104 [] [] σ := by
  unfold fX5_readAll_b104 at hf
  refine g_iconst (v := 1) C dX5_readAll_104 (by decide) ?_
  refine g_goto (tgt := 109) C dX5_readAll_105 (by decide) ?_
  obtain ⟨rfl, rfl⟩ := os_e hf
  exact g_zret C rfl (by decide) dX5_readAll_109
def fX5_readAll_b81  (σ : S0) (x1 : Int32) : Option (Int32 × S0) := if x1 = 0 then (some (0, σ)) else (obp (fX9_isWhole σ 4) (fun r2 σ3 => if ¬ r2 = 0 then (fX5_readAll_b104 σ3) else (obp (fX5_refuse σ3 ((6 : Int32))) (fun r6 σ7 => if r6 = 0 then (some (0, σ7)) else (fX5_readAll_b104 σ7)))))
set_option maxHeartbeats 1000000 in
set_option maxRecDepth 100000 in
theorem fX5_readAll_b81_ok {p : Program} {l : Launch} {e : Env} {s : State} {m : MethodId} {args : Array Value} {below : List Frame} {meth : Method} {c : Code} {dC : Nat → ClassId} {dI : Nat → Nat → Nat} {ad : Nat → Nat} {cy : Nat → ClassId} {sz : Nat} (C : Cx p s m args meth c RX5 cX5_readAll 2 (some .boolean) dC dI ad cy sz) {rr : Int32} {ρ : S0}  (σ : S0) (x1 : Int32)  (hf : fX5_readAll_b81 σ x1 = some (rr, ρ)) : Gw p l e rm_X5_readAll s m args below meth c (MQ below (QcI dC dI ad cy sz rr ρ) args s 0 0 (AW ad sz)) dC dI ad cy 2 sz 0 0 81 [(0, .ref (ad 3)), (1, .int x1)] [] σ := by
  unfold fX5_readAll_b81 at hf
  refine g_iload_n C dX5_readAll_81 rfl 1 rfl ?_
  rcases oi_e hf with ⟨c1, hf⟩ | ⟨c1, hf⟩
  · refine g_if_eq_t (tgt := 108) C dX5_readAll_82 (by decide) c1 ?_
    refine g_iconst (v := 0) C dX5_readAll_108 (by decide) ?_
    obtain ⟨rfl, rfl⟩ := os_e hf
    exact g_zret C rfl (by decide) dX5_readAll_109
  · refine g_if_eq_f (tgt := 108) C dX5_readAll_82 (by decide) c1 ?_
    refine g_aload_n C dX5_readAll_85 rfl 0 rfl ?_
    refine g_get C (a_3 ad cy _) rfl hin_X5 1 (by decide) hF_X5_12 rfl rfl dX5_readAll_86 ?_
    obtain ⟨r2, σ3, h4, hf⟩ := obp_e hf
    refine g_callVi (As := []) (rest := []) C (a_4 ad cy _) rfl (c_X9_isWhole l dC dI ad cy 4 k_isTown_4) h4 hM_X5_54 cal_X9_isWhole ⟨Nat.zero_le _, Nat.zero_le _⟩ ⟨rfl, rfl⟩ ⟨Nat.le_of_ble_eq_true rfl, Nat.le_of_ble_eq_true rfl⟩ rfl rfl (Nat.le_of_ble_eq_true rfl) dX5_readAll_89 ?_
    rcases oi_e hf with ⟨c5, hf⟩ | ⟨c5, hf⟩
    · refine g_if_ne_t (tgt := 104) C dX5_readAll_92 (by decide) c5 ?_
      exact g_sub [] rfl (fX5_readAll_b104_ok C σ3 hf)
    · refine g_if_ne_f (tgt := 104) C dX5_readAll_92 (by decide) (Decidable.of_not_not c5) ?_
      refine g_aload_n C dX5_readAll_95 rfl 0 rfl ?_
      refine g_bipush (v := 6) C dX5_readAll_96 (by decide) ?_
      obtain ⟨r6, σ7, h8, hf⟩ := obp_e hf
      refine g_callVi (As := [.int 6]) (rest := []) C (a_3 ad cy _) rfl (c_X5_refuse l dC dI ad cy ((6 : Int32))) h8 hM_X5_57 cal_X5_refuse ⟨Nat.zero_le _, Nat.zero_le _⟩ ⟨rfl, rfl⟩ ⟨Nat.le_of_ble_eq_true rfl, Nat.le_of_ble_eq_true rfl⟩ rfl rfl (Nat.le_of_ble_eq_true rfl) dX5_readAll_98 ?_
      rcases oi_e hf with ⟨c9, hf⟩ | ⟨c9, hf⟩
      · refine g_if_eq_t (tgt := 108) C dX5_readAll_101 (by decide) c9 ?_
        refine g_iconst (v := 0) C dX5_readAll_108 (by decide) ?_
        obtain ⟨rfl, rfl⟩ := os_e hf
        exact g_zret C rfl (by decide) dX5_readAll_109
      · refine g_if_eq_f (tgt := 108) C dX5_readAll_101 (by decide) c9 ?_
        exact g_sub [] rfl (fX5_readAll_b104_ok C σ7 hf)
def fX5_readAll_b39 (sf_39 : S0 → Int32 → Option (Int32 × S0)) (σ : S0) (x1 : Int32) : Option (Int32 × S0) := if x1 = 0 then (fX5_readAll_b81 σ x1) else (if (σ 1 3) = 0 then (fX5_readAll_b81 σ x1) else (if (320 : Int32) ≤ (σ 3 4) then (fX5_readAll_b81 σ x1) else (obp (fX5_readLine σ) (fun r4 σ5 => ol ((σ5 3 4) + 1) (fun v7 => ol (su σ5 3 4 v7) (fun σ8 => sf_39 σ8 r4))))))
set_option maxHeartbeats 1000000 in
set_option maxRecDepth 100000 in
theorem fX5_readAll_b39_ok {p : Program} {l : Launch} {e : Env} {s : State} {m : MethodId} {args : Array Value} {below : List Frame} {meth : Method} {c : Code} {dC : Nat → ClassId} {dI : Nat → Nat → Nat} {ad : Nat → Nat} {cy : Nat → ClassId} {sz : Nat} (C : Cx p s m args meth c RX5 cX5_readAll 2 (some .boolean) dC dI ad cy sz) {rr : Int32} {ρ : S0} (sf_39 : S0 → Int32 → Option (Int32 × S0)) (hs_39 : ∀ (σ : S0) (x1 : Int32) , sf_39 σ x1 = some (rr, ρ) → Gw p l e rm_X5_readAll s m args below meth c (MQ below (QcI dC dI ad cy sz rr ρ) args s 0 0 (AW ad sz)) dC dI ad cy 2 sz 0 0 39 [(0, .ref (ad 3)), (1, .int x1)] [] σ) (σ : S0) (x1 : Int32)  (hf : fX5_readAll_b39 sf_39 σ x1 = some (rr, ρ)) : Gw p l e rm_X5_readAll s m args below meth c (MQ below (QcI dC dI ad cy sz rr ρ) args s 0 0 (AW ad sz)) dC dI ad cy 2 sz 0 0 39 [(0, .ref (ad 3)), (1, .int x1)] [] σ := by
  unfold fX5_readAll_b39 at hf
  refine g_iload_n C dX5_readAll_39 rfl 1 rfl ?_
  rcases oi_e hf with ⟨c1, hf⟩ | ⟨c1, hf⟩
  · refine g_if_eq_t (tgt := 81) C dX5_readAll_40 (by decide) c1 ?_
    exact g_sub [0, 1] rfl (fX5_readAll_b81_ok C σ x1 hf)
  · refine g_if_eq_f (tgt := 81) C dX5_readAll_40 (by decide) c1 ?_
    refine g_aload_n C dX5_readAll_43 rfl 0 rfl ?_
    refine g_get C (a_3 ad cy _) rfl hin_X5 0 (by decide) hF_X5_18 rfl rfl dX5_readAll_44 ?_
    refine g_get C (a_1 ad cy _) rfl hin_X8 3 (by decide) hF_X5_48 rfl rfl dX5_readAll_47 ?_
    rcases oi_e hf with ⟨c2, hf⟩ | ⟨c2, hf⟩
    · refine g_if_eq_t (tgt := 81) C dX5_readAll_50 (by decide) c2 ?_
      exact g_sub [0, 1] rfl (fX5_readAll_b81_ok C σ x1 hf)
    · refine g_if_eq_f (tgt := 81) C dX5_readAll_50 (by decide) c2 ?_
      refine g_aload_n C dX5_readAll_53 rfl 0 rfl ?_
      refine g_get C (a_3 ad cy _) rfl hin_X5 4 (by decide) hF_X5_32 rfl rfl dX5_readAll_54 ?_
      refine g_sipush (v := 320) C dX5_readAll_57 (by decide) ?_
      rcases oi_e hf with ⟨c3, hf⟩ | ⟨c3, hf⟩
      · refine g_icmp_ge_t (tgt := 81) C dX5_readAll_60 (by decide) c3 ?_
        exact g_sub [0, 1] rfl (fX5_readAll_b81_ok C σ x1 hf)
      · refine g_icmp_ge_f (tgt := 81) C dX5_readAll_60 (by decide) c3 ?_
        refine g_aload_n C dX5_readAll_63 rfl 0 rfl ?_
        obtain ⟨r4, σ5, h6, hf⟩ := obp_e hf
        refine g_callVi (As := []) (rest := []) C (a_3 ad cy _) rfl (c_X5_readLine l dC dI ad cy ) h6 hM_X5_51 cal_X5_readLine ⟨Nat.zero_le _, Nat.zero_le _⟩ ⟨rfl, rfl⟩ ⟨Nat.le_of_ble_eq_true rfl, Nat.le_of_ble_eq_true rfl⟩ rfl rfl (Nat.le_of_ble_eq_true rfl) dX5_readAll_64 ?_
        refine g_istore_n (lv2 := [(0, .ref (ad 3)), (1, .int r4)]) C dX5_readAll_67 rfl (by decide) [1, 0] rfl ?_
        refine g_aload_n C dX5_readAll_68 rfl 0 rfl ?_
        refine g_dup C dX5_readAll_69 rfl ?_
        refine g_get C (a_3 ad cy _) rfl hin_X5 4 (by decide) hF_X5_32 rfl rfl dX5_readAll_70 ?_
        refine g_iconst (v := 1) C dX5_readAll_73 (by decide) ?_
        refine g_iadd C dX5_readAll_74 ?_
        obtain ⟨v7, ev7, hf⟩ := ol_e hf
        refine g_nm ev7 ?_
        obtain ⟨σ8, eσ8, hf⟩ := ol_e hf
        refine g_put (ty := .int) C (a_3 ad cy _) rfl hin_X5 tyX5 tyX5_ok nmX5 4 (by decide) hF_X5_32 rfl rfl (by decide +kernel) rfl rfl (Nat.le_of_ble_eq_true rfl) (p_3_4 ad cy _ _) eσ8 dX5_readAll_75 ?_
        refine g_goto (tgt := 39) C dX5_readAll_78 (by decide) ?_
        exact g_sub [0, 1] rfl (hs_39 σ8 r4 hf)
def fX5_readAll_h39  : Nat → S0 → Int32 → Option (Int32 × S0)
  | 0 => fun _ _ => none
  | n + 1 => fun σ x1 => fX5_readAll_b39  (fX5_readAll_h39  n) σ x1
set_option maxHeartbeats 1000000 in
set_option maxRecDepth 100000 in
theorem fX5_readAll_h39_ok {p : Program} {l : Launch} {e : Env} {s : State} {m : MethodId} {args : Array Value} {below : List Frame} {meth : Method} {c : Code} {dC : Nat → ClassId} {dI : Nat → Nat → Nat} {ad : Nat → Nat} {cy : Nat → ClassId} {sz : Nat} (C : Cx p s m args meth c RX5 cX5_readAll 2 (some .boolean) dC dI ad cy sz) {rr : Int32} {ρ : S0}  : ∀ (n : Nat) (σ : S0) (x1 : Int32)  (_hf : fX5_readAll_h39  n σ x1 = some (rr, ρ)), Gw p l e rm_X5_readAll s m args below meth c (MQ below (QcI dC dI ad cy sz rr ρ) args s 0 0 (AW ad sz)) dC dI ad cy 2 sz 0 0 39 [(0, .ref (ad 3)), (1, .int x1)] [] σ
  | 0, _, _, hf => by cases hf
  | n + 1, σ, x1, hf => fX5_readAll_b39_ok C  (fX5_readAll_h39  n) (fX5_readAll_h39_ok C  n) σ x1 hf
def fX5_readAll (σ : S0)  : Option (Int32 × S0) := obp (fX9_empty σ 4) (fun r1 σ2 => ol (su σ2 3 2 0) (fun σ4 => ol (su σ4 3 3 0) (fun σ5 => ol (su σ5 3 4 0) (fun σ6 => ol (su σ6 3 5 0) (fun σ7 => obp (fX8_rewind σ7) (fun r8 σ9 => obp (fX5_advance σ9) (fun r11 σ12 => fX5_readAll_h39 400 σ12 r11)))))))
set_option maxHeartbeats 1000000 in
set_option maxRecDepth 100000 in
theorem fX5_readAll_ok {p : Program} {l : Launch} {e : Env} {s : State} {m : MethodId} {args : Array Value} {below : List Frame} {meth : Method} {c : Code} {dC : Nat → ClassId} {dI : Nat → Nat → Nat} {ad : Nat → Nat} {cy : Nat → ClassId} {sz : Nat} (C : Cx p s m args meth c RX5 cX5_readAll 2 (some .boolean) dC dI ad cy sz) {rr : Int32} {ρ : S0} (σ : S0)   (hf : fX5_readAll σ = some (rr, ρ)) : Gw p l e rm_X5_readAll s m args below meth c (MQ below (QcI dC dI ad cy sz rr ρ) args s 0 0 (AW ad sz)) dC dI ad cy 2 sz 0 0 0 [(0, .ref (ad 3))] [] σ := by
  unfold fX5_readAll at hf
  refine g_aload_n C dX5_readAll_0 rfl 0 rfl ?_
  refine g_get C (a_3 ad cy _) rfl hin_X5 1 (by decide) hF_X5_12 rfl rfl dX5_readAll_1 ?_
  obtain ⟨r1, σ2, h3, hf⟩ := obp_e hf
  refine g_callVv (As := []) (rest := []) C (a_4 ad cy _) rfl (c_X9_empty l dC dI ad cy 4 k_isTown_4) h3 hM_X5_22 cal_X9_empty ⟨Nat.zero_le _, Nat.zero_le _⟩ ⟨rfl, rfl⟩ ⟨Nat.le_of_ble_eq_true rfl, Nat.le_of_ble_eq_true rfl⟩ rfl rfl (Nat.le_of_ble_eq_true rfl) dX5_readAll_4 ?_
  refine g_aload_n C dX5_readAll_7 rfl 0 rfl ?_
  refine g_iconst (v := 0) C dX5_readAll_8 (by decide) ?_
  obtain ⟨σ4, eσ4, hf⟩ := ol_e hf
  refine g_put (ty := .boolean) C (a_3 ad cy _) rfl hin_X5 tyX5 tyX5_ok nmX5 2 (by decide) hF_X5_25 rfl rfl (by decide +kernel) rfl rfl (Nat.le_of_ble_eq_true rfl) (p_3_2 ad cy _ _) eσ4 dX5_readAll_9 ?_
  refine g_aload_n C dX5_readAll_12 rfl 0 rfl ?_
  refine g_iconst (v := 0) C dX5_readAll_13 (by decide) ?_
  obtain ⟨σ5, eσ5, hf⟩ := ol_e hf
  refine g_put (ty := .boolean) C (a_3 ad cy _) rfl hin_X5 tyX5 tyX5_ok nmX5 3 (by decide) hF_X5_29 rfl rfl (by decide +kernel) rfl rfl (Nat.le_of_ble_eq_true rfl) (p_3_3 ad cy _ _) eσ5 dX5_readAll_14 ?_
  refine g_aload_n C dX5_readAll_17 rfl 0 rfl ?_
  refine g_iconst (v := 0) C dX5_readAll_18 (by decide) ?_
  obtain ⟨σ6, eσ6, hf⟩ := ol_e hf
  refine g_put (ty := .int) C (a_3 ad cy _) rfl hin_X5 tyX5 tyX5_ok nmX5 4 (by decide) hF_X5_32 rfl rfl (by decide +kernel) rfl rfl (Nat.le_of_ble_eq_true rfl) (p_3_4 ad cy _ _) eσ6 dX5_readAll_19 ?_
  refine g_aload_n C dX5_readAll_22 rfl 0 rfl ?_
  refine g_iconst (v := 0) C dX5_readAll_23 (by decide) ?_
  obtain ⟨σ7, eσ7, hf⟩ := ol_e hf
  refine g_put (ty := .int) C (a_3 ad cy _) rfl hin_X5 tyX5 tyX5_ok nmX5 5 (by decide) hF_X5_36 rfl rfl (by decide +kernel) rfl rfl (Nat.le_of_ble_eq_true rfl) (p_3_5 ad cy _ _) eσ7 dX5_readAll_24 ?_
  refine g_aload_n C dX5_readAll_27 rfl 0 rfl ?_
  refine g_get C (a_3 ad cy _) rfl hin_X5 0 (by decide) hF_X5_18 rfl rfl dX5_readAll_28 ?_
  obtain ⟨r8, σ9, h10, hf⟩ := obp_e hf
  refine g_callVv (As := []) (rest := []) C (a_1 ad cy _) rfl (c_X8_rewind l dC dI ad cy ) h10 hM_X5_39 cal_X8_rewind ⟨Nat.zero_le _, Nat.zero_le _⟩ ⟨rfl, rfl⟩ ⟨Nat.le_of_ble_eq_true rfl, Nat.le_of_ble_eq_true rfl⟩ rfl rfl (Nat.le_of_ble_eq_true rfl) dX5_readAll_31 ?_
  refine g_aload_n C dX5_readAll_34 rfl 0 rfl ?_
  obtain ⟨r11, σ12, h13, hf⟩ := obp_e hf
  refine g_callVi (As := []) (rest := []) C (a_3 ad cy _) rfl (c_X5_advance l dC dI ad cy ) h13 hM_X5_44 cal_X5_advance ⟨Nat.zero_le _, Nat.zero_le _⟩ ⟨rfl, rfl⟩ ⟨Nat.le_of_ble_eq_true rfl, Nat.le_of_ble_eq_true rfl⟩ rfl rfl (Nat.le_of_ble_eq_true rfl) dX5_readAll_35 ?_
  refine g_istore_n (lv2 := [(0, .ref (ad 3)), (1, .int r11)]) C dX5_readAll_38 rfl (by decide) [1, 0] rfl ?_
  exact g_sub [0, 1] rfl (fX5_readAll_h39_ok C 400 σ12 r11 hf)
theorem c_X5_readAll (l : Launch) (dC : Nat → ClassId) (dI : Nat → Nat → Nat) (ad : Nat → Nat) (cy : Nat → ClassId)  : ConI l yX5_readAll cX5_readAll 2 (some .boolean) rm_X5_readAll dC dI ad cy [.ref (ad 3)] (fun σ => fX5_readAll σ) := con_i (own := RX5) (by decide) rfl (Nat.le_of_ble_eq_true rfl) (fun _ _ _ _ _ _ _ _ σ _ _ C hf => fX5_readAll_ok C σ  hf)
theorem cal_X5_readAll : CalV yX5_readAll RX5 cX5_readAll 2 (some .boolean) 0 := ⟨hI_X5_readAll, hS_X5_readAll, hIni_X5, hC_X5_readAll, by decide +kernel⟩
abbrev rm_X10_feed : Room := { frames := 1, cells := 0, slots := 0, locals := 23 }
def fX10_feed (σ : S0) (x1 : Int64) : Option (Int32 × S0) := if ((σ 1 1) + 8) ≤ 320 then (obp (fX8_append σ x1) (fun r2 σ3 => some (σ3 1 1, σ3))) else (some ((-3), σ))
set_option maxHeartbeats 1000000 in
set_option maxRecDepth 100000 in
theorem fX10_feed_ok {p : Program} {l : Launch} {e : Env} {s : State} {m : MethodId} {args : Array Value} {below : List Frame} {meth : Method} {c : Code} {dC : Nat → ClassId} {dI : Nat → Nat → Nat} {ad : Nat → Nat} {cy : Nat → ClassId} {sz : Nat} (C : Cx p s m args meth c RX10 cX10_feed 3 (some .int) dC dI ad cy sz) {rr : Int32} {ρ : S0} (σ : S0) (x1 : Int64)  (hf : fX10_feed σ x1 = some (rr, ρ)) : Gw p l e rm_X10_feed s m args below meth c (MQ below (QcI dC dI ad cy sz rr ρ) args s 0 0 (AW ad sz)) dC dI ad cy 3 sz 0 0 0 [(0, .ref (ad 0)), (1, .long x1)] [] σ := by
  unfold fX10_feed at hf
  refine g_aload_n C dX10_feed_0 rfl 0 rfl ?_
  refine g_get C (a_0 ad cy _) rfl hin_X10 0 (by decide) hF_X10_12 rfl rfl dX10_feed_1 ?_
  refine g_get C (a_1 ad cy _) rfl hin_X8 1 (by decide) hF_X10_94 rfl rfl dX10_feed_4 ?_
  refine g_bipush (v := 8) C dX10_feed_7 (by decide) ?_
  refine g_iadd C dX10_feed_9 ?_
  refine g_sipush (v := 320) C dX10_feed_10 (by decide) ?_
  rcases oi_e hf with ⟨c1, hf⟩ | ⟨c1, hf⟩
  · refine g_icmp_le_t (tgt := 19) C dX10_feed_13 (by decide) c1 ?_
    refine g_aload_n C dX10_feed_19 rfl 0 rfl ?_
    refine g_get C (a_0 ad cy _) rfl hin_X10 0 (by decide) hF_X10_12 rfl rfl dX10_feed_20 ?_
    refine g_lload_n C dX10_feed_23 rfl 1 rfl ?_
    obtain ⟨r2, σ3, h4, hf⟩ := obp_e hf
    refine g_callVv (As := [.long x1]) (rest := []) C (a_1 ad cy _) rfl (c_X8_append l dC dI ad cy x1) h4 hM_X10_98 cal_X8_append ⟨Nat.zero_le _, Nat.zero_le _⟩ ⟨rfl, rfl⟩ ⟨Nat.le_of_ble_eq_true rfl, Nat.le_of_ble_eq_true rfl⟩ rfl rfl (Nat.le_of_ble_eq_true rfl) dX10_feed_24 ?_
    refine g_aload_n C dX10_feed_27 rfl 0 rfl ?_
    refine g_get C (a_0 ad cy _) rfl hin_X10 0 (by decide) hF_X10_12 rfl rfl dX10_feed_28 ?_
    refine g_get C (a_1 ad cy _) rfl hin_X8 1 (by decide) hF_X10_94 rfl rfl dX10_feed_31 ?_
    obtain ⟨rfl, rfl⟩ := os_e hf
    exact g_iret C rfl dX10_feed_34
  · refine g_icmp_le_f (tgt := 19) C dX10_feed_13 (by decide) c1 ?_
    refine g_bipush (v := (-3)) C dX10_feed_16 (by decide) ?_
    obtain ⟨rfl, rfl⟩ := os_e hf
    exact g_iret C rfl dX10_feed_18
theorem c_X10_feed (l : Launch) (dC : Nat → ClassId) (dI : Nat → Nat → Nat) (ad : Nat → Nat) (cy : Nat → ClassId) (x1 : Int64) : ConI l yX10_feed cX10_feed 3 (some .int) rm_X10_feed dC dI ad cy [.ref (ad 0), .long x1] (fun σ => fX10_feed σ x1) := con_i (own := RX10) (by decide) rfl (Nat.le_of_ble_eq_true rfl) (fun _ _ _ _ _ _ _ _ σ _ _ C hf => fX10_feed_ok C σ x1 hf)
theorem cal_X10_feed : CalV yX10_feed RX10 cX10_feed 3 (some .int) 1 := ⟨hI_X10_feed, hS_X10_feed, hIni_X10, hC_X10_feed, by decide +kernel⟩
abbrev rm_X10_end : Room := { frames := 0, cells := 0, slots := 0, locals := 0 }
def fX10_end (σ : S0) (x1 : Int32) : Option (Int32 × S0) := if x1 < 0 then (some ((-1), σ)) else (if x1 ≤ (σ 1 1) then (ol (σ 1 1) (fun v3 => ol (su σ 1 1 x1) (fun σ4 => some (v3, σ4)))) else (some ((-1), σ)))
set_option maxHeartbeats 1000000 in
set_option maxRecDepth 100000 in
theorem fX10_end_ok {p : Program} {l : Launch} {e : Env} {s : State} {m : MethodId} {args : Array Value} {below : List Frame} {meth : Method} {c : Code} {dC : Nat → ClassId} {dI : Nat → Nat → Nat} {ad : Nat → Nat} {cy : Nat → ClassId} {sz : Nat} (C : Cx p s m args meth c RX10 cX10_end 3 (some .int) dC dI ad cy sz) {rr : Int32} {ρ : S0} (σ : S0) (x1 : Int32)  (hf : fX10_end σ x1 = some (rr, ρ)) : Gw p l e rm_X10_end s m args below meth c (MQ below (QcI dC dI ad cy sz rr ρ) args s 0 0 (AW ad sz)) dC dI ad cy 3 sz 0 0 0 [(0, .ref (ad 0)), (1, .int x1)] [] σ := by
  unfold fX10_end at hf
  refine g_iload_n C dX10_end_0 rfl 1 rfl ?_
  rcases oi_e hf with ⟨c1, hf⟩ | ⟨c1, hf⟩
  · refine g_if_lt_t (tgt := 15) C dX10_end_1 (by decide) c1 ?_
    refine g_iconst (v := (-1)) C dX10_end_15 (by decide) ?_
    obtain ⟨rfl, rfl⟩ := os_e hf
    exact g_iret C rfl dX10_end_16
  · refine g_if_lt_f (tgt := 15) C dX10_end_1 (by decide) c1 ?_
    refine g_iload_n C dX10_end_4 rfl 1 rfl ?_
    refine g_aload_n C dX10_end_5 rfl 0 rfl ?_
    refine g_get C (a_0 ad cy _) rfl hin_X10 0 (by decide) hF_X10_12 rfl rfl dX10_end_6 ?_
    refine g_get C (a_1 ad cy _) rfl hin_X8 1 (by decide) hF_X10_94 rfl rfl dX10_end_9 ?_
    rcases oi_e hf with ⟨c2, hf⟩ | ⟨c2, hf⟩
    · refine g_icmp_le_t (tgt := 17) C dX10_end_12 (by decide) c2 ?_
      refine g_aload_n C dX10_end_17 rfl 0 rfl ?_
      refine g_get C (a_0 ad cy _) rfl hin_X10 0 (by decide) hF_X10_12 rfl rfl dX10_end_18 ?_
      refine g_get C (a_1 ad cy _) rfl hin_X8 1 (by decide) hF_X10_94 rfl rfl dX10_end_21 ?_
      obtain ⟨v3, ev3, hf⟩ := ol_e hf
      refine g_nm ev3 ?_
      refine g_istore_n (lv2 := [(0, .ref (ad 0)), (1, .int x1), (2, .int v3)]) C dX10_end_24 rfl (by decide) [1, 2, 0] rfl ?_
      refine g_aload_n C dX10_end_25 rfl 0 rfl ?_
      refine g_get C (a_0 ad cy _) rfl hin_X10 0 (by decide) hF_X10_12 rfl rfl dX10_end_26 ?_
      refine g_iload_n C dX10_end_29 rfl 1 rfl ?_
      obtain ⟨σ4, eσ4, hf⟩ := ol_e hf
      refine g_put (ty := .int) C (a_1 ad cy _) rfl hin_X8 tyX8 tyX8_ok nmX8 1 (by decide) hF_X10_94 rfl rfl (by decide +kernel) rfl rfl (Nat.le_of_ble_eq_true rfl) (p_1_1 ad cy _ _) eσ4 dX10_end_30 ?_
      refine g_iload_n C dX10_end_33 rfl 2 rfl ?_
      obtain ⟨rfl, rfl⟩ := os_e hf
      exact g_iret C rfl dX10_end_34
    · refine g_icmp_le_f (tgt := 17) C dX10_end_12 (by decide) c2 ?_
      refine g_iconst (v := (-1)) C dX10_end_15 (by decide) ?_
      obtain ⟨rfl, rfl⟩ := os_e hf
      exact g_iret C rfl dX10_end_16
theorem c_X10_end (l : Launch) (dC : Nat → ClassId) (dI : Nat → Nat → Nat) (ad : Nat → Nat) (cy : Nat → ClassId) (x1 : Int32) : ConI l yX10_end cX10_end 3 (some .int) rm_X10_end dC dI ad cy [.ref (ad 0), .int x1] (fun σ => fX10_end σ x1) := con_i (own := RX10) (by decide) rfl (Nat.le_of_ble_eq_true rfl) (fun _ _ _ _ _ _ _ _ σ _ _ C hf => fX10_end_ok C σ x1 hf)
theorem cal_X10_end : CalV yX10_end RX10 cX10_end 3 (some .int) 1 := ⟨hI_X10_end, hS_X10_end, hIni_X10, hC_X10_end, by decide +kernel⟩
abbrev rm_X10_text : Room := { frames := 9, cells := 0, slots := 0, locals := 194 }
def fX10_text_b47 (sf_47 : S0 → Int32 → Option (Int32 × S0)) (σ : S0) (x2 : Int32) : Option (Int32 × S0) := if (2 : Int32) ≤ x2 then (some (σ 3 4, σ)) else (og (¬ (x2 < 0 ∨ 2 ≤ x2.toNatClampNeg)) (ol (su σ 72 x2.toNatClampNeg (vp_nar .boolean 0)) (fun σ3 => ol (x2 + 1) (fun v4 => sf_47 σ3 v4))))
set_option maxHeartbeats 1000000 in
set_option maxRecDepth 100000 in
theorem fX10_text_b47_ok {p : Program} {l : Launch} {e : Env} {s : State} {m : MethodId} {args : Array Value} {below : List Frame} {meth : Method} {c : Code} {dC : Nat → ClassId} {dI : Nat → Nat → Nat} {ad : Nat → Nat} {cy : Nat → ClassId} {sz : Nat} (C : Cx p s m args meth c RX10 cX10_text 3 (some .int) dC dI ad cy sz) {rr : Int32} {ρ : S0} (sf_47 : S0 → Int32 → Option (Int32 × S0)) (hs_47 : ∀ (σ : S0) (x2 : Int32) , sf_47 σ x2 = some (rr, ρ) → Gw p l e rm_X10_text s m args below meth c (MQ below (QcI dC dI ad cy sz rr ρ) args s 0 0 (AW ad sz)) dC dI ad cy 3 sz 0 0 47 [(0, .ref (ad 0)), (2, .int x2)] [] σ) (σ : S0) (x2 : Int32)  (hf : fX10_text_b47 sf_47 σ x2 = some (rr, ρ)) : Gw p l e rm_X10_text s m args below meth c (MQ below (QcI dC dI ad cy sz rr ρ) args s 0 0 (AW ad sz)) dC dI ad cy 3 sz 0 0 47 [(0, .ref (ad 0)), (2, .int x2)] [] σ := by
  unfold fX10_text_b47 at hf
  refine g_iload_n C dX10_text_47 rfl 1 rfl ?_
  refine g_iconst (v := 2) C dX10_text_48 (by decide) ?_
  rcases oi_e hf with ⟨c1, hf⟩ | ⟨c1, hf⟩
  · refine g_icmp_ge_t (tgt := 65) C dX10_text_49 (by decide) c1 ?_
    refine g_aload_n C dX10_text_65 rfl 0 rfl ?_
    refine g_get C (a_0 ad cy _) rfl hin_X10 1 (by decide) hF_X10_21 rfl rfl dX10_text_66 ?_
    refine g_get C (a_3 ad cy _) rfl hin_X5 4 (by decide) hF_X10_115 rfl rfl dX10_text_69 ?_
    obtain ⟨rfl, rfl⟩ := os_e hf
    exact g_iret C rfl dX10_text_72
  · refine g_icmp_ge_f (tgt := 65) C dX10_text_49 (by decide) c1 ?_
    refine g_aload_n C dX10_text_52 rfl 0 rfl ?_
    refine g_get C (a_0 ad cy _) rfl hin_X10 10 (by decide) hF_X10_82 rfl rfl dX10_text_53 ?_
    refine g_iload_n C dX10_text_56 rfl 1 rfl ?_
    refine g_iconst (v := 0) C dX10_text_57 (by decide) ?_
    obtain ⟨h2, hf⟩ := og_e hf
    obtain ⟨σ3, eσ3, hf⟩ := ol_e hf
    refine g_zast C (a_72 ad cy _) h2 (w_72 ad cy _) eσ3 dX10_text_58 ?_
    obtain ⟨v4, ev4, hf⟩ := ol_e hf
    refine g_iinc (j := 1) (w := 1) (lv2 := [(0, .ref (ad 0)), (2, .int v4)]) C dX10_text_59 rfl (by decide) ev4 (by decide) [1, 0] rfl ?_
    refine g_goto (tgt := 47) C dX10_text_62 (by decide) ?_
    exact g_sub [0, 1] rfl (hs_47 σ3 v4 hf)
def fX10_text_h47  : Nat → S0 → Int32 → Option (Int32 × S0)
  | 0 => fun _ _ => none
  | n + 1 => fun σ x2 => fX10_text_b47  (fX10_text_h47  n) σ x2
set_option maxHeartbeats 1000000 in
set_option maxRecDepth 100000 in
theorem fX10_text_h47_ok {p : Program} {l : Launch} {e : Env} {s : State} {m : MethodId} {args : Array Value} {below : List Frame} {meth : Method} {c : Code} {dC : Nat → ClassId} {dI : Nat → Nat → Nat} {ad : Nat → Nat} {cy : Nat → ClassId} {sz : Nat} (C : Cx p s m args meth c RX10 cX10_text 3 (some .int) dC dI ad cy sz) {rr : Int32} {ρ : S0}  : ∀ (n : Nat) (σ : S0) (x2 : Int32)  (_hf : fX10_text_h47  n σ x2 = some (rr, ρ)), Gw p l e rm_X10_text s m args below meth c (MQ below (QcI dC dI ad cy sz rr ρ) args s 0 0 (AW ad sz)) dC dI ad cy 3 sz 0 0 47 [(0, .ref (ad 0)), (2, .int x2)] [] σ
  | 0, _, _, hf => by cases hf
  | n + 1, σ, x2, hf => fX10_text_b47_ok C  (fX10_text_h47  n) (fX10_text_h47_ok C  n) σ x2 hf
def fX10_text (σ : S0)  : Option (Int32 × S0) := obp (fX5_readAll σ) (fun r1 σ2 => ol (su σ2 1 1 0) (fun σ4 => if ¬ r1 = 0 then (obp (fX9_copyFrom σ4 22 4) (fun r6 σ7 => fX10_text_h47 400 σ7 0)) else (some (((-10)) - (σ4 3 6), σ4))))
set_option maxHeartbeats 1000000 in
set_option maxRecDepth 100000 in
theorem fX10_text_ok {p : Program} {l : Launch} {e : Env} {s : State} {m : MethodId} {args : Array Value} {below : List Frame} {meth : Method} {c : Code} {dC : Nat → ClassId} {dI : Nat → Nat → Nat} {ad : Nat → Nat} {cy : Nat → ClassId} {sz : Nat} (C : Cx p s m args meth c RX10 cX10_text 3 (some .int) dC dI ad cy sz) {rr : Int32} {ρ : S0} (σ : S0)   (hf : fX10_text σ = some (rr, ρ)) : Gw p l e rm_X10_text s m args below meth c (MQ below (QcI dC dI ad cy sz rr ρ) args s 0 0 (AW ad sz)) dC dI ad cy 3 sz 0 0 0 [(0, .ref (ad 0))] [] σ := by
  unfold fX10_text at hf
  refine g_aload_n C dX10_text_0 rfl 0 rfl ?_
  refine g_get C (a_0 ad cy _) rfl hin_X10 1 (by decide) hF_X10_21 rfl rfl dX10_text_1 ?_
  obtain ⟨r1, σ2, h3, hf⟩ := obp_e hf
  refine g_callVi (As := []) (rest := []) C (a_3 ad cy _) rfl (c_X5_readAll l dC dI ad cy ) h3 hM_X10_102 cal_X5_readAll ⟨Nat.zero_le _, Nat.zero_le _⟩ ⟨rfl, rfl⟩ ⟨Nat.le_of_ble_eq_true rfl, Nat.le_of_ble_eq_true rfl⟩ rfl rfl (Nat.le_of_ble_eq_true rfl) dX10_text_4 ?_
  refine g_istore_n (lv2 := [(0, .ref (ad 0)), (1, .int r1)]) C dX10_text_7 rfl (by decide) [1, 0] rfl ?_
  refine g_aload_n C dX10_text_8 rfl 0 rfl ?_
  refine g_get C (a_0 ad cy _) rfl hin_X10 0 (by decide) hF_X10_12 rfl rfl dX10_text_9 ?_
  refine g_iconst (v := 0) C dX10_text_12 (by decide) ?_
  obtain ⟨σ4, eσ4, hf⟩ := ol_e hf
  refine g_put (ty := .int) C (a_1 ad cy _) rfl hin_X8 tyX8 tyX8_ok nmX8 1 (by decide) hF_X10_94 rfl rfl (by decide +kernel) rfl rfl (Nat.le_of_ble_eq_true rfl) (p_1_1 ad cy _ _) eσ4 dX10_text_13 ?_
  refine g_iload_n C dX10_text_16 rfl 1 rfl ?_
  rcases oi_e hf with ⟨c5, hf⟩ | ⟨c5, hf⟩
  · refine g_if_ne_t (tgt := 31) C dX10_text_17 (by decide) c5 ?_
    refine g_aload_n C dX10_text_31 rfl 0 rfl ?_
    refine g_get C (a_0 ad cy _) rfl hin_X10 2 (by decide) hF_X10_28 rfl rfl dX10_text_32 ?_
    refine g_aload_n C dX10_text_35 rfl 0 rfl ?_
    refine g_get C (a_0 ad cy _) rfl hin_X10 1 (by decide) hF_X10_21 rfl rfl dX10_text_36 ?_
    refine g_get C (a_3 ad cy _) rfl hin_X5 1 (by decide) hF_X10_109 rfl rfl dX10_text_39 ?_
    obtain ⟨r6, σ7, h8, hf⟩ := obp_e hf
    refine g_callVv (As := [.ref (ad 4)]) (rest := []) C (a_22 ad cy _) rfl (c_X9_copyFrom l dC dI ad cy 22 k_isTown_22 4 k_isTown_4) h8 hM_X10_112 cal_X9_copyFrom ⟨Nat.zero_le _, Nat.zero_le _⟩ ⟨rfl, rfl⟩ ⟨Nat.le_of_ble_eq_true rfl, Nat.le_of_ble_eq_true rfl⟩ rfl rfl (Nat.le_of_ble_eq_true rfl) dX10_text_42 ?_
    refine g_iconst (v := 0) C dX10_text_45 (by decide) ?_
    refine g_istore_n (lv2 := [(0, .ref (ad 0)), (1, .int r1), (2, .int 0)]) C dX10_text_46 rfl (by decide) [1, 2, 0] rfl ?_
    exact g_sub [0, 2] rfl (fX10_text_h47_ok C 400 σ7 0 hf)
  · refine g_if_ne_f (tgt := 31) C dX10_text_17 (by decide) (Decidable.of_not_not c5) ?_
    refine g_bipush (v := (-10)) C dX10_text_20 (by decide) ?_
    refine g_aload_n C dX10_text_22 rfl 0 rfl ?_
    refine g_get C (a_0 ad cy _) rfl hin_X10 1 (by decide) hF_X10_21 rfl rfl dX10_text_23 ?_
    refine g_get C (a_3 ad cy _) rfl hin_X5 6 (by decide) hF_X10_106 rfl rfl dX10_text_26 ?_
    refine g_isub C dX10_text_29 ?_
    obtain ⟨rfl, rfl⟩ := os_e hf
    exact g_iret C rfl dX10_text_30
theorem c_X10_text (l : Launch) (dC : Nat → ClassId) (dI : Nat → Nat → Nat) (ad : Nat → Nat) (cy : Nat → ClassId)  : ConI l yX10_text cX10_text 3 (some .int) rm_X10_text dC dI ad cy [.ref (ad 0)] (fun σ => fX10_text σ) := con_i (own := RX10) (by decide) rfl (Nat.le_of_ble_eq_true rfl) (fun _ _ _ _ _ _ _ _ σ _ _ C hf => fX10_text_ok C σ  hf)
theorem cal_X10_text : CalV yX10_text RX10 cX10_text 3 (some .int) 0 := ⟨hI_X10_text, hS_X10_text, hIni_X10, hC_X10_text, by decide +kernel⟩
abbrev rm_X10_fault : Room := { frames := 0, cells := 0, slots := 0, locals := 0 }
def fX10_fault (σ : S0)  : Option (Int32 × S0) := some (σ 3 5, σ)
set_option maxHeartbeats 1000000 in
set_option maxRecDepth 100000 in
theorem fX10_fault_ok {p : Program} {l : Launch} {e : Env} {s : State} {m : MethodId} {args : Array Value} {below : List Frame} {meth : Method} {c : Code} {dC : Nat → ClassId} {dI : Nat → Nat → Nat} {ad : Nat → Nat} {cy : Nat → ClassId} {sz : Nat} (C : Cx p s m args meth c RX10 cX10_fault 1 (some .int) dC dI ad cy sz) {rr : Int32} {ρ : S0} (σ : S0)   (hf : fX10_fault σ = some (rr, ρ)) : Gw p l e rm_X10_fault s m args below meth c (MQ below (QcI dC dI ad cy sz rr ρ) args s 0 0 (AW ad sz)) dC dI ad cy 1 sz 0 0 0 [(0, .ref (ad 0))] [] σ := by
  unfold fX10_fault at hf
  refine g_aload_n C dX10_fault_0 rfl 0 rfl ?_
  refine g_get C (a_0 ad cy _) rfl hin_X10 1 (by decide) hF_X10_21 rfl rfl dX10_fault_1 ?_
  refine g_get C (a_3 ad cy _) rfl hin_X5 5 (by decide) hF_X10_118 rfl rfl dX10_fault_4 ?_
  obtain ⟨rfl, rfl⟩ := os_e hf
  exact g_iret C rfl dX10_fault_7
theorem c_X10_fault (l : Launch) (dC : Nat → ClassId) (dI : Nat → Nat → Nat) (ad : Nat → Nat) (cy : Nat → ClassId)  : ConI l yX10_fault cX10_fault 1 (some .int) rm_X10_fault dC dI ad cy [.ref (ad 0)] (fun σ => fX10_fault σ) := con_i (own := RX10) (by decide) rfl (Nat.le_of_ble_eq_true rfl) (fun _ _ _ _ _ _ _ _ σ _ _ C hf => fX10_fault_ok C σ  hf)
theorem cal_X10_fault : CalV yX10_fault RX10 cX10_fault 1 (some .int) 0 := ⟨hI_X10_fault, hS_X10_fault, hIni_X10, hC_X10_fault, by decide +kernel⟩
abbrev rm_X10_rule : Room := { frames := 0, cells := 0, slots := 0, locals := 0 }
def fX10_rule (σ : S0) (x1 : Int32) : Option (Int32 × S0) := if x1 = 0 then (some (σ 22 0, σ)) else if x1 = 1 then (some (σ 22 1, σ)) else (some ((-1), σ))
set_option maxHeartbeats 1000000 in
set_option maxRecDepth 100000 in
theorem fX10_rule_ok {p : Program} {l : Launch} {e : Env} {s : State} {m : MethodId} {args : Array Value} {below : List Frame} {meth : Method} {c : Code} {dC : Nat → ClassId} {dI : Nat → Nat → Nat} {ad : Nat → Nat} {cy : Nat → ClassId} {sz : Nat} (C : Cx p s m args meth c RX10 cX10_rule 2 (some .int) dC dI ad cy sz) {rr : Int32} {ρ : S0} (σ : S0) (x1 : Int32)  (hf : fX10_rule σ x1 = some (rr, ρ)) : Gw p l e rm_X10_rule s m args below meth c (MQ below (QcI dC dI ad cy sz rr ρ) args s 0 0 (AW ad sz)) dC dI ad cy 2 sz 0 0 0 [(0, .ref (ad 0)), (1, .int x1)] [] σ := by
  unfold fX10_rule at hf
  refine g_iload_n C dX10_rule_0 rfl 1 rfl ?_
  rcases oi_e hf with ⟨c1, hf⟩ | ⟨c1, hf⟩
  · refine g_lookup (tgt := 28) C dX10_rule_1 rfl (by rw [c1] <;> rfl) (by decide) ?_
    refine g_aload_n C dX10_rule_28 rfl 0 rfl ?_
    refine g_get C (a_0 ad cy _) rfl hin_X10 2 (by decide) hF_X10_28 rfl rfl dX10_rule_29 ?_
    refine g_get C (a_22 ad cy _) rfl hin_X9 0 (by decide) hF_X10_121 rfl rfl dX10_rule_32 ?_
    obtain ⟨rfl, rfl⟩ := os_e hf
    exact g_iret C rfl dX10_rule_35
  · skip
    rcases oi_e hf with ⟨c2, hf⟩ | ⟨c2, hf⟩
    · refine g_lookup (tgt := 36) C dX10_rule_1 rfl (by rw [c2] <;> rfl) (by decide) ?_
      refine g_aload_n C dX10_rule_36 rfl 0 rfl ?_
      refine g_get C (a_0 ad cy _) rfl hin_X10 2 (by decide) hF_X10_28 rfl rfl dX10_rule_37 ?_
      refine g_get C (a_22 ad cy _) rfl hin_X9 1 (by decide) hF_X10_124 rfl rfl dX10_rule_40 ?_
      obtain ⟨rfl, rfl⟩ := os_e hf
      exact g_iret C rfl dX10_rule_43
    · skip
      refine g_lookup (tgt := 44) (off := 43) C dX10_rule_1 rfl (by show (if (0 : Int) = x1.toInt then (27 : Int) else if (1 : Int) = x1.toInt then (35 : Int) else 43) = 43; rw [if_neg (lk_ne (a := 0) (by decide) c1), if_neg (lk_ne (a := 1) (by decide) c2)]) (by decide) ?_
      refine g_iconst (v := (-1)) C dX10_rule_44 (by decide) ?_
      obtain ⟨rfl, rfl⟩ := os_e hf
      exact g_iret C rfl dX10_rule_45
theorem c_X10_rule (l : Launch) (dC : Nat → ClassId) (dI : Nat → Nat → Nat) (ad : Nat → Nat) (cy : Nat → ClassId) (x1 : Int32) : ConI l yX10_rule cX10_rule 2 (some .int) rm_X10_rule dC dI ad cy [.ref (ad 0), .int x1] (fun σ => fX10_rule σ x1) := con_i (own := RX10) (by decide) rfl (Nat.le_of_ble_eq_true rfl) (fun _ _ _ _ _ _ _ _ σ _ _ C hf => fX10_rule_ok C σ x1 hf)
theorem cal_X10_rule : CalV yX10_rule RX10 cX10_rule 2 (some .int) 1 := ⟨hI_X10_rule, hS_X10_rule, hIni_X10, hC_X10_rule, by decide +kernel⟩
abbrev rm_X10_bell : Room := { frames := 1, cells := 0, slots := 0, locals := 21 }
def fX10_bell (σ : S0) (x1 : Int32) (x2 : Int32) : Option (Int32 × S0) := obp (fX1_hasBell σ 32 x1) (fun r1 σ2 => if ¬ r1 = 0 then (if x2.toInt < 0 ∨ 4 < x2.toInt then (some ((-1), σ2)) else if x2 = 0 then (og (¬ (x1 < 0 ∨ 12 ≤ x1.toNatClampNeg)) (ol (σ2 33 x1.toNatClampNeg) (fun v8 => some (v8, σ2)))) else if x2 = 1 then (og (¬ (x1 < 0 ∨ 12 ≤ x1.toNatClampNeg)) (ol (σ2 34 x1.toNatClampNeg) (fun v11 => some (v11, σ2)))) else if x2 = 2 then (og (¬ (x1 < 0 ∨ 12 ≤ x1.toNatClampNeg)) (ol (σ2 35 x1.toNatClampNeg) (fun v14 => some (v14, σ2)))) else if x2 = 3 then (og (¬ (x1 < 0 ∨ 12 ≤ x1.toNatClampNeg)) (ol (σ2 36 x1.toNatClampNeg) (fun v17 => some (v17, σ2)))) else if x2 = 4 then (og (¬ (x1 < 0 ∨ 12 ≤ x1.toNatClampNeg)) (ol (σ2 37 x1.toNatClampNeg) (fun v20 => some (v20, σ2)))) else none) else (some ((-1), σ2)))
set_option maxHeartbeats 1000000 in
set_option maxRecDepth 100000 in
theorem fX10_bell_ok {p : Program} {l : Launch} {e : Env} {s : State} {m : MethodId} {args : Array Value} {below : List Frame} {meth : Method} {c : Code} {dC : Nat → ClassId} {dI : Nat → Nat → Nat} {ad : Nat → Nat} {cy : Nat → ClassId} {sz : Nat} (C : Cx p s m args meth c RX10 cX10_bell 3 (some .int) dC dI ad cy sz) {rr : Int32} {ρ : S0} (σ : S0) (x1 : Int32) (x2 : Int32)  (hf : fX10_bell σ x1 x2 = some (rr, ρ)) : Gw p l e rm_X10_bell s m args below meth c (MQ below (QcI dC dI ad cy sz rr ρ) args s 0 0 (AW ad sz)) dC dI ad cy 3 sz 0 0 0 [(0, .ref (ad 0)), (1, .int x1), (2, .int x2)] [] σ := by
  unfold fX10_bell at hf
  refine g_aload_n C dX10_bell_0 rfl 0 rfl ?_
  refine g_get C (a_0 ad cy _) rfl hin_X10 3 (by decide) hF_X10_36 rfl rfl dX10_bell_1 ?_
  refine g_iload_n C dX10_bell_4 rfl 1 rfl ?_
  obtain ⟨r1, σ2, h3, hf⟩ := obp_e hf
  refine g_callVi (As := [.int x1]) (rest := []) C (a_32 ad cy _) rfl (c_X1_hasBell l dC dI ad cy 32 k_isChimes_32 x1) h3 hM_X10_127 cal_X1_hasBell ⟨Nat.zero_le _, Nat.zero_le _⟩ ⟨rfl, rfl⟩ ⟨Nat.le_of_ble_eq_true rfl, Nat.le_of_ble_eq_true rfl⟩ rfl rfl (Nat.le_of_ble_eq_true rfl) dX10_bell_5 ?_
  rcases oi_e hf with ⟨c4, hf⟩ | ⟨c4, hf⟩
  · refine g_if_ne_t (tgt := 13) C dX10_bell_8 (by decide) c4 ?_
    refine g_iload_n C dX10_bell_13 rfl 2 rfl ?_
    rcases oi_e hf with ⟨c5, hf⟩ | ⟨c5, hf⟩
    · refine g_tout (tgt := 98) C dX10_bell_14 c5 (by decide) ?_
      refine g_iconst (v := (-1)) C dX10_bell_98 (by decide) ?_
      obtain ⟨rfl, rfl⟩ := os_e hf
      exact g_iret C rfl dX10_bell_99
    · skip
      rcases oi_e hf with ⟨c6, hf⟩ | ⟨c6, hf⟩
      · refine g_tin (tgt := 48) C dX10_bell_14 (by rw [c6]; decide) (by rw [c6]; decide) (by rw [c6]; rfl) (by decide) ?_
        refine g_aload_n C dX10_bell_48 rfl 0 rfl ?_
        refine g_get C (a_0 ad cy _) rfl hin_X10 3 (by decide) hF_X10_36 rfl rfl dX10_bell_49 ?_
        refine g_get C (a_32 ad cy _) rfl hin_X1 1 (by decide) hF_X10_131 rfl rfl dX10_bell_52 ?_
        refine g_iload_n C dX10_bell_55 rfl 1 rfl ?_
        obtain ⟨h7, hf⟩ := og_e hf
        refine g_iald C (a_33 ad cy _) h7 dX10_bell_56 ?_
        obtain ⟨v8, ev8, hf⟩ := ol_e hf
        refine g_nm ev8 ?_
        obtain ⟨rfl, rfl⟩ := os_e hf
        exact g_iret C rfl dX10_bell_57
      · skip
        rcases oi_e hf with ⟨c9, hf⟩ | ⟨c9, hf⟩
        · refine g_tin (tgt := 58) C dX10_bell_14 (by rw [c9]; decide) (by rw [c9]; decide) (by rw [c9]; rfl) (by decide) ?_
          refine g_aload_n C dX10_bell_58 rfl 0 rfl ?_
          refine g_get C (a_0 ad cy _) rfl hin_X10 3 (by decide) hF_X10_36 rfl rfl dX10_bell_59 ?_
          refine g_get C (a_32 ad cy _) rfl hin_X1 2 (by decide) hF_X10_135 rfl rfl dX10_bell_62 ?_
          refine g_iload_n C dX10_bell_65 rfl 1 rfl ?_
          obtain ⟨h10, hf⟩ := og_e hf
          refine g_iald C (a_34 ad cy _) h10 dX10_bell_66 ?_
          obtain ⟨v11, ev11, hf⟩ := ol_e hf
          refine g_nm ev11 ?_
          obtain ⟨rfl, rfl⟩ := os_e hf
          exact g_iret C rfl dX10_bell_67
        · skip
          rcases oi_e hf with ⟨c12, hf⟩ | ⟨c12, hf⟩
          · refine g_tin (tgt := 68) C dX10_bell_14 (by rw [c12]; decide) (by rw [c12]; decide) (by rw [c12]; rfl) (by decide) ?_
            refine g_aload_n C dX10_bell_68 rfl 0 rfl ?_
            refine g_get C (a_0 ad cy _) rfl hin_X10 3 (by decide) hF_X10_36 rfl rfl dX10_bell_69 ?_
            refine g_get C (a_32 ad cy _) rfl hin_X1 3 (by decide) hF_X10_138 rfl rfl dX10_bell_72 ?_
            refine g_iload_n C dX10_bell_75 rfl 1 rfl ?_
            obtain ⟨h13, hf⟩ := og_e hf
            refine g_iald C (a_35 ad cy _) h13 dX10_bell_76 ?_
            obtain ⟨v14, ev14, hf⟩ := ol_e hf
            refine g_nm ev14 ?_
            obtain ⟨rfl, rfl⟩ := os_e hf
            exact g_iret C rfl dX10_bell_77
          · skip
            rcases oi_e hf with ⟨c15, hf⟩ | ⟨c15, hf⟩
            · refine g_tin (tgt := 78) C dX10_bell_14 (by rw [c15]; decide) (by rw [c15]; decide) (by rw [c15]; rfl) (by decide) ?_
              refine g_aload_n C dX10_bell_78 rfl 0 rfl ?_
              refine g_get C (a_0 ad cy _) rfl hin_X10 3 (by decide) hF_X10_36 rfl rfl dX10_bell_79 ?_
              refine g_get C (a_32 ad cy _) rfl hin_X1 4 (by decide) hF_X10_141 rfl rfl dX10_bell_82 ?_
              refine g_iload_n C dX10_bell_85 rfl 1 rfl ?_
              obtain ⟨h16, hf⟩ := og_e hf
              refine g_iald C (a_36 ad cy _) h16 dX10_bell_86 ?_
              obtain ⟨v17, ev17, hf⟩ := ol_e hf
              refine g_nm ev17 ?_
              obtain ⟨rfl, rfl⟩ := os_e hf
              exact g_iret C rfl dX10_bell_87
            · skip
              rcases oi_e hf with ⟨c18, hf⟩ | ⟨c18, hf⟩
              · refine g_tin (tgt := 88) C dX10_bell_14 (by rw [c18]; decide) (by rw [c18]; decide) (by rw [c18]; rfl) (by decide) ?_
                refine g_aload_n C dX10_bell_88 rfl 0 rfl ?_
                refine g_get C (a_0 ad cy _) rfl hin_X10 3 (by decide) hF_X10_36 rfl rfl dX10_bell_89 ?_
                refine g_get C (a_32 ad cy _) rfl hin_X1 5 (by decide) hF_X10_144 rfl rfl dX10_bell_92 ?_
                refine g_iload_n C dX10_bell_95 rfl 1 rfl ?_
                obtain ⟨h19, hf⟩ := og_e hf
                refine g_iald C (a_37 ad cy _) h19 dX10_bell_96 ?_
                obtain ⟨v20, ev20, hf⟩ := ol_e hf
                refine g_nm ev20 ?_
                obtain ⟨rfl, rfl⟩ := os_e hf
                exact g_iret C rfl dX10_bell_97
              · skip
                cases hf
  · refine g_if_ne_f (tgt := 13) C dX10_bell_8 (by decide) (Decidable.of_not_not c4) ?_
    refine g_iconst (v := (-1)) C dX10_bell_11 (by decide) ?_
    obtain ⟨rfl, rfl⟩ := os_e hf
    exact g_iret C rfl dX10_bell_12
theorem c_X10_bell (l : Launch) (dC : Nat → ClassId) (dI : Nat → Nat → Nat) (ad : Nat → Nat) (cy : Nat → ClassId) (x1 : Int32) (x2 : Int32) : ConI l yX10_bell cX10_bell 3 (some .int) rm_X10_bell dC dI ad cy [.ref (ad 0), .int x1, .int x2] (fun σ => fX10_bell σ x1 x2) := con_i (own := RX10) (by decide) rfl (Nat.le_of_ble_eq_true rfl) (fun _ _ _ _ _ _ _ _ σ _ _ C hf => fX10_bell_ok C σ x1 x2 hf)
theorem cal_X10_bell : CalV yX10_bell RX10 cX10_bell 3 (some .int) 2 := ⟨hI_X10_bell, hS_X10_bell, hIni_X10, hC_X10_bell, by decide +kernel⟩
abbrev rm_X10_tune : Room := { frames := 1, cells := 0, slots := 0, locals := 22 }
def fX10_tune (σ : S0) (x1 : Int32) (x2 : Int32) : Option (Int32 × S0) := obp (fX9_hasTune σ 22 x1) (fun r1 σ2 => if ¬ r1 = 0 then (if ¬ x2 = 0 then (if ¬ x2 = 1 then (obp (fX9_asksStroke σ2 22 x1 x2) (fun r7 σ8 => if r7 = 0 then (some ((-1), σ8)) else (og (¬ (x1 < 0 ∨ 6 ≤ x1.toNatClampNeg)) (ol (26 + 1 * x1.toNatClampNeg) (fun q12 => ol (x2 - 10) (fun v13 => og (¬ (v13 < 0 ∨ 12 ≤ v13.toNatClampNeg)) (ol (σ8 q12 v13.toNatClampNeg) (fun v15 => some (v15, σ8))))))))) else (og (¬ (x1 < 0 ∨ 6 ≤ x1.toNatClampNeg)) (ol (σ2 24 x1.toNatClampNeg) (fun v17 => some (v17, σ2))))) else (og (¬ (x1 < 0 ∨ 6 ≤ x1.toNatClampNeg)) (ol (σ2 23 x1.toNatClampNeg) (fun v19 => some (v19, σ2))))) else (some ((-1), σ2)))
set_option maxHeartbeats 1000000 in
set_option maxRecDepth 100000 in
theorem fX10_tune_ok {p : Program} {l : Launch} {e : Env} {s : State} {m : MethodId} {args : Array Value} {below : List Frame} {meth : Method} {c : Code} {dC : Nat → ClassId} {dI : Nat → Nat → Nat} {ad : Nat → Nat} {cy : Nat → ClassId} {sz : Nat} (C : Cx p s m args meth c RX10 cX10_tune 3 (some .int) dC dI ad cy sz) {rr : Int32} {ρ : S0} (σ : S0) (x1 : Int32) (x2 : Int32)  (hf : fX10_tune σ x1 x2 = some (rr, ρ)) : Gw p l e rm_X10_tune s m args below meth c (MQ below (QcI dC dI ad cy sz rr ρ) args s 0 0 (AW ad sz)) dC dI ad cy 3 sz 0 0 0 [(0, .ref (ad 0)), (1, .int x1), (2, .int x2)] [] σ := by
  unfold fX10_tune at hf
  refine g_aload_n C dX10_tune_0 rfl 0 rfl ?_
  refine g_get C (a_0 ad cy _) rfl hin_X10 2 (by decide) hF_X10_28 rfl rfl dX10_tune_1 ?_
  refine g_iload_n C dX10_tune_4 rfl 1 rfl ?_
  obtain ⟨r1, σ2, h3, hf⟩ := obp_e hf
  refine g_callVi (As := [.int x1]) (rest := []) C (a_22 ad cy _) rfl (c_X9_hasTune l dC dI ad cy 22 k_isTown_22 x1) h3 hM_X10_147 cal_X9_hasTune ⟨Nat.zero_le _, Nat.zero_le _⟩ ⟨rfl, rfl⟩ ⟨Nat.le_of_ble_eq_true rfl, Nat.le_of_ble_eq_true rfl⟩ rfl rfl (Nat.le_of_ble_eq_true rfl) dX10_tune_5 ?_
  rcases oi_e hf with ⟨c4, hf⟩ | ⟨c4, hf⟩
  · refine g_if_ne_t (tgt := 13) C dX10_tune_8 (by decide) c4 ?_
    refine g_iload_n C dX10_tune_13 rfl 2 rfl ?_
    rcases oi_e hf with ⟨c5, hf⟩ | ⟨c5, hf⟩
    · refine g_if_ne_t (tgt := 27) C dX10_tune_14 (by decide) c5 ?_
      refine g_iload_n C dX10_tune_27 rfl 2 rfl ?_
      refine g_iconst (v := 1) C dX10_tune_28 (by decide) ?_
      rcases oi_e hf with ⟨c6, hf⟩ | ⟨c6, hf⟩
      · refine g_icmp_ne_t (tgt := 42) C dX10_tune_29 (by decide) c6 ?_
        refine g_aload_n C dX10_tune_42 rfl 0 rfl ?_
        refine g_get C (a_0 ad cy _) rfl hin_X10 2 (by decide) hF_X10_28 rfl rfl dX10_tune_43 ?_
        refine g_iload_n C dX10_tune_46 rfl 1 rfl ?_
        refine g_iload_n C dX10_tune_47 rfl 2 rfl ?_
        obtain ⟨r7, σ8, h9, hf⟩ := obp_e hf
        refine g_callVi (As := [.int x1, .int x2]) (rest := []) C (a_22 ad cy _) rfl (c_X9_asksStroke l dC dI ad cy 22 k_isTown_22 x1 x2) h9 hM_X10_155 cal_X9_asksStroke ⟨Nat.zero_le _, Nat.zero_le _⟩ ⟨rfl, rfl⟩ ⟨Nat.le_of_ble_eq_true rfl, Nat.le_of_ble_eq_true rfl⟩ rfl rfl (Nat.le_of_ble_eq_true rfl) dX10_tune_48 ?_
        rcases oi_e hf with ⟨c10, hf⟩ | ⟨c10, hf⟩
        · refine g_if_eq_t (tgt := 71) C dX10_tune_51 (by decide) c10 ?_
          refine g_iconst (v := (-1)) C dX10_tune_71 (by decide) ?_
          obtain ⟨rfl, rfl⟩ := os_e hf
          exact g_iret C rfl dX10_tune_72
        · refine g_if_eq_f (tgt := 71) C dX10_tune_51 (by decide) c10 ?_
          refine g_aload_n C dX10_tune_54 rfl 0 rfl ?_
          refine g_get C (a_0 ad cy _) rfl hin_X10 2 (by decide) hF_X10_28 rfl rfl dX10_tune_55 ?_
          refine g_get C (a_22 ad cy _) rfl hin_X9 5 (by decide) hF_X10_159 rfl rfl dX10_tune_58 ?_
          refine g_iload_n C dX10_tune_61 rfl 1 rfl ?_
          obtain ⟨h11, hf⟩ := og_e hf
          obtain ⟨q12, eq12, hf⟩ := ol_e hf
          refine g_aald C (a_25 ad cy _) rfl rfl h11 dX10_tune_62 ?_
          refine g_nmr eq12 ?_
          have hq12 := (o_25 h11 eq12)
          refine g_iload_n C dX10_tune_63 rfl 2 rfl ?_
          refine g_bipush (v := 10) C dX10_tune_64 (by decide) ?_
          refine g_isub C dX10_tune_66 ?_
          obtain ⟨v13, ev13, hf⟩ := ol_e hf
          refine g_nm ev13 ?_
          obtain ⟨h14, hf⟩ := og_e hf
          refine g_iald C (s_row hq12 ad cy _) h14 dX10_tune_67 ?_
          obtain ⟨v15, ev15, hf⟩ := ol_e hf
          refine g_nm ev15 ?_
          refine g_goto (tgt := 72) C dX10_tune_68 (by decide) ?_
          obtain ⟨rfl, rfl⟩ := os_e hf
          exact g_iret C rfl dX10_tune_72
      · refine g_icmp_ne_f (tgt := 42) C dX10_tune_29 (by decide) (Decidable.of_not_not c6) ?_
        refine g_aload_n C dX10_tune_32 rfl 0 rfl ?_
        refine g_get C (a_0 ad cy _) rfl hin_X10 2 (by decide) hF_X10_28 rfl rfl dX10_tune_33 ?_
        refine g_get C (a_22 ad cy _) rfl hin_X9 4 (by decide) hF_X10_153 rfl rfl dX10_tune_36 ?_
        refine g_iload_n C dX10_tune_39 rfl 1 rfl ?_
        obtain ⟨h16, hf⟩ := og_e hf
        refine g_iald C (a_24 ad cy _) h16 dX10_tune_40 ?_
        obtain ⟨v17, ev17, hf⟩ := ol_e hf
        refine g_nm ev17 ?_
        obtain ⟨rfl, rfl⟩ := os_e hf
        exact g_iret C rfl dX10_tune_41
    · refine g_if_ne_f (tgt := 27) C dX10_tune_14 (by decide) (Decidable.of_not_not c5) ?_
      refine g_aload_n C dX10_tune_17 rfl 0 rfl ?_
      refine g_get C (a_0 ad cy _) rfl hin_X10 2 (by decide) hF_X10_28 rfl rfl dX10_tune_18 ?_
      refine g_get C (a_22 ad cy _) rfl hin_X9 3 (by decide) hF_X10_150 rfl rfl dX10_tune_21 ?_
      refine g_iload_n C dX10_tune_24 rfl 1 rfl ?_
      obtain ⟨h18, hf⟩ := og_e hf
      refine g_iald C (a_23 ad cy _) h18 dX10_tune_25 ?_
      obtain ⟨v19, ev19, hf⟩ := ol_e hf
      refine g_nm ev19 ?_
      obtain ⟨rfl, rfl⟩ := os_e hf
      exact g_iret C rfl dX10_tune_26
  · refine g_if_ne_f (tgt := 13) C dX10_tune_8 (by decide) (Decidable.of_not_not c4) ?_
    refine g_iconst (v := (-1)) C dX10_tune_11 (by decide) ?_
    obtain ⟨rfl, rfl⟩ := os_e hf
    exact g_iret C rfl dX10_tune_12
theorem c_X10_tune (l : Launch) (dC : Nat → ClassId) (dI : Nat → Nat → Nat) (ad : Nat → Nat) (cy : Nat → ClassId) (x1 : Int32) (x2 : Int32) : ConI l yX10_tune cX10_tune 3 (some .int) rm_X10_tune dC dI ad cy [.ref (ad 0), .int x1, .int x2] (fun σ => fX10_tune σ x1 x2) := con_i (own := RX10) (by decide) rfl (Nat.le_of_ble_eq_true rfl) (fun _ _ _ _ _ _ _ _ σ _ _ C hf => fX10_tune_ok C σ x1 x2 hf)
theorem cal_X10_tune : CalV yX10_tune RX10 cX10_tune 3 (some .int) 2 := ⟨hI_X10_tune, hS_X10_tune, hIni_X10, hC_X10_tune, by decide +kernel⟩
abbrev rm_X10_feuds : Room := { frames := 1, cells := 0, slots := 0, locals := 21 }
def fX10_feuds (σ : S0) (x1 : Int32) : Option (Int32 × S0) := obp (fX9_hasHouse σ 22 x1) (fun r1 σ2 => if r1 = 0 then (some ((-1), σ2)) else (og (¬ (x1 < 0 ∨ 6 ≤ x1.toNatClampNeg)) (ol (σ2 38 x1.toNatClampNeg) (fun v6 => some (v6, σ2)))))
set_option maxHeartbeats 1000000 in
set_option maxRecDepth 100000 in
theorem fX10_feuds_ok {p : Program} {l : Launch} {e : Env} {s : State} {m : MethodId} {args : Array Value} {below : List Frame} {meth : Method} {c : Code} {dC : Nat → ClassId} {dI : Nat → Nat → Nat} {ad : Nat → Nat} {cy : Nat → ClassId} {sz : Nat} (C : Cx p s m args meth c RX10 cX10_feuds 2 (some .int) dC dI ad cy sz) {rr : Int32} {ρ : S0} (σ : S0) (x1 : Int32)  (hf : fX10_feuds σ x1 = some (rr, ρ)) : Gw p l e rm_X10_feuds s m args below meth c (MQ below (QcI dC dI ad cy sz rr ρ) args s 0 0 (AW ad sz)) dC dI ad cy 2 sz 0 0 0 [(0, .ref (ad 0)), (1, .int x1)] [] σ := by
  unfold fX10_feuds at hf
  refine g_aload_n C dX10_feuds_0 rfl 0 rfl ?_
  refine g_get C (a_0 ad cy _) rfl hin_X10 2 (by decide) hF_X10_28 rfl rfl dX10_feuds_1 ?_
  refine g_iload_n C dX10_feuds_4 rfl 1 rfl ?_
  obtain ⟨r1, σ2, h3, hf⟩ := obp_e hf
  refine g_callVi (As := [.int x1]) (rest := []) C (a_22 ad cy _) rfl (c_X9_hasHouse l dC dI ad cy 22 k_isTown_22 x1) h3 hM_X10_163 cal_X9_hasHouse ⟨Nat.zero_le _, Nat.zero_le _⟩ ⟨rfl, rfl⟩ ⟨Nat.le_of_ble_eq_true rfl, Nat.le_of_ble_eq_true rfl⟩ rfl rfl (Nat.le_of_ble_eq_true rfl) dX10_feuds_5 ?_
  rcases oi_e hf with ⟨c4, hf⟩ | ⟨c4, hf⟩
  · refine g_if_eq_t (tgt := 23) C dX10_feuds_8 (by decide) c4 ?_
    refine g_iconst (v := (-1)) C dX10_feuds_23 (by decide) ?_
    obtain ⟨rfl, rfl⟩ := os_e hf
    exact g_iret C rfl dX10_feuds_24
  · refine g_if_eq_f (tgt := 23) C dX10_feuds_8 (by decide) c4 ?_
    refine g_aload_n C dX10_feuds_11 rfl 0 rfl ?_
    refine g_get C (a_0 ad cy _) rfl hin_X10 3 (by decide) hF_X10_36 rfl rfl dX10_feuds_12 ?_
    refine g_get C (a_32 ad cy _) rfl hin_X1 6 (by decide) hF_X10_166 rfl rfl dX10_feuds_15 ?_
    refine g_iload_n C dX10_feuds_18 rfl 1 rfl ?_
    obtain ⟨h5, hf⟩ := og_e hf
    refine g_iald C (a_38 ad cy _) h5 dX10_feuds_19 ?_
    obtain ⟨v6, ev6, hf⟩ := ol_e hf
    refine g_nm ev6 ?_
    refine g_goto (tgt := 24) C dX10_feuds_20 (by decide) ?_
    obtain ⟨rfl, rfl⟩ := os_e hf
    exact g_iret C rfl dX10_feuds_24
theorem c_X10_feuds (l : Launch) (dC : Nat → ClassId) (dI : Nat → Nat → Nat) (ad : Nat → Nat) (cy : Nat → ClassId) (x1 : Int32) : ConI l yX10_feuds cX10_feuds 2 (some .int) rm_X10_feuds dC dI ad cy [.ref (ad 0), .int x1] (fun σ => fX10_feuds σ x1) := con_i (own := RX10) (by decide) rfl (Nat.le_of_ble_eq_true rfl) (fun _ _ _ _ _ _ _ _ σ _ _ C hf => fX10_feuds_ok C σ x1 hf)
theorem cal_X10_feuds : CalV yX10_feuds RX10 cX10_feuds 2 (some .int) 1 := ⟨hI_X10_feuds, hS_X10_feuds, hIni_X10, hC_X10_feuds, by decide +kernel⟩
abbrev rm_X10_isFee : Room := { frames := 0, cells := 0, slots := 0, locals := 0 }
def fX10_isFee (σ : S0) (x0 : Int32) : Option (Int32 × S0) := if x0 < 0 then (some (0, σ)) else (if (20 : Int32) < x0 then (some (0, σ)) else (some (1, σ)))
set_option maxHeartbeats 1000000 in
set_option maxRecDepth 100000 in
theorem fX10_isFee_ok {p : Program} {l : Launch} {e : Env} {s : State} {m : MethodId} {args : Array Value} {below : List Frame} {meth : Method} {c : Code} {dC : Nat → ClassId} {dI : Nat → Nat → Nat} {ad : Nat → Nat} {cy : Nat → ClassId} {sz : Nat} (C : Cx p s m args meth c RX10 cX10_isFee 1 (some .boolean) dC dI ad cy sz) {rr : Int32} {ρ : S0} (σ : S0) (x0 : Int32)  (hf : fX10_isFee σ x0 = some (rr, ρ)) : Gw p l e rm_X10_isFee s m args below meth c (MQ below (QcI dC dI ad cy sz rr ρ) args s 0 0 (AW ad sz)) dC dI ad cy 1 sz 0 0 0 [(0, .int x0)] [] σ := by
  unfold fX10_isFee at hf
  refine g_iload_n C dX10_isFee_0 rfl 0 rfl ?_
  rcases oi_e hf with ⟨c1, hf⟩ | ⟨c1, hf⟩
  · refine g_if_lt_t (tgt := 14) C dX10_isFee_1 (by decide) c1 ?_
    refine g_iconst (v := 0) C dX10_isFee_14 (by decide) ?_
    obtain ⟨rfl, rfl⟩ := os_e hf
    exact g_zret C rfl (by decide) dX10_isFee_15
  · refine g_if_lt_f (tgt := 14) C dX10_isFee_1 (by decide) c1 ?_
    refine g_iload_n C dX10_isFee_4 rfl 0 rfl ?_
    refine g_bipush (v := 20) C dX10_isFee_5 (by decide) ?_
    rcases oi_e hf with ⟨c2, hf⟩ | ⟨c2, hf⟩
    · refine g_icmp_gt_t (tgt := 14) C dX10_isFee_7 (by decide) c2 ?_
      refine g_iconst (v := 0) C dX10_isFee_14 (by decide) ?_
      obtain ⟨rfl, rfl⟩ := os_e hf
      exact g_zret C rfl (by decide) dX10_isFee_15
    · refine g_icmp_gt_f (tgt := 14) C dX10_isFee_7 (by decide) c2 ?_
      refine g_iconst (v := 1) C dX10_isFee_10 (by decide) ?_
      refine g_goto (tgt := 15) C dX10_isFee_11 (by decide) ?_
      obtain ⟨rfl, rfl⟩ := os_e hf
      exact g_zret C rfl (by decide) dX10_isFee_15
theorem c_X10_isFee (l : Launch) (dC : Nat → ClassId) (dI : Nat → Nat → Nat) (ad : Nat → Nat) (cy : Nat → ClassId) (x0 : Int32) : ConI l yX10_isFee cX10_isFee 1 (some .boolean) rm_X10_isFee dC dI ad cy [.int x0] (fun σ => fX10_isFee σ x0) := con_i (own := RX10) (by decide) rfl (Nat.le_of_ble_eq_true rfl) (fun _ _ _ _ _ _ _ _ σ _ _ C hf => fX10_isFee_ok C σ x0 hf)
theorem cal_X10_isFee : CalS yX10_isFee cX10_isFee 1 (some .boolean) 1 := ⟨hSt_X10_isFee, hIni_X10, hC_X10_isFee, by decide +kernel⟩
abbrev rm_X10_fee : Room := { frames := 1, cells := 0, slots := 0, locals := 21 }
def fX10_fee (σ : S0) (x1 : Int32) (x2 : Int32) : Option (Int32 × S0) := obp (fX1_hasBell σ 32 x1) (fun r1 σ2 => if r1 = 0 then (some ((-1), σ2)) else (obp (fX10_isFee σ2 x2) (fun r5 σ6 => if ¬ r5 = 0 then (og (¬ (x1 < 0 ∨ 12 ≤ x1.toNatClampNeg)) (ol (σ6 34 x1.toNatClampNeg) (fun v10 => og (¬ (x1 < 0 ∨ 12 ≤ x1.toNatClampNeg)) (ol (su σ6 34 x1.toNatClampNeg x2) (fun σ12 => some (v10, σ12)))))) else (some ((-1), σ6)))))
set_option maxHeartbeats 1000000 in
set_option maxRecDepth 100000 in
theorem fX10_fee_ok {p : Program} {l : Launch} {e : Env} {s : State} {m : MethodId} {args : Array Value} {below : List Frame} {meth : Method} {c : Code} {dC : Nat → ClassId} {dI : Nat → Nat → Nat} {ad : Nat → Nat} {cy : Nat → ClassId} {sz : Nat} (C : Cx p s m args meth c RX10 cX10_fee 4 (some .int) dC dI ad cy sz) {rr : Int32} {ρ : S0} (σ : S0) (x1 : Int32) (x2 : Int32)  (hf : fX10_fee σ x1 x2 = some (rr, ρ)) : Gw p l e rm_X10_fee s m args below meth c (MQ below (QcI dC dI ad cy sz rr ρ) args s 0 0 (AW ad sz)) dC dI ad cy 4 sz 0 0 0 [(0, .ref (ad 0)), (1, .int x1), (2, .int x2)] [] σ := by
  unfold fX10_fee at hf
  refine g_aload_n C dX10_fee_0 rfl 0 rfl ?_
  refine g_get C (a_0 ad cy _) rfl hin_X10 3 (by decide) hF_X10_36 rfl rfl dX10_fee_1 ?_
  refine g_iload_n C dX10_fee_4 rfl 1 rfl ?_
  obtain ⟨r1, σ2, h3, hf⟩ := obp_e hf
  refine g_callVi (As := [.int x1]) (rest := []) C (a_32 ad cy _) rfl (c_X1_hasBell l dC dI ad cy 32 k_isChimes_32 x1) h3 hM_X10_127 cal_X1_hasBell ⟨Nat.zero_le _, Nat.zero_le _⟩ ⟨rfl, rfl⟩ ⟨Nat.le_of_ble_eq_true rfl, Nat.le_of_ble_eq_true rfl⟩ rfl rfl (Nat.le_of_ble_eq_true rfl) dX10_fee_5 ?_
  rcases oi_e hf with ⟨c4, hf⟩ | ⟨c4, hf⟩
  · refine g_if_eq_t (tgt := 18) C dX10_fee_8 (by decide) c4 ?_
    refine g_iconst (v := (-1)) C dX10_fee_18 (by decide) ?_
    obtain ⟨rfl, rfl⟩ := os_e hf
    exact g_iret C rfl dX10_fee_19
  · refine g_if_eq_f (tgt := 18) C dX10_fee_8 (by decide) c4 ?_
    refine g_iload_n C dX10_fee_11 rfl 2 rfl ?_
    obtain ⟨r5, σ6, h7, hf⟩ := obp_e hf
    refine g_callSi (As := [.int x2]) (rest := []) C (c_X10_isFee l dC dI ad cy x2) h7 hM_X10_169 cal_X10_isFee ⟨Nat.zero_le _, Nat.zero_le _⟩ ⟨rfl, rfl⟩ ⟨Nat.le_of_ble_eq_true rfl, Nat.le_of_ble_eq_true rfl⟩ rfl rfl (Nat.le_of_ble_eq_true rfl) dX10_fee_12 ?_
    rcases oi_e hf with ⟨c8, hf⟩ | ⟨c8, hf⟩
    · refine g_if_ne_t (tgt := 20) C dX10_fee_15 (by decide) c8 ?_
      refine g_aload_n C dX10_fee_20 rfl 0 rfl ?_
      refine g_get C (a_0 ad cy _) rfl hin_X10 3 (by decide) hF_X10_36 rfl rfl dX10_fee_21 ?_
      refine g_get C (a_32 ad cy _) rfl hin_X1 2 (by decide) hF_X10_135 rfl rfl dX10_fee_24 ?_
      refine g_iload_n C dX10_fee_27 rfl 1 rfl ?_
      obtain ⟨h9, hf⟩ := og_e hf
      refine g_iald C (a_34 ad cy _) h9 dX10_fee_28 ?_
      obtain ⟨v10, ev10, hf⟩ := ol_e hf
      refine g_nm ev10 ?_
      refine g_istore_n (lv2 := [(0, .ref (ad 0)), (1, .int x1), (2, .int x2), (3, .int v10)]) C dX10_fee_29 rfl (by decide) [1, 2, 3, 0] rfl ?_
      refine g_aload_n C dX10_fee_30 rfl 0 rfl ?_
      refine g_get C (a_0 ad cy _) rfl hin_X10 3 (by decide) hF_X10_36 rfl rfl dX10_fee_31 ?_
      refine g_get C (a_32 ad cy _) rfl hin_X1 2 (by decide) hF_X10_135 rfl rfl dX10_fee_34 ?_
      refine g_iload_n C dX10_fee_37 rfl 1 rfl ?_
      refine g_iload_n C dX10_fee_38 rfl 2 rfl ?_
      obtain ⟨h11, hf⟩ := og_e hf
      obtain ⟨σ12, eσ12, hf⟩ := ol_e hf
      refine g_iast C (a_34 ad cy _) h11 (w_34 ad cy _) eσ12 dX10_fee_39 ?_
      refine g_iload_n C dX10_fee_40 rfl 3 rfl ?_
      obtain ⟨rfl, rfl⟩ := os_e hf
      exact g_iret C rfl dX10_fee_41
    · refine g_if_ne_f (tgt := 20) C dX10_fee_15 (by decide) (Decidable.of_not_not c8) ?_
      refine g_iconst (v := (-1)) C dX10_fee_18 (by decide) ?_
      obtain ⟨rfl, rfl⟩ := os_e hf
      exact g_iret C rfl dX10_fee_19
theorem c_X10_fee (l : Launch) (dC : Nat → ClassId) (dI : Nat → Nat → Nat) (ad : Nat → Nat) (cy : Nat → ClassId) (x1 : Int32) (x2 : Int32) : ConI l yX10_fee cX10_fee 4 (some .int) rm_X10_fee dC dI ad cy [.ref (ad 0), .int x1, .int x2] (fun σ => fX10_fee σ x1 x2) := con_i (own := RX10) (by decide) rfl (Nat.le_of_ble_eq_true rfl) (fun _ _ _ _ _ _ _ _ σ _ _ C hf => fX10_fee_ok C σ x1 x2 hf)
theorem cal_X10_fee : CalV yX10_fee RX10 cX10_fee 4 (some .int) 2 := ⟨hI_X10_fee, hS_X10_fee, hIni_X10, hC_X10_fee, by decide +kernel⟩
abbrev rm_X10_shut : Room := { frames := 1, cells := 0, slots := 0, locals := 21 }
def fX10_shut_b40  (σ : S0) (x3 : Int32) (t0 : Int32) (t1 : Int32) : Option (Int32 × S0) := og (¬ (t1 < 0 ∨ 12 ≤ t1.toNatClampNeg)) (ol (su σ 36 t1.toNatClampNeg t0) (fun σ2 => some (x3, σ2)))
set_option maxHeartbeats 1000000 in
set_option maxRecDepth 100000 in
theorem fX10_shut_b40_ok {p : Program} {l : Launch} {e : Env} {s : State} {m : MethodId} {args : Array Value} {below : List Frame} {meth : Method} {c : Code} {dC : Nat → ClassId} {dI : Nat → Nat → Nat} {ad : Nat → Nat} {cy : Nat → ClassId} {sz : Nat} (C : Cx p s m args meth c RX10 cX10_shut 4 (some .int) dC dI ad cy sz) {rr : Int32} {ρ : S0}  (σ : S0) (x3 : Int32) (t0 : Int32) (t1 : Int32)  (hf : fX10_shut_b40 σ x3 t0 t1 = some (rr, ρ)) : Gw p l e rm_X10_shut s m args below meth c (MQ below (QcI dC dI ad cy sz rr ρ) args s 0 0 (AW ad sz)) dC dI ad cy 4 sz 0 0 40 [(3, .int x3)] [.int t0, .int t1, .ref (ad 36)] σ := by
  unfold fX10_shut_b40 at hf
  obtain ⟨h1, hf⟩ := og_e hf
  obtain ⟨σ2, eσ2, hf⟩ := ol_e hf
  refine g_iast C (a_36 ad cy _) h1 (w_36 ad cy _) eσ2 dX10_shut_40 ?_
  refine g_iload_n C dX10_shut_41 rfl 0 rfl ?_
  obtain ⟨rfl, rfl⟩ := os_e hf
  exact g_iret C rfl dX10_shut_42
def fX10_shut (σ : S0) (x1 : Int32) (x2 : Int32) : Option (Int32 × S0) := obp (fX1_hasBell σ 32 x1) (fun r1 σ2 => if ¬ r1 = 0 then (og (¬ (x1 < 0 ∨ 12 ≤ x1.toNatClampNeg)) (ol (σ2 36 x1.toNatClampNeg) (fun v6 => if x2 = 0 then (fX10_shut_b40 σ2 v6 0 x1) else (fX10_shut_b40 σ2 v6 1 x1)))) else (some ((-1), σ2)))
set_option maxHeartbeats 1000000 in
set_option maxRecDepth 100000 in
theorem fX10_shut_ok {p : Program} {l : Launch} {e : Env} {s : State} {m : MethodId} {args : Array Value} {below : List Frame} {meth : Method} {c : Code} {dC : Nat → ClassId} {dI : Nat → Nat → Nat} {ad : Nat → Nat} {cy : Nat → ClassId} {sz : Nat} (C : Cx p s m args meth c RX10 cX10_shut 4 (some .int) dC dI ad cy sz) {rr : Int32} {ρ : S0} (σ : S0) (x1 : Int32) (x2 : Int32)  (hf : fX10_shut σ x1 x2 = some (rr, ρ)) : Gw p l e rm_X10_shut s m args below meth c (MQ below (QcI dC dI ad cy sz rr ρ) args s 0 0 (AW ad sz)) dC dI ad cy 4 sz 0 0 0 [(0, .ref (ad 0)), (1, .int x1), (2, .int x2)] [] σ := by
  unfold fX10_shut at hf
  refine g_aload_n C dX10_shut_0 rfl 0 rfl ?_
  refine g_get C (a_0 ad cy _) rfl hin_X10 3 (by decide) hF_X10_36 rfl rfl dX10_shut_1 ?_
  refine g_iload_n C dX10_shut_4 rfl 1 rfl ?_
  obtain ⟨r1, σ2, h3, hf⟩ := obp_e hf
  refine g_callVi (As := [.int x1]) (rest := []) C (a_32 ad cy _) rfl (c_X1_hasBell l dC dI ad cy 32 k_isChimes_32 x1) h3 hM_X10_127 cal_X1_hasBell ⟨Nat.zero_le _, Nat.zero_le _⟩ ⟨rfl, rfl⟩ ⟨Nat.le_of_ble_eq_true rfl, Nat.le_of_ble_eq_true rfl⟩ rfl rfl (Nat.le_of_ble_eq_true rfl) dX10_shut_5 ?_
  rcases oi_e hf with ⟨c4, hf⟩ | ⟨c4, hf⟩
  · refine g_if_ne_t (tgt := 13) C dX10_shut_8 (by decide) c4 ?_
    refine g_aload_n C dX10_shut_13 rfl 0 rfl ?_
    refine g_get C (a_0 ad cy _) rfl hin_X10 3 (by decide) hF_X10_36 rfl rfl dX10_shut_14 ?_
    refine g_get C (a_32 ad cy _) rfl hin_X1 4 (by decide) hF_X10_141 rfl rfl dX10_shut_17 ?_
    refine g_iload_n C dX10_shut_20 rfl 1 rfl ?_
    obtain ⟨h5, hf⟩ := og_e hf
    refine g_iald C (a_36 ad cy _) h5 dX10_shut_21 ?_
    obtain ⟨v6, ev6, hf⟩ := ol_e hf
    refine g_nm ev6 ?_
    refine g_istore_n (lv2 := [(0, .ref (ad 0)), (1, .int x1), (2, .int x2), (3, .int v6)]) C dX10_shut_22 rfl (by decide) [1, 2, 3, 0] rfl ?_
    refine g_aload_n C dX10_shut_23 rfl 0 rfl ?_
    refine g_get C (a_0 ad cy _) rfl hin_X10 3 (by decide) hF_X10_36 rfl rfl dX10_shut_24 ?_
    refine g_get C (a_32 ad cy _) rfl hin_X1 4 (by decide) hF_X10_141 rfl rfl dX10_shut_27 ?_
    refine g_iload_n C dX10_shut_30 rfl 1 rfl ?_
    refine g_iload_n C dX10_shut_31 rfl 2 rfl ?_
    rcases oi_e hf with ⟨c7, hf⟩ | ⟨c7, hf⟩
    · refine g_if_eq_t (tgt := 39) C dX10_shut_32 (by decide) c7 ?_
      refine g_iconst (v := 0) C dX10_shut_39 (by decide) ?_
      exact g_sub [3] rfl (fX10_shut_b40_ok C σ2 v6 0 x1 hf)
    · refine g_if_eq_f (tgt := 39) C dX10_shut_32 (by decide) c7 ?_
      refine g_iconst (v := 1) C dX10_shut_35 (by decide) ?_
      refine g_goto (tgt := 40) C dX10_shut_36 (by decide) ?_
      exact g_sub [3] rfl (fX10_shut_b40_ok C σ2 v6 1 x1 hf)
  · refine g_if_ne_f (tgt := 13) C dX10_shut_8 (by decide) (Decidable.of_not_not c4) ?_
    refine g_iconst (v := (-1)) C dX10_shut_11 (by decide) ?_
    obtain ⟨rfl, rfl⟩ := os_e hf
    exact g_iret C rfl dX10_shut_12
theorem c_X10_shut (l : Launch) (dC : Nat → ClassId) (dI : Nat → Nat → Nat) (ad : Nat → Nat) (cy : Nat → ClassId) (x1 : Int32) (x2 : Int32) : ConI l yX10_shut cX10_shut 4 (some .int) rm_X10_shut dC dI ad cy [.ref (ad 0), .int x1, .int x2] (fun σ => fX10_shut σ x1 x2) := con_i (own := RX10) (by decide) rfl (Nat.le_of_ble_eq_true rfl) (fun _ _ _ _ _ _ _ _ σ _ _ C hf => fX10_shut_ok C σ x1 x2 hf)
theorem cal_X10_shut : CalV yX10_shut RX10 cX10_shut 4 (some .int) 2 := ⟨hI_X10_shut, hS_X10_shut, hIni_X10, hC_X10_shut, by decide +kernel⟩
abbrev rm_X10_sell : Room := { frames := 1, cells := 0, slots := 0, locals := 21 }
def fX10_sell (σ : S0) (x1 : Int32) (x2 : Int32) : Option (Int32 × S0) := obp (fX1_hasBell σ 32 x1) (fun r1 σ2 => if r1 = 0 then (some ((-1), σ2)) else (obp (fX9_hasHouse σ2 22 x2) (fun r5 σ6 => if ¬ r5 = 0 then (og (¬ (x1 < 0 ∨ 12 ≤ x1.toNatClampNeg)) (ol (σ6 33 x1.toNatClampNeg) (fun v10 => if ¬ v10 = x2 then (og (¬ (x1 < 0 ∨ 12 ≤ x1.toNatClampNeg)) (ol (su σ6 33 x1.toNatClampNeg x2) (fun σ13 => og (¬ (x1 < 0 ∨ 12 ≤ x1.toNatClampNeg)) (ol (σ13 37 x1.toNatClampNeg) (fun v15 => if ¬ v15 = x2 then (some (v10, σ13)) else (og (¬ (x1 < 0 ∨ 12 ≤ x1.toNatClampNeg)) (ol (su σ13 37 x1.toNatClampNeg ((-4))) (fun σ18 => some (v10, σ18))))))))) else (some ((-2), σ6))))) else (some ((-1), σ6)))))
set_option maxHeartbeats 1000000 in
set_option maxRecDepth 100000 in
theorem fX10_sell_ok {p : Program} {l : Launch} {e : Env} {s : State} {m : MethodId} {args : Array Value} {below : List Frame} {meth : Method} {c : Code} {dC : Nat → ClassId} {dI : Nat → Nat → Nat} {ad : Nat → Nat} {cy : Nat → ClassId} {sz : Nat} (C : Cx p s m args meth c RX10 cX10_sell 4 (some .int) dC dI ad cy sz) {rr : Int32} {ρ : S0} (σ : S0) (x1 : Int32) (x2 : Int32)  (hf : fX10_sell σ x1 x2 = some (rr, ρ)) : Gw p l e rm_X10_sell s m args below meth c (MQ below (QcI dC dI ad cy sz rr ρ) args s 0 0 (AW ad sz)) dC dI ad cy 4 sz 0 0 0 [(0, .ref (ad 0)), (1, .int x1), (2, .int x2)] [] σ := by
  unfold fX10_sell at hf
  refine g_aload_n C dX10_sell_0 rfl 0 rfl ?_
  refine g_get C (a_0 ad cy _) rfl hin_X10 3 (by decide) hF_X10_36 rfl rfl dX10_sell_1 ?_
  refine g_iload_n C dX10_sell_4 rfl 1 rfl ?_
  obtain ⟨r1, σ2, h3, hf⟩ := obp_e hf
  refine g_callVi (As := [.int x1]) (rest := []) C (a_32 ad cy _) rfl (c_X1_hasBell l dC dI ad cy 32 k_isChimes_32 x1) h3 hM_X10_127 cal_X1_hasBell ⟨Nat.zero_le _, Nat.zero_le _⟩ ⟨rfl, rfl⟩ ⟨Nat.le_of_ble_eq_true rfl, Nat.le_of_ble_eq_true rfl⟩ rfl rfl (Nat.le_of_ble_eq_true rfl) dX10_sell_5 ?_
  rcases oi_e hf with ⟨c4, hf⟩ | ⟨c4, hf⟩
  · refine g_if_eq_t (tgt := 22) C dX10_sell_8 (by decide) c4 ?_
    refine g_iconst (v := (-1)) C dX10_sell_22 (by decide) ?_
    obtain ⟨rfl, rfl⟩ := os_e hf
    exact g_iret C rfl dX10_sell_23
  · refine g_if_eq_f (tgt := 22) C dX10_sell_8 (by decide) c4 ?_
    refine g_aload_n C dX10_sell_11 rfl 0 rfl ?_
    refine g_get C (a_0 ad cy _) rfl hin_X10 2 (by decide) hF_X10_28 rfl rfl dX10_sell_12 ?_
    refine g_iload_n C dX10_sell_15 rfl 2 rfl ?_
    obtain ⟨r5, σ6, h7, hf⟩ := obp_e hf
    refine g_callVi (As := [.int x2]) (rest := []) C (a_22 ad cy _) rfl (c_X9_hasHouse l dC dI ad cy 22 k_isTown_22 x2) h7 hM_X10_163 cal_X9_hasHouse ⟨Nat.zero_le _, Nat.zero_le _⟩ ⟨rfl, rfl⟩ ⟨Nat.le_of_ble_eq_true rfl, Nat.le_of_ble_eq_true rfl⟩ rfl rfl (Nat.le_of_ble_eq_true rfl) dX10_sell_16 ?_
    rcases oi_e hf with ⟨c8, hf⟩ | ⟨c8, hf⟩
    · refine g_if_ne_t (tgt := 24) C dX10_sell_19 (by decide) c8 ?_
      refine g_aload_n C dX10_sell_24 rfl 0 rfl ?_
      refine g_get C (a_0 ad cy _) rfl hin_X10 3 (by decide) hF_X10_36 rfl rfl dX10_sell_25 ?_
      refine g_get C (a_32 ad cy _) rfl hin_X1 1 (by decide) hF_X10_131 rfl rfl dX10_sell_28 ?_
      refine g_iload_n C dX10_sell_31 rfl 1 rfl ?_
      obtain ⟨h9, hf⟩ := og_e hf
      refine g_iald C (a_33 ad cy _) h9 dX10_sell_32 ?_
      obtain ⟨v10, ev10, hf⟩ := ol_e hf
      refine g_nm ev10 ?_
      refine g_istore_n (lv2 := [(0, .ref (ad 0)), (1, .int x1), (2, .int x2), (3, .int v10)]) C dX10_sell_33 rfl (by decide) [1, 2, 3, 0] rfl ?_
      refine g_iload_n C dX10_sell_34 rfl 3 rfl ?_
      refine g_iload_n C dX10_sell_35 rfl 2 rfl ?_
      rcases oi_e hf with ⟨c11, hf⟩ | ⟨c11, hf⟩
      · refine g_icmp_ne_t (tgt := 42) C dX10_sell_36 (by decide) c11 ?_
        refine g_aload_n C dX10_sell_42 rfl 0 rfl ?_
        refine g_get C (a_0 ad cy _) rfl hin_X10 3 (by decide) hF_X10_36 rfl rfl dX10_sell_43 ?_
        refine g_get C (a_32 ad cy _) rfl hin_X1 1 (by decide) hF_X10_131 rfl rfl dX10_sell_46 ?_
        refine g_iload_n C dX10_sell_49 rfl 1 rfl ?_
        refine g_iload_n C dX10_sell_50 rfl 2 rfl ?_
        obtain ⟨h12, hf⟩ := og_e hf
        obtain ⟨σ13, eσ13, hf⟩ := ol_e hf
        refine g_iast C (a_33 ad cy _) h12 (w_33 ad cy _) eσ13 dX10_sell_51 ?_
        refine g_aload_n C dX10_sell_52 rfl 0 rfl ?_
        refine g_get C (a_0 ad cy _) rfl hin_X10 3 (by decide) hF_X10_36 rfl rfl dX10_sell_53 ?_
        refine g_get C (a_32 ad cy _) rfl hin_X1 5 (by decide) hF_X10_144 rfl rfl dX10_sell_56 ?_
        refine g_iload_n C dX10_sell_59 rfl 1 rfl ?_
        obtain ⟨h14, hf⟩ := og_e hf
        refine g_iald C (a_37 ad cy _) h14 dX10_sell_60 ?_
        obtain ⟨v15, ev15, hf⟩ := ol_e hf
        refine g_nm ev15 ?_
        refine g_iload_n C dX10_sell_61 rfl 2 rfl ?_
        rcases oi_e hf with ⟨c16, hf⟩ | ⟨c16, hf⟩
        · refine g_icmp_ne_t (tgt := 76) C dX10_sell_62 (by decide) c16 ?_
          refine g_iload_n C dX10_sell_76 rfl 3 rfl ?_
          obtain ⟨rfl, rfl⟩ := os_e hf
          exact g_iret C rfl dX10_sell_77
        · refine g_icmp_ne_f (tgt := 76) C dX10_sell_62 (by decide) (Decidable.of_not_not c16) ?_
          refine g_aload_n C dX10_sell_65 rfl 0 rfl ?_
          refine g_get C (a_0 ad cy _) rfl hin_X10 3 (by decide) hF_X10_36 rfl rfl dX10_sell_66 ?_
          refine g_get C (a_32 ad cy _) rfl hin_X1 5 (by decide) hF_X10_144 rfl rfl dX10_sell_69 ?_
          refine g_iload_n C dX10_sell_72 rfl 1 rfl ?_
          refine g_bipush (v := (-4)) C dX10_sell_73 (by decide) ?_
          obtain ⟨h17, hf⟩ := og_e hf
          obtain ⟨σ18, eσ18, hf⟩ := ol_e hf
          refine g_iast C (a_37 ad cy _) h17 (w_37 ad cy _) eσ18 dX10_sell_75 ?_
          refine g_iload_n C dX10_sell_76 rfl 3 rfl ?_
          obtain ⟨rfl, rfl⟩ := os_e hf
          exact g_iret C rfl dX10_sell_77
      · refine g_icmp_ne_f (tgt := 42) C dX10_sell_36 (by decide) (Decidable.of_not_not c11) ?_
        refine g_bipush (v := (-2)) C dX10_sell_39 (by decide) ?_
        obtain ⟨rfl, rfl⟩ := os_e hf
        exact g_iret C rfl dX10_sell_41
    · refine g_if_ne_f (tgt := 24) C dX10_sell_19 (by decide) (Decidable.of_not_not c8) ?_
      refine g_iconst (v := (-1)) C dX10_sell_22 (by decide) ?_
      obtain ⟨rfl, rfl⟩ := os_e hf
      exact g_iret C rfl dX10_sell_23
theorem c_X10_sell (l : Launch) (dC : Nat → ClassId) (dI : Nat → Nat → Nat) (ad : Nat → Nat) (cy : Nat → ClassId) (x1 : Int32) (x2 : Int32) : ConI l yX10_sell cX10_sell 4 (some .int) rm_X10_sell dC dI ad cy [.ref (ad 0), .int x1, .int x2] (fun σ => fX10_sell σ x1 x2) := con_i (own := RX10) (by decide) rfl (Nat.le_of_ble_eq_true rfl) (fun _ _ _ _ _ _ _ _ σ _ _ C hf => fX10_sell_ok C σ x1 x2 hf)
theorem cal_X10_sell : CalV yX10_sell RX10 cX10_sell 4 (some .int) 2 := ⟨hI_X10_sell, hS_X10_sell, hIni_X10, hC_X10_sell, by decide +kernel⟩
abbrev rm_X10_half : Room := { frames := 1, cells := 0, slots := 0, locals := 21 }
def fX10_half_b30  (σ : S0) (x1 : Int32) (x2 : Int32) : Option (Int32 × S0) := og (¬ (x1 < 0 ∨ 12 ≤ x1.toNatClampNeg)) (ol (σ 33 x1.toNatClampNeg) (fun v2 => if ¬ v2 = x2 then (og (¬ (x1 < 0 ∨ 12 ≤ x1.toNatClampNeg)) (ol (σ 37 x1.toNatClampNeg) (fun v5 => og (¬ (x1 < 0 ∨ 12 ≤ x1.toNatClampNeg)) (ol (su σ 37 x1.toNatClampNeg x2) (fun σ7 => some (v5, σ7)))))) else (some ((-2), σ))))
set_option maxHeartbeats 1000000 in
set_option maxRecDepth 100000 in
theorem fX10_half_b30_ok {p : Program} {l : Launch} {e : Env} {s : State} {m : MethodId} {args : Array Value} {below : List Frame} {meth : Method} {c : Code} {dC : Nat → ClassId} {dI : Nat → Nat → Nat} {ad : Nat → Nat} {cy : Nat → ClassId} {sz : Nat} (C : Cx p s m args meth c RX10 cX10_half 4 (some .int) dC dI ad cy sz) {rr : Int32} {ρ : S0}  (σ : S0) (x1 : Int32) (x2 : Int32)  (hf : fX10_half_b30 σ x1 x2 = some (rr, ρ)) : Gw p l e rm_X10_half s m args below meth c (MQ below (QcI dC dI ad cy sz rr ρ) args s 0 0 (AW ad sz)) dC dI ad cy 4 sz 0 0 30 [(0, .ref (ad 0)), (1, .int x1), (2, .int x2)] [] σ := by
  unfold fX10_half_b30 at hf
  refine g_aload_n C dX10_half_30 rfl 0 rfl ?_
  refine g_get C (a_0 ad cy _) rfl hin_X10 3 (by decide) hF_X10_36 rfl rfl dX10_half_31 ?_
  refine g_get C (a_32 ad cy _) rfl hin_X1 1 (by decide) hF_X10_131 rfl rfl dX10_half_34 ?_
  refine g_iload_n C dX10_half_37 rfl 1 rfl ?_
  obtain ⟨h1, hf⟩ := og_e hf
  refine g_iald C (a_33 ad cy _) h1 dX10_half_38 ?_
  obtain ⟨v2, ev2, hf⟩ := ol_e hf
  refine g_nm ev2 ?_
  refine g_iload_n C dX10_half_39 rfl 2 rfl ?_
  rcases oi_e hf with ⟨c3, hf⟩ | ⟨c3, hf⟩
  · refine g_icmp_ne_t (tgt := 46) C dX10_half_40 (by decide) c3 ?_
    refine g_aload_n C dX10_half_46 rfl 0 rfl ?_
    refine g_get C (a_0 ad cy _) rfl hin_X10 3 (by decide) hF_X10_36 rfl rfl dX10_half_47 ?_
    refine g_get C (a_32 ad cy _) rfl hin_X1 5 (by decide) hF_X10_144 rfl rfl dX10_half_50 ?_
    refine g_iload_n C dX10_half_53 rfl 1 rfl ?_
    obtain ⟨h4, hf⟩ := og_e hf
    refine g_iald C (a_37 ad cy _) h4 dX10_half_54 ?_
    obtain ⟨v5, ev5, hf⟩ := ol_e hf
    refine g_nm ev5 ?_
    refine g_istore_n (lv2 := [(0, .ref (ad 0)), (1, .int x1), (2, .int x2), (3, .int v5)]) C dX10_half_55 rfl (by decide) [1, 2, 3, 0] rfl ?_
    refine g_aload_n C dX10_half_56 rfl 0 rfl ?_
    refine g_get C (a_0 ad cy _) rfl hin_X10 3 (by decide) hF_X10_36 rfl rfl dX10_half_57 ?_
    refine g_get C (a_32 ad cy _) rfl hin_X1 5 (by decide) hF_X10_144 rfl rfl dX10_half_60 ?_
    refine g_iload_n C dX10_half_63 rfl 1 rfl ?_
    refine g_iload_n C dX10_half_64 rfl 2 rfl ?_
    obtain ⟨h6, hf⟩ := og_e hf
    obtain ⟨σ7, eσ7, hf⟩ := ol_e hf
    refine g_iast C (a_37 ad cy _) h6 (w_37 ad cy _) eσ7 dX10_half_65 ?_
    refine g_iload_n C dX10_half_66 rfl 3 rfl ?_
    obtain ⟨rfl, rfl⟩ := os_e hf
    exact g_iret C rfl dX10_half_67
  · refine g_icmp_ne_f (tgt := 46) C dX10_half_40 (by decide) (Decidable.of_not_not c3) ?_
    refine g_bipush (v := (-2)) C dX10_half_43 (by decide) ?_
    obtain ⟨rfl, rfl⟩ := os_e hf
    exact g_iret C rfl dX10_half_45
def fX10_half (σ : S0) (x1 : Int32) (x2 : Int32) : Option (Int32 × S0) := obp (fX1_hasBell σ 32 x1) (fun r1 σ2 => if r1 = 0 then (some ((-1), σ2)) else (if x2 = ((-4)) then (fX10_half_b30 σ2 x1 x2) else (obp (fX9_hasHouse σ2 22 x2) (fun r6 σ7 => if ¬ r6 = 0 then (fX10_half_b30 σ7 x1 x2) else (some ((-1), σ7))))))
set_option maxHeartbeats 1000000 in
set_option maxRecDepth 100000 in
theorem fX10_half_ok {p : Program} {l : Launch} {e : Env} {s : State} {m : MethodId} {args : Array Value} {below : List Frame} {meth : Method} {c : Code} {dC : Nat → ClassId} {dI : Nat → Nat → Nat} {ad : Nat → Nat} {cy : Nat → ClassId} {sz : Nat} (C : Cx p s m args meth c RX10 cX10_half 4 (some .int) dC dI ad cy sz) {rr : Int32} {ρ : S0} (σ : S0) (x1 : Int32) (x2 : Int32)  (hf : fX10_half σ x1 x2 = some (rr, ρ)) : Gw p l e rm_X10_half s m args below meth c (MQ below (QcI dC dI ad cy sz rr ρ) args s 0 0 (AW ad sz)) dC dI ad cy 4 sz 0 0 0 [(0, .ref (ad 0)), (1, .int x1), (2, .int x2)] [] σ := by
  unfold fX10_half at hf
  refine g_aload_n C dX10_half_0 rfl 0 rfl ?_
  refine g_get C (a_0 ad cy _) rfl hin_X10 3 (by decide) hF_X10_36 rfl rfl dX10_half_1 ?_
  refine g_iload_n C dX10_half_4 rfl 1 rfl ?_
  obtain ⟨r1, σ2, h3, hf⟩ := obp_e hf
  refine g_callVi (As := [.int x1]) (rest := []) C (a_32 ad cy _) rfl (c_X1_hasBell l dC dI ad cy 32 k_isChimes_32 x1) h3 hM_X10_127 cal_X1_hasBell ⟨Nat.zero_le _, Nat.zero_le _⟩ ⟨rfl, rfl⟩ ⟨Nat.le_of_ble_eq_true rfl, Nat.le_of_ble_eq_true rfl⟩ rfl rfl (Nat.le_of_ble_eq_true rfl) dX10_half_5 ?_
  rcases oi_e hf with ⟨c4, hf⟩ | ⟨c4, hf⟩
  · refine g_if_eq_t (tgt := 28) C dX10_half_8 (by decide) c4 ?_
    refine g_iconst (v := (-1)) C dX10_half_28 (by decide) ?_
    obtain ⟨rfl, rfl⟩ := os_e hf
    exact g_iret C rfl dX10_half_29
  · refine g_if_eq_f (tgt := 28) C dX10_half_8 (by decide) c4 ?_
    refine g_iload_n C dX10_half_11 rfl 2 rfl ?_
    refine g_bipush (v := (-4)) C dX10_half_12 (by decide) ?_
    rcases oi_e hf with ⟨c5, hf⟩ | ⟨c5, hf⟩
    · refine g_icmp_eq_t (tgt := 30) C dX10_half_14 (by decide) c5 ?_
      exact g_sub [0, 1, 2] rfl (fX10_half_b30_ok C σ2 x1 x2 hf)
    · refine g_icmp_eq_f (tgt := 30) C dX10_half_14 (by decide) c5 ?_
      refine g_aload_n C dX10_half_17 rfl 0 rfl ?_
      refine g_get C (a_0 ad cy _) rfl hin_X10 2 (by decide) hF_X10_28 rfl rfl dX10_half_18 ?_
      refine g_iload_n C dX10_half_21 rfl 2 rfl ?_
      obtain ⟨r6, σ7, h8, hf⟩ := obp_e hf
      refine g_callVi (As := [.int x2]) (rest := []) C (a_22 ad cy _) rfl (c_X9_hasHouse l dC dI ad cy 22 k_isTown_22 x2) h8 hM_X10_163 cal_X9_hasHouse ⟨Nat.zero_le _, Nat.zero_le _⟩ ⟨rfl, rfl⟩ ⟨Nat.le_of_ble_eq_true rfl, Nat.le_of_ble_eq_true rfl⟩ rfl rfl (Nat.le_of_ble_eq_true rfl) dX10_half_22 ?_
      rcases oi_e hf with ⟨c9, hf⟩ | ⟨c9, hf⟩
      · refine g_if_ne_t (tgt := 30) C dX10_half_25 (by decide) c9 ?_
        exact g_sub [0, 1, 2] rfl (fX10_half_b30_ok C σ7 x1 x2 hf)
      · refine g_if_ne_f (tgt := 30) C dX10_half_25 (by decide) (Decidable.of_not_not c9) ?_
        refine g_iconst (v := (-1)) C dX10_half_28 (by decide) ?_
        obtain ⟨rfl, rfl⟩ := os_e hf
        exact g_iret C rfl dX10_half_29
theorem c_X10_half (l : Launch) (dC : Nat → ClassId) (dI : Nat → Nat → Nat) (ad : Nat → Nat) (cy : Nat → ClassId) (x1 : Int32) (x2 : Int32) : ConI l yX10_half cX10_half 4 (some .int) rm_X10_half dC dI ad cy [.ref (ad 0), .int x1, .int x2] (fun σ => fX10_half σ x1 x2) := con_i (own := RX10) (by decide) rfl (Nat.le_of_ble_eq_true rfl) (fun _ _ _ _ _ _ _ _ σ _ _ C hf => fX10_half_ok C σ x1 x2 hf)
theorem cal_X10_half : CalV yX10_half RX10 cX10_half 4 (some .int) 2 := ⟨hI_X10_half, hS_X10_half, hIni_X10, hC_X10_half, by decide +kernel⟩
abbrev rm_X10_feud : Room := { frames := 1, cells := 0, slots := 0, locals := 23 }
def fX10_feud_b46  (σ : S0) (x1 : Int32) (x2 : Int32) (x3 : Int32) (t0 : Int32) : Option (Int32 × S0) := obp (fX1_setFoes σ 32 x1 x2 x3) (fun r1 σ2 => some (t0, σ2))
set_option maxHeartbeats 1000000 in
set_option maxRecDepth 100000 in
theorem fX10_feud_b46_ok {p : Program} {l : Launch} {e : Env} {s : State} {m : MethodId} {args : Array Value} {below : List Frame} {meth : Method} {c : Code} {dC : Nat → ClassId} {dI : Nat → Nat → Nat} {ad : Nat → Nat} {cy : Nat → ClassId} {sz : Nat} (C : Cx p s m args meth c RX10 cX10_feud 5 (some .int) dC dI ad cy sz) {rr : Int32} {ρ : S0}  (σ : S0) (x1 : Int32) (x2 : Int32) (x3 : Int32) (t0 : Int32)  (hf : fX10_feud_b46 σ x1 x2 x3 t0 = some (rr, ρ)) : Gw p l e rm_X10_feud s m args below meth c (MQ below (QcI dC dI ad cy sz rr ρ) args s 0 0 (AW ad sz)) dC dI ad cy 5 sz 0 0 46 [(0, .ref (ad 0)), (1, .int x1), (2, .int x2), (3, .int x3)] [.int t0] σ := by
  unfold fX10_feud_b46 at hf
  refine g_istore (lv2 := [(0, .ref (ad 0)), (1, .int x1), (2, .int x2), (3, .int x3), (4, .int t0)]) C dX10_feud_46 (by decide) [1, 2, 3, 4, 0] rfl ?_
  refine g_aload_n C dX10_feud_48 rfl 0 rfl ?_
  refine g_get C (a_0 ad cy _) rfl hin_X10 3 (by decide) hF_X10_36 rfl rfl dX10_feud_49 ?_
  refine g_iload_n C dX10_feud_52 rfl 1 rfl ?_
  refine g_iload_n C dX10_feud_53 rfl 2 rfl ?_
  refine g_iload_n C dX10_feud_54 rfl 3 rfl ?_
  obtain ⟨r1, σ2, h3, hf⟩ := obp_e hf
  refine g_callVv (As := [.int x1, .int x2, .int x3]) (rest := []) C (a_32 ad cy _) rfl (c_X1_setFoes l dC dI ad cy 32 k_isChimes_32 x1 x2 x3) h3 hM_X10_175 cal_X1_setFoes ⟨Nat.zero_le _, Nat.zero_le _⟩ ⟨rfl, rfl⟩ ⟨Nat.le_of_ble_eq_true rfl, Nat.le_of_ble_eq_true rfl⟩ rfl rfl (Nat.le_of_ble_eq_true rfl) dX10_feud_55 ?_
  refine g_iload C dX10_feud_58 4 rfl ?_
  obtain ⟨rfl, rfl⟩ := os_e hf
  exact g_iret C rfl dX10_feud_60
def fX10_feud (σ : S0) (x1 : Int32) (x2 : Int32) (x3 : Int32) : Option (Int32 × S0) := obp (fX9_hasHouse σ 22 x1) (fun r1 σ2 => if r1 = 0 then (some ((-1), σ2)) else (obp (fX9_hasHouse σ2 22 x2) (fun r5 σ6 => if r5 = 0 then (some ((-1), σ6)) else (if ¬ x1 = x2 then (obp (fX1_areFoes σ6 32 x1 x2) (fun r10 σ11 => if r10 = 0 then (fX10_feud_b46 σ11 x1 x2 x3 0) else (fX10_feud_b46 σ11 x1 x2 x3 1))) else (some ((-1), σ6))))))
set_option maxHeartbeats 1000000 in
set_option maxRecDepth 100000 in
theorem fX10_feud_ok {p : Program} {l : Launch} {e : Env} {s : State} {m : MethodId} {args : Array Value} {below : List Frame} {meth : Method} {c : Code} {dC : Nat → ClassId} {dI : Nat → Nat → Nat} {ad : Nat → Nat} {cy : Nat → ClassId} {sz : Nat} (C : Cx p s m args meth c RX10 cX10_feud 5 (some .int) dC dI ad cy sz) {rr : Int32} {ρ : S0} (σ : S0) (x1 : Int32) (x2 : Int32) (x3 : Int32)  (hf : fX10_feud σ x1 x2 x3 = some (rr, ρ)) : Gw p l e rm_X10_feud s m args below meth c (MQ below (QcI dC dI ad cy sz rr ρ) args s 0 0 (AW ad sz)) dC dI ad cy 5 sz 0 0 0 [(0, .ref (ad 0)), (1, .int x1), (2, .int x2), (3, .int x3)] [] σ := by
  unfold fX10_feud at hf
  refine g_aload_n C dX10_feud_0 rfl 0 rfl ?_
  refine g_get C (a_0 ad cy _) rfl hin_X10 2 (by decide) hF_X10_28 rfl rfl dX10_feud_1 ?_
  refine g_iload_n C dX10_feud_4 rfl 1 rfl ?_
  obtain ⟨r1, σ2, h3, hf⟩ := obp_e hf
  refine g_callVi (As := [.int x1]) (rest := []) C (a_22 ad cy _) rfl (c_X9_hasHouse l dC dI ad cy 22 k_isTown_22 x1) h3 hM_X10_163 cal_X9_hasHouse ⟨Nat.zero_le _, Nat.zero_le _⟩ ⟨rfl, rfl⟩ ⟨Nat.le_of_ble_eq_true rfl, Nat.le_of_ble_eq_true rfl⟩ rfl rfl (Nat.le_of_ble_eq_true rfl) dX10_feud_5 ?_
  rcases oi_e hf with ⟨c4, hf⟩ | ⟨c4, hf⟩
  · refine g_if_eq_t (tgt := 27) C dX10_feud_8 (by decide) c4 ?_
    refine g_iconst (v := (-1)) C dX10_feud_27 (by decide) ?_
    obtain ⟨rfl, rfl⟩ := os_e hf
    exact g_iret C rfl dX10_feud_28
  · refine g_if_eq_f (tgt := 27) C dX10_feud_8 (by decide) c4 ?_
    refine g_aload_n C dX10_feud_11 rfl 0 rfl ?_
    refine g_get C (a_0 ad cy _) rfl hin_X10 2 (by decide) hF_X10_28 rfl rfl dX10_feud_12 ?_
    refine g_iload_n C dX10_feud_15 rfl 2 rfl ?_
    obtain ⟨r5, σ6, h7, hf⟩ := obp_e hf
    refine g_callVi (As := [.int x2]) (rest := []) C (a_22 ad cy _) rfl (c_X9_hasHouse l dC dI ad cy 22 k_isTown_22 x2) h7 hM_X10_163 cal_X9_hasHouse ⟨Nat.zero_le _, Nat.zero_le _⟩ ⟨rfl, rfl⟩ ⟨Nat.le_of_ble_eq_true rfl, Nat.le_of_ble_eq_true rfl⟩ rfl rfl (Nat.le_of_ble_eq_true rfl) dX10_feud_16 ?_
    rcases oi_e hf with ⟨c8, hf⟩ | ⟨c8, hf⟩
    · refine g_if_eq_t (tgt := 27) C dX10_feud_19 (by decide) c8 ?_
      refine g_iconst (v := (-1)) C dX10_feud_27 (by decide) ?_
      obtain ⟨rfl, rfl⟩ := os_e hf
      exact g_iret C rfl dX10_feud_28
    · refine g_if_eq_f (tgt := 27) C dX10_feud_19 (by decide) c8 ?_
      refine g_iload_n C dX10_feud_22 rfl 1 rfl ?_
      refine g_iload_n C dX10_feud_23 rfl 2 rfl ?_
      rcases oi_e hf with ⟨c9, hf⟩ | ⟨c9, hf⟩
      · refine g_icmp_ne_t (tgt := 29) C dX10_feud_24 (by decide) c9 ?_
        refine g_aload_n C dX10_feud_29 rfl 0 rfl ?_
        refine g_get C (a_0 ad cy _) rfl hin_X10 3 (by decide) hF_X10_36 rfl rfl dX10_feud_30 ?_
        refine g_iload_n C dX10_feud_33 rfl 1 rfl ?_
        refine g_iload_n C dX10_feud_34 rfl 2 rfl ?_
        obtain ⟨r10, σ11, h12, hf⟩ := obp_e hf
        refine g_callVi (As := [.int x1, .int x2]) (rest := []) C (a_32 ad cy _) rfl (c_X1_areFoes l dC dI ad cy 32 k_isChimes_32 x1 x2) h12 hM_X10_172 cal_X1_areFoes ⟨Nat.zero_le _, Nat.zero_le _⟩ ⟨rfl, rfl⟩ ⟨Nat.le_of_ble_eq_true rfl, Nat.le_of_ble_eq_true rfl⟩ rfl rfl (Nat.le_of_ble_eq_true rfl) dX10_feud_35 ?_
        rcases oi_e hf with ⟨c13, hf⟩ | ⟨c13, hf⟩
        · refine g_if_eq_t (tgt := 45) C dX10_feud_38 (by decide) c13 ?_
          refine g_iconst (v := 0) C dX10_feud_45 (by decide) ?_
          exact g_sub [0, 1, 2, 3] rfl (fX10_feud_b46_ok C σ11 x1 x2 x3 0 hf)
        · refine g_if_eq_f (tgt := 45) C dX10_feud_38 (by decide) c13 ?_
          refine g_iconst (v := 1) C dX10_feud_41 (by decide) ?_
          refine g_goto (tgt := 46) C dX10_feud_42 (by decide) ?_
          exact g_sub [0, 1, 2, 3] rfl (fX10_feud_b46_ok C σ11 x1 x2 x3 1 hf)
      · refine g_icmp_ne_f (tgt := 29) C dX10_feud_24 (by decide) (Decidable.of_not_not c9) ?_
        refine g_iconst (v := (-1)) C dX10_feud_27 (by decide) ?_
        obtain ⟨rfl, rfl⟩ := os_e hf
        exact g_iret C rfl dX10_feud_28
theorem c_X10_feud (l : Launch) (dC : Nat → ClassId) (dI : Nat → Nat → Nat) (ad : Nat → Nat) (cy : Nat → ClassId) (x1 : Int32) (x2 : Int32) (x3 : Int32) : ConI l yX10_feud cX10_feud 5 (some .int) rm_X10_feud dC dI ad cy [.ref (ad 0), .int x1, .int x2, .int x3] (fun σ => fX10_feud σ x1 x2 x3) := con_i (own := RX10) (by decide) rfl (Nat.le_of_ble_eq_true rfl) (fun _ _ _ _ _ _ _ _ σ _ _ C hf => fX10_feud_ok C σ x1 x2 x3 hf)
theorem cal_X10_feud : CalV yX10_feud RX10 cX10_feud 5 (some .int) 3 := ⟨hI_X10_feud, hS_X10_feud, hIni_X10, hC_X10_feud, by decide +kernel⟩
end
section
abbrev rm_X10_feuding : Room := { frames := 1, cells := 0, slots := 0, locals := 23 }
def fX10_feuding_b82 (sf_7 : S0 → Int32 → Int32 → Int32 → Option (Int32 × S0)) (sf_22 : S0 → Int32 → Int32 → Int32 → Int32 → Option (Int32 × S0)) (σ : S0) (x2 : Int32) (x4 : Int32) (x5 : Int32) (t0 : Int32) (t1 : Int32) : Option (Int32 × S0) := ol (t1 + t0) (fun v1 => ol (x5 + 1) (fun v2 => sf_22 σ x2 v1 x4 v2))
set_option maxHeartbeats 1000000 in
set_option maxRecDepth 100000 in
theorem fX10_feuding_b82_ok {p : Program} {l : Launch} {e : Env} {s : State} {m : MethodId} {args : Array Value} {below : List Frame} {meth : Method} {c : Code} {dC : Nat → ClassId} {dI : Nat → Nat → Nat} {ad : Nat → Nat} {cy : Nat → ClassId} {sz : Nat} (C : Cx p s m args meth c RX10 cX10_feuding 7 (some .int) dC dI ad cy sz) {rr : Int32} {ρ : S0} (sf_7 : S0 → Int32 → Int32 → Int32 → Option (Int32 × S0)) (hs_7 : ∀ (σ : S0) (x2 : Int32) (x3 : Int32) (x4 : Int32) , sf_7 σ x2 x3 x4 = some (rr, ρ) → Gw p l e rm_X10_feuding s m args below meth c (MQ below (QcI dC dI ad cy sz rr ρ) args s 0 0 (AW ad sz)) dC dI ad cy 7 sz 0 0 7 [(0, .ref (ad 0)), (2, .int x2), (3, .int x3), (4, .int x4)] [] σ) (sf_22 : S0 → Int32 → Int32 → Int32 → Int32 → Option (Int32 × S0)) (hs_22 : ∀ (σ : S0) (x2 : Int32) (x3 : Int32) (x4 : Int32) (x5 : Int32) , sf_22 σ x2 x3 x4 x5 = some (rr, ρ) → Gw p l e rm_X10_feuding s m args below meth c (MQ below (QcI dC dI ad cy sz rr ρ) args s 0 0 (AW ad sz)) dC dI ad cy 7 sz 0 0 22 [(0, .ref (ad 0)), (2, .int x2), (3, .int x3), (4, .int x4), (5, .int x5)] [] σ) (σ : S0) (x2 : Int32) (x4 : Int32) (x5 : Int32) (t0 : Int32) (t1 : Int32)  (hf : fX10_feuding_b82 sf_7 sf_22 σ x2 x4 x5 t0 t1 = some (rr, ρ)) : Gw p l e rm_X10_feuding s m args below meth c (MQ below (QcI dC dI ad cy sz rr ρ) args s 0 0 (AW ad sz)) dC dI ad cy 7 sz 0 0 82 [(0, .ref (ad 0)), (2, .int x2), (4, .int x4), (5, .int x5)] [.int t0, .int t1] σ := by
  unfold fX10_feuding_b82 at hf
  refine g_iadd C dX10_feuding_82 ?_
  obtain ⟨v1, ev1, hf⟩ := ol_e hf
  refine g_nm ev1 ?_
  refine g_istore_n (lv2 := [(0, .ref (ad 0)), (2, .int x2), (3, .int v1), (4, .int x4), (5, .int x5)]) C dX10_feuding_83 rfl (by decide) [1, 2, 0, 3, 4] rfl ?_
  obtain ⟨v2, ev2, hf⟩ := ol_e hf
  refine g_iinc (j := 4) (w := 1) (lv2 := [(0, .ref (ad 0)), (2, .int x2), (3, .int v1), (4, .int x4), (5, .int v2)]) C dX10_feuding_84 rfl (by decide) ev2 (by decide) [1, 2, 3, 4, 0] rfl ?_
  refine g_goto (tgt := 22) C dX10_feuding_87 (by decide) ?_
  exact g_sub [0, 1, 2, 3, 4] rfl (hs_22 σ x2 v1 x4 v2 hf)
def fX10_feuding_b56 (sf_7 : S0 → Int32 → Int32 → Int32 → Option (Int32 × S0)) (sf_22 : S0 → Int32 → Int32 → Int32 → Int32 → Option (Int32 × S0)) (σ : S0) (x2 : Int32) (x3 : Int32) (x4 : Int32) (x5 : Int32) (t0 : Int32) : Option (Int32 × S0) := obp (fX1_setFoes σ 32 x4 x5 t0) (fun r1 σ2 => if t0 = 0 then (fX10_feuding_b82 sf_7 sf_22 σ2 x2 x4 x5 0 x3) else (fX10_feuding_b82 sf_7 sf_22 σ2 x2 x4 x5 1 x3))
set_option maxHeartbeats 1000000 in
set_option maxRecDepth 100000 in
theorem fX10_feuding_b56_ok {p : Program} {l : Launch} {e : Env} {s : State} {m : MethodId} {args : Array Value} {below : List Frame} {meth : Method} {c : Code} {dC : Nat → ClassId} {dI : Nat → Nat → Nat} {ad : Nat → Nat} {cy : Nat → ClassId} {sz : Nat} (C : Cx p s m args meth c RX10 cX10_feuding 7 (some .int) dC dI ad cy sz) {rr : Int32} {ρ : S0} (sf_7 : S0 → Int32 → Int32 → Int32 → Option (Int32 × S0)) (hs_7 : ∀ (σ : S0) (x2 : Int32) (x3 : Int32) (x4 : Int32) , sf_7 σ x2 x3 x4 = some (rr, ρ) → Gw p l e rm_X10_feuding s m args below meth c (MQ below (QcI dC dI ad cy sz rr ρ) args s 0 0 (AW ad sz)) dC dI ad cy 7 sz 0 0 7 [(0, .ref (ad 0)), (2, .int x2), (3, .int x3), (4, .int x4)] [] σ) (sf_22 : S0 → Int32 → Int32 → Int32 → Int32 → Option (Int32 × S0)) (hs_22 : ∀ (σ : S0) (x2 : Int32) (x3 : Int32) (x4 : Int32) (x5 : Int32) , sf_22 σ x2 x3 x4 x5 = some (rr, ρ) → Gw p l e rm_X10_feuding s m args below meth c (MQ below (QcI dC dI ad cy sz rr ρ) args s 0 0 (AW ad sz)) dC dI ad cy 7 sz 0 0 22 [(0, .ref (ad 0)), (2, .int x2), (3, .int x3), (4, .int x4), (5, .int x5)] [] σ) (σ : S0) (x2 : Int32) (x3 : Int32) (x4 : Int32) (x5 : Int32) (t0 : Int32)  (hf : fX10_feuding_b56 sf_7 sf_22 σ x2 x3 x4 x5 t0 = some (rr, ρ)) : Gw p l e rm_X10_feuding s m args below meth c (MQ below (QcI dC dI ad cy sz rr ρ) args s 0 0 (AW ad sz)) dC dI ad cy 7 sz 0 0 56 [(0, .ref (ad 0)), (2, .int x2), (3, .int x3), (4, .int x4), (5, .int x5)] [.int t0] σ := by
  unfold fX10_feuding_b56 at hf
  refine g_istore (lv2 := [(0, .ref (ad 0)), (2, .int x2), (3, .int x3), (4, .int x4), (5, .int x5), (6, .int t0)]) C dX10_feuding_56 (by decide) [1, 2, 3, 4, 5, 0] rfl ?_
  refine g_aload_n C dX10_feuding_58 rfl 0 rfl ?_
  refine g_get C (a_0 ad cy _) rfl hin_X10 3 (by decide) hF_X10_36 rfl rfl dX10_feuding_59 ?_
  refine g_iload C dX10_feuding_62 3 rfl ?_
  refine g_iload C dX10_feuding_64 4 rfl ?_
  refine g_iload C dX10_feuding_66 5 rfl ?_
  obtain ⟨r1, σ2, h3, hf⟩ := obp_e hf
  refine g_callVv (As := [.int x4, .int x5, .int t0]) (rest := []) C (a_32 ad cy _) rfl (c_X1_setFoes l dC dI ad cy 32 k_isChimes_32 x4 x5 t0) h3 hM_X10_175 cal_X1_setFoes ⟨Nat.zero_le _, Nat.zero_le _⟩ ⟨rfl, rfl⟩ ⟨Nat.le_of_ble_eq_true rfl, Nat.le_of_ble_eq_true rfl⟩ rfl rfl (Nat.le_of_ble_eq_true rfl) dX10_feuding_68 ?_
  refine g_iload_n C dX10_feuding_71 rfl 2 rfl ?_
  refine g_iload C dX10_feuding_72 5 rfl ?_
  rcases oi_e hf with ⟨c4, hf⟩ | ⟨c4, hf⟩
  · refine g_if_eq_t (tgt := 81) C dX10_feuding_74 (by decide) c4 ?_
    refine g_iconst (v := 0) C dX10_feuding_81 (by decide) ?_
    exact g_sub [0, 1, 3, 4] rfl (fX10_feuding_b82_ok C sf_7 hs_7 sf_22 hs_22 σ2 x2 x4 x5 0 x3 hf)
  · refine g_if_eq_f (tgt := 81) C dX10_feuding_74 (by decide) c4 ?_
    refine g_iconst (v := 1) C dX10_feuding_77 (by decide) ?_
    refine g_goto (tgt := 82) C dX10_feuding_78 (by decide) ?_
    exact g_sub [0, 1, 3, 4] rfl (fX10_feuding_b82_ok C sf_7 hs_7 sf_22 hs_22 σ2 x2 x4 x5 1 x3 hf)
def fX10_feuding_b22 (sf_7 : S0 → Int32 → Int32 → Int32 → Option (Int32 × S0)) (sf_22 : S0 → Int32 → Int32 → Int32 → Int32 → Option (Int32 × S0)) (σ : S0) (x2 : Int32) (x3 : Int32) (x4 : Int32) (x5 : Int32) : Option (Int32 × S0) := if x4 ≤ x5 then (ol (x4 + 1) (fun v2 => sf_7 σ x2 x3 v2)) else (ol ((x2 * 1103515245) + 12345) (fun v3 => og (¬ ((4 : Int32)) = 0) (ol ((((v3.toUInt32 >>> ((16 : Int32).toUInt32 &&& Int32.toUInt32 31)).toInt32) &&& 32767) - (((v3.toUInt32 >>> ((16 : Int32).toUInt32 &&& Int32.toUInt32 31)).toInt32) &&& 32767) / 4 * 4) (fun v5 => if ¬ v5 = 0 then (fX10_feuding_b56 sf_7 sf_22 σ v3 x3 x4 x5 0) else (fX10_feuding_b56 sf_7 sf_22 σ v3 x3 x4 x5 1)))))
set_option maxHeartbeats 1000000 in
set_option maxRecDepth 100000 in
theorem fX10_feuding_b22_ok {p : Program} {l : Launch} {e : Env} {s : State} {m : MethodId} {args : Array Value} {below : List Frame} {meth : Method} {c : Code} {dC : Nat → ClassId} {dI : Nat → Nat → Nat} {ad : Nat → Nat} {cy : Nat → ClassId} {sz : Nat} (C : Cx p s m args meth c RX10 cX10_feuding 7 (some .int) dC dI ad cy sz) {rr : Int32} {ρ : S0} (sf_7 : S0 → Int32 → Int32 → Int32 → Option (Int32 × S0)) (hs_7 : ∀ (σ : S0) (x2 : Int32) (x3 : Int32) (x4 : Int32) , sf_7 σ x2 x3 x4 = some (rr, ρ) → Gw p l e rm_X10_feuding s m args below meth c (MQ below (QcI dC dI ad cy sz rr ρ) args s 0 0 (AW ad sz)) dC dI ad cy 7 sz 0 0 7 [(0, .ref (ad 0)), (2, .int x2), (3, .int x3), (4, .int x4)] [] σ) (sf_22 : S0 → Int32 → Int32 → Int32 → Int32 → Option (Int32 × S0)) (hs_22 : ∀ (σ : S0) (x2 : Int32) (x3 : Int32) (x4 : Int32) (x5 : Int32) , sf_22 σ x2 x3 x4 x5 = some (rr, ρ) → Gw p l e rm_X10_feuding s m args below meth c (MQ below (QcI dC dI ad cy sz rr ρ) args s 0 0 (AW ad sz)) dC dI ad cy 7 sz 0 0 22 [(0, .ref (ad 0)), (2, .int x2), (3, .int x3), (4, .int x4), (5, .int x5)] [] σ) (σ : S0) (x2 : Int32) (x3 : Int32) (x4 : Int32) (x5 : Int32)  (hf : fX10_feuding_b22 sf_7 sf_22 σ x2 x3 x4 x5 = some (rr, ρ)) : Gw p l e rm_X10_feuding s m args below meth c (MQ below (QcI dC dI ad cy sz rr ρ) args s 0 0 (AW ad sz)) dC dI ad cy 7 sz 0 0 22 [(0, .ref (ad 0)), (2, .int x2), (3, .int x3), (4, .int x4), (5, .int x5)] [] σ := by
  unfold fX10_feuding_b22 at hf
  refine g_iload C dX10_feuding_22 4 rfl ?_
  refine g_iload C dX10_feuding_24 3 rfl ?_
  rcases oi_e hf with ⟨c1, hf⟩ | ⟨c1, hf⟩
  · refine g_icmp_ge_t (tgt := 90) C dX10_feuding_26 (by decide) c1 ?_
    obtain ⟨v2, ev2, hf⟩ := ol_e hf
    refine g_iinc (j := 3) (w := 1) (lv2 := [(0, .ref (ad 0)), (2, .int x2), (3, .int x3), (4, .int v2), (5, .int x5)]) C dX10_feuding_90 rfl (by decide) ev2 (by decide) [1, 2, 3, 0, 4] rfl ?_
    refine g_goto (tgt := 7) C dX10_feuding_93 (by decide) ?_
    exact g_sub [0, 1, 2, 3] rfl (hs_7 σ x2 x3 v2 hf)
  · refine g_icmp_ge_f (tgt := 90) C dX10_feuding_26 (by decide) c1 ?_
    refine g_iload_n C dX10_feuding_29 rfl 1 rfl ?_
    refine g_ldc (v := 1103515245) C dX10_feuding_30 hK_X10_179 ?_
    refine g_imul C dX10_feuding_32 ?_
    refine g_sipush (v := 12345) C dX10_feuding_33 (by decide) ?_
    refine g_iadd C dX10_feuding_36 ?_
    obtain ⟨v3, ev3, hf⟩ := ol_e hf
    refine g_nm ev3 ?_
    refine g_istore_n (lv2 := [(0, .ref (ad 0)), (2, .int v3), (3, .int x3), (4, .int x4), (5, .int x5)]) C dX10_feuding_37 rfl (by decide) [1, 0, 2, 3, 4] rfl ?_
    refine g_iload_n C dX10_feuding_38 rfl 1 rfl ?_
    refine g_bipush (v := 16) C dX10_feuding_39 (by decide) ?_
    refine g_iushr C dX10_feuding_41 ?_
    refine g_sipush (v := 32767) C dX10_feuding_42 (by decide) ?_
    refine g_iand C dX10_feuding_45 ?_
    refine g_iconst (v := 4) C dX10_feuding_46 (by decide) ?_
    obtain ⟨h4, hf⟩ := og_e hf
    refine g_irem C dX10_feuding_47 h4 ?_
    obtain ⟨v5, ev5, hf⟩ := ol_e hf
    refine g_nm ev5 ?_
    rcases oi_e hf with ⟨c6, hf⟩ | ⟨c6, hf⟩
    · refine g_if_ne_t (tgt := 55) C dX10_feuding_48 (by decide) c6 ?_
      refine g_iconst (v := 0) C dX10_feuding_55 (by decide) ?_
      exact g_sub [0, 1, 2, 3, 4] rfl (fX10_feuding_b56_ok C sf_7 hs_7 sf_22 hs_22 σ v3 x3 x4 x5 0 hf)
    · refine g_if_ne_f (tgt := 55) C dX10_feuding_48 (by decide) (Decidable.of_not_not c6) ?_
      refine g_iconst (v := 1) C dX10_feuding_51 (by decide) ?_
      refine g_goto (tgt := 56) C dX10_feuding_52 (by decide) ?_
      exact g_sub [0, 1, 2, 3, 4] rfl (fX10_feuding_b56_ok C sf_7 hs_7 sf_22 hs_22 σ v3 x3 x4 x5 1 hf)
def fX10_feuding_h22 (sf_7 : S0 → Int32 → Int32 → Int32 → Option (Int32 × S0)) : Nat → S0 → Int32 → Int32 → Int32 → Int32 → Option (Int32 × S0)
  | 0 => fun _ _ _ _ _ => none
  | n + 1 => fun σ x2 x3 x4 x5 => fX10_feuding_b22 sf_7 (fX10_feuding_h22 sf_7 n) σ x2 x3 x4 x5
set_option maxHeartbeats 1000000 in
set_option maxRecDepth 100000 in
theorem fX10_feuding_h22_ok {p : Program} {l : Launch} {e : Env} {s : State} {m : MethodId} {args : Array Value} {below : List Frame} {meth : Method} {c : Code} {dC : Nat → ClassId} {dI : Nat → Nat → Nat} {ad : Nat → Nat} {cy : Nat → ClassId} {sz : Nat} (C : Cx p s m args meth c RX10 cX10_feuding 7 (some .int) dC dI ad cy sz) {rr : Int32} {ρ : S0} (sf_7 : S0 → Int32 → Int32 → Int32 → Option (Int32 × S0)) (hs_7 : ∀ (σ : S0) (x2 : Int32) (x3 : Int32) (x4 : Int32) , sf_7 σ x2 x3 x4 = some (rr, ρ) → Gw p l e rm_X10_feuding s m args below meth c (MQ below (QcI dC dI ad cy sz rr ρ) args s 0 0 (AW ad sz)) dC dI ad cy 7 sz 0 0 7 [(0, .ref (ad 0)), (2, .int x2), (3, .int x3), (4, .int x4)] [] σ) : ∀ (n : Nat) (σ : S0) (x2 : Int32) (x3 : Int32) (x4 : Int32) (x5 : Int32)  (_hf : fX10_feuding_h22 sf_7 n σ x2 x3 x4 x5 = some (rr, ρ)), Gw p l e rm_X10_feuding s m args below meth c (MQ below (QcI dC dI ad cy sz rr ρ) args s 0 0 (AW ad sz)) dC dI ad cy 7 sz 0 0 22 [(0, .ref (ad 0)), (2, .int x2), (3, .int x3), (4, .int x4), (5, .int x5)] [] σ
  | 0, _, _, _, _, _, hf => by cases hf
  | n + 1, σ, x2, x3, x4, x5, hf => fX10_feuding_b22_ok C sf_7 hs_7 (fX10_feuding_h22 sf_7 n) (fX10_feuding_h22_ok C sf_7 hs_7 n) σ x2 x3 x4 x5 hf
def fX10_feuding_b7 (sf_7 : S0 → Int32 → Int32 → Int32 → Option (Int32 × S0)) (σ : S0) (x2 : Int32) (x3 : Int32) (x4 : Int32) : Option (Int32 × S0) := if (σ 22 0) ≤ x4 then (some (x3, σ)) else (fX10_feuding_h22 sf_7 400 σ x2 x3 x4 0)
set_option maxHeartbeats 1000000 in
set_option maxRecDepth 100000 in
theorem fX10_feuding_b7_ok {p : Program} {l : Launch} {e : Env} {s : State} {m : MethodId} {args : Array Value} {below : List Frame} {meth : Method} {c : Code} {dC : Nat → ClassId} {dI : Nat → Nat → Nat} {ad : Nat → Nat} {cy : Nat → ClassId} {sz : Nat} (C : Cx p s m args meth c RX10 cX10_feuding 7 (some .int) dC dI ad cy sz) {rr : Int32} {ρ : S0} (sf_7 : S0 → Int32 → Int32 → Int32 → Option (Int32 × S0)) (hs_7 : ∀ (σ : S0) (x2 : Int32) (x3 : Int32) (x4 : Int32) , sf_7 σ x2 x3 x4 = some (rr, ρ) → Gw p l e rm_X10_feuding s m args below meth c (MQ below (QcI dC dI ad cy sz rr ρ) args s 0 0 (AW ad sz)) dC dI ad cy 7 sz 0 0 7 [(0, .ref (ad 0)), (2, .int x2), (3, .int x3), (4, .int x4)] [] σ) (σ : S0) (x2 : Int32) (x3 : Int32) (x4 : Int32)  (hf : fX10_feuding_b7 sf_7 σ x2 x3 x4 = some (rr, ρ)) : Gw p l e rm_X10_feuding s m args below meth c (MQ below (QcI dC dI ad cy sz rr ρ) args s 0 0 (AW ad sz)) dC dI ad cy 7 sz 0 0 7 [(0, .ref (ad 0)), (2, .int x2), (3, .int x3), (4, .int x4)] [] σ := by
  unfold fX10_feuding_b7 at hf
  refine g_iload C dX10_feuding_7 3 rfl ?_
  refine g_aload_n C dX10_feuding_9 rfl 0 rfl ?_
  refine g_get C (a_0 ad cy _) rfl hin_X10 2 (by decide) hF_X10_28 rfl rfl dX10_feuding_10 ?_
  refine g_get C (a_22 ad cy _) rfl hin_X9 0 (by decide) hF_X10_121 rfl rfl dX10_feuding_13 ?_
  rcases oi_e hf with ⟨c1, hf⟩ | ⟨c1, hf⟩
  · refine g_icmp_ge_t (tgt := 96) C dX10_feuding_16 (by decide) c1 ?_
    refine g_iload_n C dX10_feuding_96 rfl 2 rfl ?_
    obtain ⟨rfl, rfl⟩ := os_e hf
    exact g_iret C rfl dX10_feuding_97
  · refine g_icmp_ge_f (tgt := 96) C dX10_feuding_16 (by decide) c1 ?_
    refine g_iconst (v := 0) C dX10_feuding_19 (by decide) ?_
    refine g_istore (lv2 := [(0, .ref (ad 0)), (2, .int x2), (3, .int x3), (4, .int x4), (5, .int 0)]) C dX10_feuding_20 (by decide) [1, 2, 3, 4, 0] rfl ?_
    exact g_sub [0, 1, 2, 3, 4] rfl (fX10_feuding_h22_ok C sf_7 hs_7 400 σ x2 x3 x4 0 hf)
def fX10_feuding_h7  : Nat → S0 → Int32 → Int32 → Int32 → Option (Int32 × S0)
  | 0 => fun _ _ _ _ => none
  | n + 1 => fun σ x2 x3 x4 => fX10_feuding_b7  (fX10_feuding_h7  n) σ x2 x3 x4
set_option maxHeartbeats 1000000 in
set_option maxRecDepth 100000 in
theorem fX10_feuding_h7_ok {p : Program} {l : Launch} {e : Env} {s : State} {m : MethodId} {args : Array Value} {below : List Frame} {meth : Method} {c : Code} {dC : Nat → ClassId} {dI : Nat → Nat → Nat} {ad : Nat → Nat} {cy : Nat → ClassId} {sz : Nat} (C : Cx p s m args meth c RX10 cX10_feuding 7 (some .int) dC dI ad cy sz) {rr : Int32} {ρ : S0}  : ∀ (n : Nat) (σ : S0) (x2 : Int32) (x3 : Int32) (x4 : Int32)  (_hf : fX10_feuding_h7  n σ x2 x3 x4 = some (rr, ρ)), Gw p l e rm_X10_feuding s m args below meth c (MQ below (QcI dC dI ad cy sz rr ρ) args s 0 0 (AW ad sz)) dC dI ad cy 7 sz 0 0 7 [(0, .ref (ad 0)), (2, .int x2), (3, .int x3), (4, .int x4)] [] σ
  | 0, _, _, _, _, hf => by cases hf
  | n + 1, σ, x2, x3, x4, hf => fX10_feuding_b7_ok C  (fX10_feuding_h7  n) (fX10_feuding_h7_ok C  n) σ x2 x3 x4 hf
def fX10_feuding (σ : S0) (x1 : Int32) : Option (Int32 × S0) := fX10_feuding_h7 400 σ x1 0 1
set_option maxHeartbeats 1000000 in
set_option maxRecDepth 100000 in
theorem fX10_feuding_ok {p : Program} {l : Launch} {e : Env} {s : State} {m : MethodId} {args : Array Value} {below : List Frame} {meth : Method} {c : Code} {dC : Nat → ClassId} {dI : Nat → Nat → Nat} {ad : Nat → Nat} {cy : Nat → ClassId} {sz : Nat} (C : Cx p s m args meth c RX10 cX10_feuding 7 (some .int) dC dI ad cy sz) {rr : Int32} {ρ : S0} (σ : S0) (x1 : Int32)  (hf : fX10_feuding σ x1 = some (rr, ρ)) : Gw p l e rm_X10_feuding s m args below meth c (MQ below (QcI dC dI ad cy sz rr ρ) args s 0 0 (AW ad sz)) dC dI ad cy 7 sz 0 0 0 [(0, .ref (ad 0)), (1, .int x1)] [] σ := by
  unfold fX10_feuding at hf
  refine g_iload_n C dX10_feuding_0 rfl 1 rfl ?_
  refine g_istore_n (lv2 := [(0, .ref (ad 0)), (1, .int x1), (2, .int x1)]) C dX10_feuding_1 rfl (by decide) [1, 2, 0] rfl ?_
  refine g_iconst (v := 0) C dX10_feuding_2 (by decide) ?_
  refine g_istore_n (lv2 := [(0, .ref (ad 0)), (1, .int x1), (2, .int x1), (3, .int 0)]) C dX10_feuding_3 rfl (by decide) [1, 2, 3, 0] rfl ?_
  refine g_iconst (v := 1) C dX10_feuding_4 (by decide) ?_
  refine g_istore (lv2 := [(0, .ref (ad 0)), (1, .int x1), (2, .int x1), (3, .int 0), (4, .int 1)]) C dX10_feuding_5 (by decide) [1, 2, 3, 4, 0] rfl ?_
  exact g_sub [0, 2, 3, 4] rfl (fX10_feuding_h7_ok C 400 σ x1 0 1 hf)
theorem c_X10_feuding (l : Launch) (dC : Nat → ClassId) (dI : Nat → Nat → Nat) (ad : Nat → Nat) (cy : Nat → ClassId) (x1 : Int32) : ConI l yX10_feuding cX10_feuding 7 (some .int) rm_X10_feuding dC dI ad cy [.ref (ad 0), .int x1] (fun σ => fX10_feuding σ x1) := con_i (own := RX10) (by decide) rfl (Nat.le_of_ble_eq_true rfl) (fun _ _ _ _ _ _ _ _ σ _ _ C hf => fX10_feuding_ok C σ x1 hf)
theorem cal_X10_feuding : CalV yX10_feuding RX10 cX10_feuding 7 (some .int) 1 := ⟨hI_X10_feuding, hS_X10_feuding, hIni_X10, hC_X10_feuding, by decide +kernel⟩
abbrev rm_X10_ring : Room := { frames := 1, cells := 0, slots := 0, locals := 26 }
def fX10_ring (σ : S0) (x1 : Int32) (x2 : Int32) : Option (Int32 × S0) := obp (fX9_hasTune σ 22 x1) (fun r1 σ2 => if ¬ r1 = 0 then (obp (fX6_play σ2 x1) (fun r5 σ6 => if x2.toInt < 0 ∨ 3 < x2.toInt then (some ((-1), σ6)) else if x2 = 0 then (some (σ6 40 2, σ6)) else if x2 = 1 then (some (σ6 40 4, σ6)) else if x2 = 2 then (some (σ6 40 3, σ6)) else if x2 = 3 then (some ((σ6 40 5) + 1000, σ6)) else none)) else (some ((-1), σ2)))
set_option maxHeartbeats 1000000 in
set_option maxRecDepth 100000 in
theorem fX10_ring_ok {p : Program} {l : Launch} {e : Env} {s : State} {m : MethodId} {args : Array Value} {below : List Frame} {meth : Method} {c : Code} {dC : Nat → ClassId} {dI : Nat → Nat → Nat} {ad : Nat → Nat} {cy : Nat → ClassId} {sz : Nat} (C : Cx p s m args meth c RX10 cX10_ring 3 (some .int) dC dI ad cy sz) {rr : Int32} {ρ : S0} (σ : S0) (x1 : Int32) (x2 : Int32)  (hf : fX10_ring σ x1 x2 = some (rr, ρ)) : Gw p l e rm_X10_ring s m args below meth c (MQ below (QcI dC dI ad cy sz rr ρ) args s 0 0 (AW ad sz)) dC dI ad cy 3 sz 0 0 0 [(0, .ref (ad 0)), (1, .int x1), (2, .int x2)] [] σ := by
  unfold fX10_ring at hf
  refine g_aload_n C dX10_ring_0 rfl 0 rfl ?_
  refine g_get C (a_0 ad cy _) rfl hin_X10 2 (by decide) hF_X10_28 rfl rfl dX10_ring_1 ?_
  refine g_iload_n C dX10_ring_4 rfl 1 rfl ?_
  obtain ⟨r1, σ2, h3, hf⟩ := obp_e hf
  refine g_callVi (As := [.int x1]) (rest := []) C (a_22 ad cy _) rfl (c_X9_hasTune l dC dI ad cy 22 k_isTown_22 x1) h3 hM_X10_147 cal_X9_hasTune ⟨Nat.zero_le _, Nat.zero_le _⟩ ⟨rfl, rfl⟩ ⟨Nat.le_of_ble_eq_true rfl, Nat.le_of_ble_eq_true rfl⟩ rfl rfl (Nat.le_of_ble_eq_true rfl) dX10_ring_5 ?_
  rcases oi_e hf with ⟨c4, hf⟩ | ⟨c4, hf⟩
  · refine g_if_ne_t (tgt := 13) C dX10_ring_8 (by decide) c4 ?_
    refine g_aload_n C dX10_ring_13 rfl 0 rfl ?_
    refine g_get C (a_0 ad cy _) rfl hin_X10 4 (by decide) hF_X10_42 rfl rfl dX10_ring_14 ?_
    refine g_iload_n C dX10_ring_17 rfl 1 rfl ?_
    obtain ⟨r5, σ6, h7, hf⟩ := obp_e hf
    refine g_callVv (As := [.int x1]) (rest := []) C (a_40 ad cy _) rfl (c_X6_play l dC dI ad cy x1) h7 hM_X10_180 cal_X6_play ⟨Nat.zero_le _, Nat.zero_le _⟩ ⟨rfl, rfl⟩ ⟨Nat.le_of_ble_eq_true rfl, Nat.le_of_ble_eq_true rfl⟩ rfl rfl (Nat.le_of_ble_eq_true rfl) dX10_ring_18 ?_
    refine g_iload_n C dX10_ring_21 rfl 2 rfl ?_
    rcases oi_e hf with ⟨c8, hf⟩ | ⟨c8, hf⟩
    · refine g_tout (tgt := 88) C dX10_ring_22 c8 (by decide) ?_
      refine g_iconst (v := (-1)) C dX10_ring_88 (by decide) ?_
      obtain ⟨rfl, rfl⟩ := os_e hf
      exact g_iret C rfl dX10_ring_89
    · skip
      rcases oi_e hf with ⟨c9, hf⟩ | ⟨c9, hf⟩
      · refine g_tin (tgt := 52) C dX10_ring_22 (by rw [c9]; decide) (by rw [c9]; decide) (by rw [c9]; rfl) (by decide) ?_
        refine g_aload_n C dX10_ring_52 rfl 0 rfl ?_
        refine g_get C (a_0 ad cy _) rfl hin_X10 4 (by decide) hF_X10_42 rfl rfl dX10_ring_53 ?_
        refine g_get C (a_40 ad cy _) rfl hin_X6 2 (by decide) hF_X10_184 rfl rfl dX10_ring_56 ?_
        obtain ⟨rfl, rfl⟩ := os_e hf
        exact g_iret C rfl dX10_ring_59
      · skip
        rcases oi_e hf with ⟨c10, hf⟩ | ⟨c10, hf⟩
        · refine g_tin (tgt := 60) C dX10_ring_22 (by rw [c10]; decide) (by rw [c10]; decide) (by rw [c10]; rfl) (by decide) ?_
          refine g_aload_n C dX10_ring_60 rfl 0 rfl ?_
          refine g_get C (a_0 ad cy _) rfl hin_X10 4 (by decide) hF_X10_42 rfl rfl dX10_ring_61 ?_
          refine g_get C (a_40 ad cy _) rfl hin_X6 4 (by decide) hF_X10_187 rfl rfl dX10_ring_64 ?_
          obtain ⟨rfl, rfl⟩ := os_e hf
          exact g_iret C rfl dX10_ring_67
        · skip
          rcases oi_e hf with ⟨c11, hf⟩ | ⟨c11, hf⟩
          · refine g_tin (tgt := 68) C dX10_ring_22 (by rw [c11]; decide) (by rw [c11]; decide) (by rw [c11]; rfl) (by decide) ?_
            refine g_aload_n C dX10_ring_68 rfl 0 rfl ?_
            refine g_get C (a_0 ad cy _) rfl hin_X10 4 (by decide) hF_X10_42 rfl rfl dX10_ring_69 ?_
            refine g_get C (a_40 ad cy _) rfl hin_X6 3 (by decide) hF_X10_190 rfl rfl dX10_ring_72 ?_
            obtain ⟨rfl, rfl⟩ := os_e hf
            exact g_iret C rfl dX10_ring_75
          · skip
            rcases oi_e hf with ⟨c12, hf⟩ | ⟨c12, hf⟩
            · refine g_tin (tgt := 76) C dX10_ring_22 (by rw [c12]; decide) (by rw [c12]; decide) (by rw [c12]; rfl) (by decide) ?_
              refine g_aload_n C dX10_ring_76 rfl 0 rfl ?_
              refine g_get C (a_0 ad cy _) rfl hin_X10 4 (by decide) hF_X10_42 rfl rfl dX10_ring_77 ?_
              refine g_get C (a_40 ad cy _) rfl hin_X6 5 (by decide) hF_X10_193 rfl rfl dX10_ring_80 ?_
              refine g_sipush (v := 1000) C dX10_ring_83 (by decide) ?_
              refine g_iadd C dX10_ring_86 ?_
              obtain ⟨rfl, rfl⟩ := os_e hf
              exact g_iret C rfl dX10_ring_87
            · skip
              cases hf
  · refine g_if_ne_f (tgt := 13) C dX10_ring_8 (by decide) (Decidable.of_not_not c4) ?_
    refine g_iconst (v := (-1)) C dX10_ring_11 (by decide) ?_
    obtain ⟨rfl, rfl⟩ := os_e hf
    exact g_iret C rfl dX10_ring_12
theorem c_X10_ring (l : Launch) (dC : Nat → ClassId) (dI : Nat → Nat → Nat) (ad : Nat → Nat) (cy : Nat → ClassId) (x1 : Int32) (x2 : Int32) : ConI l yX10_ring cX10_ring 3 (some .int) rm_X10_ring dC dI ad cy [.ref (ad 0), .int x1, .int x2] (fun σ => fX10_ring σ x1 x2) := con_i (own := RX10) (by decide) rfl (Nat.le_of_ble_eq_true rfl) (fun _ _ _ _ _ _ _ _ σ _ _ C hf => fX10_ring_ok C σ x1 x2 hf)
theorem cal_X10_ring : CalV yX10_ring RX10 cX10_ring 3 (some .int) 2 := ⟨hI_X10_ring, hS_X10_ring, hIni_X10, hC_X10_ring, by decide +kernel⟩
abbrev rm_X10_taken : Room := { frames := 2, cells := 0, slots := 0, locals := 49 }
def fX10_taken (σ : S0)  : Option (Int32 × S0) := obp (fX6_tuneTaken σ) (fun r1 σ2 => some (r1, σ2))
set_option maxHeartbeats 1000000 in
set_option maxRecDepth 100000 in
theorem fX10_taken_ok {p : Program} {l : Launch} {e : Env} {s : State} {m : MethodId} {args : Array Value} {below : List Frame} {meth : Method} {c : Code} {dC : Nat → ClassId} {dI : Nat → Nat → Nat} {ad : Nat → Nat} {cy : Nat → ClassId} {sz : Nat} (C : Cx p s m args meth c RX10 cX10_taken 1 (some .int) dC dI ad cy sz) {rr : Int32} {ρ : S0} (σ : S0)   (hf : fX10_taken σ = some (rr, ρ)) : Gw p l e rm_X10_taken s m args below meth c (MQ below (QcI dC dI ad cy sz rr ρ) args s 0 0 (AW ad sz)) dC dI ad cy 1 sz 0 0 0 [(0, .ref (ad 0))] [] σ := by
  unfold fX10_taken at hf
  refine g_aload_n C dX10_taken_0 rfl 0 rfl ?_
  refine g_get C (a_0 ad cy _) rfl hin_X10 4 (by decide) hF_X10_42 rfl rfl dX10_taken_1 ?_
  obtain ⟨r1, σ2, h3, hf⟩ := obp_e hf
  refine g_callVi (As := []) (rest := []) C (a_40 ad cy _) rfl (c_X6_tuneTaken l dC dI ad cy ) h3 hM_X10_196 cal_X6_tuneTaken ⟨Nat.zero_le _, Nat.zero_le _⟩ ⟨rfl, rfl⟩ ⟨Nat.le_of_ble_eq_true rfl, Nat.le_of_ble_eq_true rfl⟩ rfl rfl (Nat.le_of_ble_eq_true rfl) dX10_taken_4 ?_
  obtain ⟨rfl, rfl⟩ := os_e hf
  exact g_iret C rfl dX10_taken_7
theorem c_X10_taken (l : Launch) (dC : Nat → ClassId) (dI : Nat → Nat → Nat) (ad : Nat → Nat) (cy : Nat → ClassId)  : ConI l yX10_taken cX10_taken 1 (some .int) rm_X10_taken dC dI ad cy [.ref (ad 0)] (fun σ => fX10_taken σ) := con_i (own := RX10) (by decide) rfl (Nat.le_of_ble_eq_true rfl) (fun _ _ _ _ _ _ _ _ σ _ _ C hf => fX10_taken_ok C σ  hf)
theorem cal_X10_taken : CalV yX10_taken RX10 cX10_taken 1 (some .int) 0 := ⟨hI_X10_taken, hS_X10_taken, hIni_X10, hC_X10_taken, by decide +kernel⟩
abbrev rm_X10_gets : Room := { frames := 3, cells := 0, slots := 0, locals := 68 }
def fX10_gets (σ : S0) (x1 : Int32) (x2 : Int32) : Option (Int32 × S0) := obp (fX9_hasHouse σ 22 x1) (fun r1 σ2 => if r1 = 0 then (some ((-1), σ2)) else (obp (fX9_hasTune σ2 22 x2) (fun r5 σ6 => if r5 = 0 then (some ((-1), σ6)) else (obp (fX6_shareOf σ6 x1 x2) (fun r9 σ10 => some (r9, σ10))))))
set_option maxHeartbeats 1000000 in
set_option maxRecDepth 100000 in
theorem fX10_gets_ok {p : Program} {l : Launch} {e : Env} {s : State} {m : MethodId} {args : Array Value} {below : List Frame} {meth : Method} {c : Code} {dC : Nat → ClassId} {dI : Nat → Nat → Nat} {ad : Nat → Nat} {cy : Nat → ClassId} {sz : Nat} (C : Cx p s m args meth c RX10 cX10_gets 3 (some .int) dC dI ad cy sz) {rr : Int32} {ρ : S0} (σ : S0) (x1 : Int32) (x2 : Int32)  (hf : fX10_gets σ x1 x2 = some (rr, ρ)) : Gw p l e rm_X10_gets s m args below meth c (MQ below (QcI dC dI ad cy sz rr ρ) args s 0 0 (AW ad sz)) dC dI ad cy 3 sz 0 0 0 [(0, .ref (ad 0)), (1, .int x1), (2, .int x2)] [] σ := by
  unfold fX10_gets at hf
  refine g_aload_n C dX10_gets_0 rfl 0 rfl ?_
  refine g_get C (a_0 ad cy _) rfl hin_X10 2 (by decide) hF_X10_28 rfl rfl dX10_gets_1 ?_
  refine g_iload_n C dX10_gets_4 rfl 1 rfl ?_
  obtain ⟨r1, σ2, h3, hf⟩ := obp_e hf
  refine g_callVi (As := [.int x1]) (rest := []) C (a_22 ad cy _) rfl (c_X9_hasHouse l dC dI ad cy 22 k_isTown_22 x1) h3 hM_X10_163 cal_X9_hasHouse ⟨Nat.zero_le _, Nat.zero_le _⟩ ⟨rfl, rfl⟩ ⟨Nat.le_of_ble_eq_true rfl, Nat.le_of_ble_eq_true rfl⟩ rfl rfl (Nat.le_of_ble_eq_true rfl) dX10_gets_5 ?_
  rcases oi_e hf with ⟨c4, hf⟩ | ⟨c4, hf⟩
  · refine g_if_eq_t (tgt := 34) C dX10_gets_8 (by decide) c4 ?_
    refine g_iconst (v := (-1)) C dX10_gets_34 (by decide) ?_
    obtain ⟨rfl, rfl⟩ := os_e hf
    exact g_iret C rfl dX10_gets_35
  · refine g_if_eq_f (tgt := 34) C dX10_gets_8 (by decide) c4 ?_
    refine g_aload_n C dX10_gets_11 rfl 0 rfl ?_
    refine g_get C (a_0 ad cy _) rfl hin_X10 2 (by decide) hF_X10_28 rfl rfl dX10_gets_12 ?_
    refine g_iload_n C dX10_gets_15 rfl 2 rfl ?_
    obtain ⟨r5, σ6, h7, hf⟩ := obp_e hf
    refine g_callVi (As := [.int x2]) (rest := []) C (a_22 ad cy _) rfl (c_X9_hasTune l dC dI ad cy 22 k_isTown_22 x2) h7 hM_X10_147 cal_X9_hasTune ⟨Nat.zero_le _, Nat.zero_le _⟩ ⟨rfl, rfl⟩ ⟨Nat.le_of_ble_eq_true rfl, Nat.le_of_ble_eq_true rfl⟩ rfl rfl (Nat.le_of_ble_eq_true rfl) dX10_gets_16 ?_
    rcases oi_e hf with ⟨c8, hf⟩ | ⟨c8, hf⟩
    · refine g_if_eq_t (tgt := 34) C dX10_gets_19 (by decide) c8 ?_
      refine g_iconst (v := (-1)) C dX10_gets_34 (by decide) ?_
      obtain ⟨rfl, rfl⟩ := os_e hf
      exact g_iret C rfl dX10_gets_35
    · refine g_if_eq_f (tgt := 34) C dX10_gets_19 (by decide) c8 ?_
      refine g_aload_n C dX10_gets_22 rfl 0 rfl ?_
      refine g_get C (a_0 ad cy _) rfl hin_X10 4 (by decide) hF_X10_42 rfl rfl dX10_gets_23 ?_
      refine g_iload_n C dX10_gets_26 rfl 1 rfl ?_
      refine g_iload_n C dX10_gets_27 rfl 2 rfl ?_
      obtain ⟨r9, σ10, h11, hf⟩ := obp_e hf
      refine g_callVi (As := [.int x1, .int x2]) (rest := []) C (a_40 ad cy _) rfl (c_X6_shareOf l dC dI ad cy x1 x2) h11 hM_X10_200 cal_X6_shareOf ⟨Nat.zero_le _, Nat.zero_le _⟩ ⟨rfl, rfl⟩ ⟨Nat.le_of_ble_eq_true rfl, Nat.le_of_ble_eq_true rfl⟩ rfl rfl (Nat.le_of_ble_eq_true rfl) dX10_gets_28 ?_
      refine g_goto (tgt := 35) C dX10_gets_31 (by decide) ?_
      obtain ⟨rfl, rfl⟩ := os_e hf
      exact g_iret C rfl dX10_gets_35
theorem c_X10_gets (l : Launch) (dC : Nat → ClassId) (dI : Nat → Nat → Nat) (ad : Nat → Nat) (cy : Nat → ClassId) (x1 : Int32) (x2 : Int32) : ConI l yX10_gets cX10_gets 3 (some .int) rm_X10_gets dC dI ad cy [.ref (ad 0), .int x1, .int x2] (fun σ => fX10_gets σ x1 x2) := con_i (own := RX10) (by decide) rfl (Nat.le_of_ble_eq_true rfl) (fun _ _ _ _ _ _ _ _ σ _ _ C hf => fX10_gets_ok C σ x1 x2 hf)
theorem cal_X10_gets : CalV yX10_gets RX10 cX10_gets 3 (some .int) 2 := ⟨hI_X10_gets, hS_X10_gets, hIni_X10, hC_X10_gets, by decide +kernel⟩
abbrev rm_X10_wage : Room := { frames := 4, cells := 0, slots := 0, locals := 90 }
def fX10_wage (σ : S0) (x1 : Int32) : Option (Int32 × S0) := obp (fX9_hasHouse σ 22 x1) (fun r1 σ2 => if r1 = 0 then (some ((-1), σ2)) else (obp (fX6_wageOf σ2 x1) (fun r5 σ6 => some (r5, σ6))))
set_option maxHeartbeats 1000000 in
set_option maxRecDepth 100000 in
theorem fX10_wage_ok {p : Program} {l : Launch} {e : Env} {s : State} {m : MethodId} {args : Array Value} {below : List Frame} {meth : Method} {c : Code} {dC : Nat → ClassId} {dI : Nat → Nat → Nat} {ad : Nat → Nat} {cy : Nat → ClassId} {sz : Nat} (C : Cx p s m args meth c RX10 cX10_wage 2 (some .int) dC dI ad cy sz) {rr : Int32} {ρ : S0} (σ : S0) (x1 : Int32)  (hf : fX10_wage σ x1 = some (rr, ρ)) : Gw p l e rm_X10_wage s m args below meth c (MQ below (QcI dC dI ad cy sz rr ρ) args s 0 0 (AW ad sz)) dC dI ad cy 2 sz 0 0 0 [(0, .ref (ad 0)), (1, .int x1)] [] σ := by
  unfold fX10_wage at hf
  refine g_aload_n C dX10_wage_0 rfl 0 rfl ?_
  refine g_get C (a_0 ad cy _) rfl hin_X10 2 (by decide) hF_X10_28 rfl rfl dX10_wage_1 ?_
  refine g_iload_n C dX10_wage_4 rfl 1 rfl ?_
  obtain ⟨r1, σ2, h3, hf⟩ := obp_e hf
  refine g_callVi (As := [.int x1]) (rest := []) C (a_22 ad cy _) rfl (c_X9_hasHouse l dC dI ad cy 22 k_isTown_22 x1) h3 hM_X10_163 cal_X9_hasHouse ⟨Nat.zero_le _, Nat.zero_le _⟩ ⟨rfl, rfl⟩ ⟨Nat.le_of_ble_eq_true rfl, Nat.le_of_ble_eq_true rfl⟩ rfl rfl (Nat.le_of_ble_eq_true rfl) dX10_wage_5 ?_
  rcases oi_e hf with ⟨c4, hf⟩ | ⟨c4, hf⟩
  · refine g_if_eq_t (tgt := 22) C dX10_wage_8 (by decide) c4 ?_
    refine g_iconst (v := (-1)) C dX10_wage_22 (by decide) ?_
    obtain ⟨rfl, rfl⟩ := os_e hf
    exact g_iret C rfl dX10_wage_23
  · refine g_if_eq_f (tgt := 22) C dX10_wage_8 (by decide) c4 ?_
    refine g_aload_n C dX10_wage_11 rfl 0 rfl ?_
    refine g_get C (a_0 ad cy _) rfl hin_X10 4 (by decide) hF_X10_42 rfl rfl dX10_wage_12 ?_
    refine g_iload_n C dX10_wage_15 rfl 1 rfl ?_
    obtain ⟨r5, σ6, h7, hf⟩ := obp_e hf
    refine g_callVi (As := [.int x1]) (rest := []) C (a_40 ad cy _) rfl (c_X6_wageOf l dC dI ad cy x1) h7 hM_X10_204 cal_X6_wageOf ⟨Nat.zero_le _, Nat.zero_le _⟩ ⟨rfl, rfl⟩ ⟨Nat.le_of_ble_eq_true rfl, Nat.le_of_ble_eq_true rfl⟩ rfl rfl (Nat.le_of_ble_eq_true rfl) dX10_wage_16 ?_
    refine g_goto (tgt := 23) C dX10_wage_19 (by decide) ?_
    obtain ⟨rfl, rfl⟩ := os_e hf
    exact g_iret C rfl dX10_wage_23
theorem c_X10_wage (l : Launch) (dC : Nat → ClassId) (dI : Nat → Nat → Nat) (ad : Nat → Nat) (cy : Nat → ClassId) (x1 : Int32) : ConI l yX10_wage cX10_wage 2 (some .int) rm_X10_wage dC dI ad cy [.ref (ad 0), .int x1] (fun σ => fX10_wage σ x1) := con_i (own := RX10) (by decide) rfl (Nat.le_of_ble_eq_true rfl) (fun _ _ _ _ _ _ _ _ σ _ _ C hf => fX10_wage_ok C σ x1 hf)
theorem cal_X10_wage : CalV yX10_wage RX10 cX10_wage 2 (some .int) 1 := ⟨hI_X10_wage, hS_X10_wage, hIni_X10, hC_X10_wage, by decide +kernel⟩
abbrev rm_X10_ask : Room := { frames := 3, cells := 0, slots := 0, locals := 73 }
def fX10_ask (σ : S0) (x1 : Int32) (x2 : Int32) : Option (Int32 × S0) := obp (fX9_hasHouse σ 22 x1) (fun r1 σ2 => if r1 = 0 then (some ((-1), σ2)) else (obp (fX10_isFee σ2 x2) (fun r5 σ6 => if ¬ r5 = 0 then (obp (fX0_weigh σ6 x1) (fun r9 σ10 => obp (fX0_bringsAt σ10 x2) (fun r12 σ13 => some (r12, σ13)))) else (some ((-1), σ6)))))
set_option maxHeartbeats 1000000 in
set_option maxRecDepth 100000 in
theorem fX10_ask_ok {p : Program} {l : Launch} {e : Env} {s : State} {m : MethodId} {args : Array Value} {below : List Frame} {meth : Method} {c : Code} {dC : Nat → ClassId} {dI : Nat → Nat → Nat} {ad : Nat → Nat} {cy : Nat → ClassId} {sz : Nat} (C : Cx p s m args meth c RX10 cX10_ask 3 (some .int) dC dI ad cy sz) {rr : Int32} {ρ : S0} (σ : S0) (x1 : Int32) (x2 : Int32)  (hf : fX10_ask σ x1 x2 = some (rr, ρ)) : Gw p l e rm_X10_ask s m args below meth c (MQ below (QcI dC dI ad cy sz rr ρ) args s 0 0 (AW ad sz)) dC dI ad cy 3 sz 0 0 0 [(0, .ref (ad 0)), (1, .int x1), (2, .int x2)] [] σ := by
  unfold fX10_ask at hf
  refine g_aload_n C dX10_ask_0 rfl 0 rfl ?_
  refine g_get C (a_0 ad cy _) rfl hin_X10 2 (by decide) hF_X10_28 rfl rfl dX10_ask_1 ?_
  refine g_iload_n C dX10_ask_4 rfl 1 rfl ?_
  obtain ⟨r1, σ2, h3, hf⟩ := obp_e hf
  refine g_callVi (As := [.int x1]) (rest := []) C (a_22 ad cy _) rfl (c_X9_hasHouse l dC dI ad cy 22 k_isTown_22 x1) h3 hM_X10_163 cal_X9_hasHouse ⟨Nat.zero_le _, Nat.zero_le _⟩ ⟨rfl, rfl⟩ ⟨Nat.le_of_ble_eq_true rfl, Nat.le_of_ble_eq_true rfl⟩ rfl rfl (Nat.le_of_ble_eq_true rfl) dX10_ask_5 ?_
  rcases oi_e hf with ⟨c4, hf⟩ | ⟨c4, hf⟩
  · refine g_if_eq_t (tgt := 18) C dX10_ask_8 (by decide) c4 ?_
    refine g_iconst (v := (-1)) C dX10_ask_18 (by decide) ?_
    obtain ⟨rfl, rfl⟩ := os_e hf
    exact g_iret C rfl dX10_ask_19
  · refine g_if_eq_f (tgt := 18) C dX10_ask_8 (by decide) c4 ?_
    refine g_iload_n C dX10_ask_11 rfl 2 rfl ?_
    obtain ⟨r5, σ6, h7, hf⟩ := obp_e hf
    refine g_callSi (As := [.int x2]) (rest := []) C (c_X10_isFee l dC dI ad cy x2) h7 hM_X10_169 cal_X10_isFee ⟨Nat.zero_le _, Nat.zero_le _⟩ ⟨rfl, rfl⟩ ⟨Nat.le_of_ble_eq_true rfl, Nat.le_of_ble_eq_true rfl⟩ rfl rfl (Nat.le_of_ble_eq_true rfl) dX10_ask_12 ?_
    rcases oi_e hf with ⟨c8, hf⟩ | ⟨c8, hf⟩
    · refine g_if_ne_t (tgt := 20) C dX10_ask_15 (by decide) c8 ?_
      refine g_aload_n C dX10_ask_20 rfl 0 rfl ?_
      refine g_get C (a_0 ad cy _) rfl hin_X10 5 (by decide) hF_X10_51 rfl rfl dX10_ask_21 ?_
      refine g_iload_n C dX10_ask_24 rfl 1 rfl ?_
      obtain ⟨r9, σ10, h11, hf⟩ := obp_e hf
      refine g_callVv (As := [.int x1]) (rest := []) C (a_41 ad cy _) rfl (c_X0_weigh l dC dI ad cy x1) h11 hM_X10_208 cal_X0_weigh ⟨Nat.zero_le _, Nat.zero_le _⟩ ⟨rfl, rfl⟩ ⟨Nat.le_of_ble_eq_true rfl, Nat.le_of_ble_eq_true rfl⟩ rfl rfl (Nat.le_of_ble_eq_true rfl) dX10_ask_25 ?_
      refine g_aload_n C dX10_ask_28 rfl 0 rfl ?_
      refine g_get C (a_0 ad cy _) rfl hin_X10 5 (by decide) hF_X10_51 rfl rfl dX10_ask_29 ?_
      refine g_iload_n C dX10_ask_32 rfl 2 rfl ?_
      obtain ⟨r12, σ13, h14, hf⟩ := obp_e hf
      refine g_callVi (As := [.int x2]) (rest := []) C (a_41 ad cy _) rfl (c_X0_bringsAt l dC dI ad cy x2) h14 hM_X10_211 cal_X0_bringsAt ⟨Nat.zero_le _, Nat.zero_le _⟩ ⟨rfl, rfl⟩ ⟨Nat.le_of_ble_eq_true rfl, Nat.le_of_ble_eq_true rfl⟩ rfl rfl (Nat.le_of_ble_eq_true rfl) dX10_ask_33 ?_
      obtain ⟨rfl, rfl⟩ := os_e hf
      exact g_iret C rfl dX10_ask_36
    · refine g_if_ne_f (tgt := 20) C dX10_ask_15 (by decide) (Decidable.of_not_not c8) ?_
      refine g_iconst (v := (-1)) C dX10_ask_18 (by decide) ?_
      obtain ⟨rfl, rfl⟩ := os_e hf
      exact g_iret C rfl dX10_ask_19
theorem c_X10_ask (l : Launch) (dC : Nat → ClassId) (dI : Nat → Nat → Nat) (ad : Nat → Nat) (cy : Nat → ClassId) (x1 : Int32) (x2 : Int32) : ConI l yX10_ask cX10_ask 3 (some .int) rm_X10_ask dC dI ad cy [.ref (ad 0), .int x1, .int x2] (fun σ => fX10_ask σ x1 x2) := con_i (own := RX10) (by decide) rfl (Nat.le_of_ble_eq_true rfl) (fun _ _ _ _ _ _ _ _ σ _ _ C hf => fX10_ask_ok C σ x1 x2 hf)
theorem cal_X10_ask : CalV yX10_ask RX10 cX10_ask 3 (some .int) 2 := ⟨hI_X10_ask, hS_X10_ask, hIni_X10, hC_X10_ask, by decide +kernel⟩
abbrev rm_X10_best : Room := { frames := 4, cells := 0, slots := 0, locals := 96 }
def fX10_best (σ : S0) (x1 : Int32) (x2 : Int32) : Option (Int32 × S0) := obp (fX9_hasHouse σ 22 x1) (fun r1 σ2 => if r1 = 0 then (some ((-1), σ2)) else (if x2 < 0 then (some ((-1), σ2)) else (if x2 ≤ 1 then (obp (fX0_choose σ2 x1) (fun r7 σ8 => if ¬ x2 = 0 then (some (σ8 41 8, σ8)) else (some (σ8 41 7, σ8)))) else (some ((-1), σ2)))))
set_option maxHeartbeats 1000000 in
set_option maxRecDepth 100000 in
theorem fX10_best_ok {p : Program} {l : Launch} {e : Env} {s : State} {m : MethodId} {args : Array Value} {below : List Frame} {meth : Method} {c : Code} {dC : Nat → ClassId} {dI : Nat → Nat → Nat} {ad : Nat → Nat} {cy : Nat → ClassId} {sz : Nat} (C : Cx p s m args meth c RX10 cX10_best 3 (some .int) dC dI ad cy sz) {rr : Int32} {ρ : S0} (σ : S0) (x1 : Int32) (x2 : Int32)  (hf : fX10_best σ x1 x2 = some (rr, ρ)) : Gw p l e rm_X10_best s m args below meth c (MQ below (QcI dC dI ad cy sz rr ρ) args s 0 0 (AW ad sz)) dC dI ad cy 3 sz 0 0 0 [(0, .ref (ad 0)), (1, .int x1), (2, .int x2)] [] σ := by
  unfold fX10_best at hf
  refine g_aload_n C dX10_best_0 rfl 0 rfl ?_
  refine g_get C (a_0 ad cy _) rfl hin_X10 2 (by decide) hF_X10_28 rfl rfl dX10_best_1 ?_
  refine g_iload_n C dX10_best_4 rfl 1 rfl ?_
  obtain ⟨r1, σ2, h3, hf⟩ := obp_e hf
  refine g_callVi (As := [.int x1]) (rest := []) C (a_22 ad cy _) rfl (c_X9_hasHouse l dC dI ad cy 22 k_isTown_22 x1) h3 hM_X10_163 cal_X9_hasHouse ⟨Nat.zero_le _, Nat.zero_le _⟩ ⟨rfl, rfl⟩ ⟨Nat.le_of_ble_eq_true rfl, Nat.le_of_ble_eq_true rfl⟩ rfl rfl (Nat.le_of_ble_eq_true rfl) dX10_best_5 ?_
  rcases oi_e hf with ⟨c4, hf⟩ | ⟨c4, hf⟩
  · refine g_if_eq_t (tgt := 20) C dX10_best_8 (by decide) c4 ?_
    refine g_iconst (v := (-1)) C dX10_best_20 (by decide) ?_
    obtain ⟨rfl, rfl⟩ := os_e hf
    exact g_iret C rfl dX10_best_21
  · refine g_if_eq_f (tgt := 20) C dX10_best_8 (by decide) c4 ?_
    refine g_iload_n C dX10_best_11 rfl 2 rfl ?_
    rcases oi_e hf with ⟨c5, hf⟩ | ⟨c5, hf⟩
    · refine g_if_lt_t (tgt := 20) C dX10_best_12 (by decide) c5 ?_
      refine g_iconst (v := (-1)) C dX10_best_20 (by decide) ?_
      obtain ⟨rfl, rfl⟩ := os_e hf
      exact g_iret C rfl dX10_best_21
    · refine g_if_lt_f (tgt := 20) C dX10_best_12 (by decide) c5 ?_
      refine g_iload_n C dX10_best_15 rfl 2 rfl ?_
      refine g_iconst (v := 1) C dX10_best_16 (by decide) ?_
      rcases oi_e hf with ⟨c6, hf⟩ | ⟨c6, hf⟩
      · refine g_icmp_le_t (tgt := 22) C dX10_best_17 (by decide) c6 ?_
        refine g_aload_n C dX10_best_22 rfl 0 rfl ?_
        refine g_get C (a_0 ad cy _) rfl hin_X10 5 (by decide) hF_X10_51 rfl rfl dX10_best_23 ?_
        refine g_iload_n C dX10_best_26 rfl 1 rfl ?_
        obtain ⟨r7, σ8, h9, hf⟩ := obp_e hf
        refine g_callVv (As := [.int x1]) (rest := []) C (a_41 ad cy _) rfl (c_X0_choose l dC dI ad cy x1) h9 hM_X10_214 cal_X0_choose ⟨Nat.zero_le _, Nat.zero_le _⟩ ⟨rfl, rfl⟩ ⟨Nat.le_of_ble_eq_true rfl, Nat.le_of_ble_eq_true rfl⟩ rfl rfl (Nat.le_of_ble_eq_true rfl) dX10_best_27 ?_
        refine g_iload_n C dX10_best_30 rfl 2 rfl ?_
        rcases oi_e hf with ⟨c10, hf⟩ | ⟨c10, hf⟩
        · refine g_if_ne_t (tgt := 44) C dX10_best_31 (by decide) c10 ?_
          refine g_aload_n C dX10_best_44 rfl 0 rfl ?_
          refine g_get C (a_0 ad cy _) rfl hin_X10 5 (by decide) hF_X10_51 rfl rfl dX10_best_45 ?_
          refine g_get C (a_41 ad cy _) rfl hin_X0 8 (by decide) hF_X10_220 rfl rfl dX10_best_48 ?_
          obtain ⟨rfl, rfl⟩ := os_e hf
          exact g_iret C rfl dX10_best_51
        · refine g_if_ne_f (tgt := 44) C dX10_best_31 (by decide) (Decidable.of_not_not c10) ?_
          refine g_aload_n C dX10_best_34 rfl 0 rfl ?_
          refine g_get C (a_0 ad cy _) rfl hin_X10 5 (by decide) hF_X10_51 rfl rfl dX10_best_35 ?_
          refine g_get C (a_41 ad cy _) rfl hin_X0 7 (by decide) hF_X10_217 rfl rfl dX10_best_38 ?_
          refine g_goto (tgt := 51) C dX10_best_41 (by decide) ?_
          obtain ⟨rfl, rfl⟩ := os_e hf
          exact g_iret C rfl dX10_best_51
      · refine g_icmp_le_f (tgt := 22) C dX10_best_17 (by decide) c6 ?_
        refine g_iconst (v := (-1)) C dX10_best_20 (by decide) ?_
        obtain ⟨rfl, rfl⟩ := os_e hf
        exact g_iret C rfl dX10_best_21
theorem c_X10_best (l : Launch) (dC : Nat → ClassId) (dI : Nat → Nat → Nat) (ad : Nat → Nat) (cy : Nat → ClassId) (x1 : Int32) (x2 : Int32) : ConI l yX10_best cX10_best 3 (some .int) rm_X10_best dC dI ad cy [.ref (ad 0), .int x1, .int x2] (fun σ => fX10_best σ x1 x2) := con_i (own := RX10) (by decide) rfl (Nat.le_of_ble_eq_true rfl) (fun _ _ _ _ _ _ _ _ σ _ _ C hf => fX10_best_ok C σ x1 x2 hf)
theorem cal_X10_best : CalV yX10_best RX10 cX10_best 3 (some .int) 2 := ⟨hI_X10_best, hS_X10_best, hIni_X10, hC_X10_best, by decide +kernel⟩
abbrev rm_X10_settle : Room := { frames := 6, cells := 0, slots := 0, locals := 139 }
def fX10_settle_b15 (sf_15 : S0 → Int32 → Int32 → Option (Int32 × S0)) (σ : S0) (x1 : Int32) (x2 : Int32) : Option (Int32 × S0) := if x1 ≤ x2 then (some ((-4), σ)) else (obp (fX0_changeInRound σ) (fun r2 σ3 => if ¬ r2 = 0 then (ol (x2 + 1) (fun v6 => sf_15 σ3 x1 v6)) else (some (x2, σ3))))
set_option maxHeartbeats 1000000 in
set_option maxRecDepth 100000 in
theorem fX10_settle_b15_ok {p : Program} {l : Launch} {e : Env} {s : State} {m : MethodId} {args : Array Value} {below : List Frame} {meth : Method} {c : Code} {dC : Nat → ClassId} {dI : Nat → Nat → Nat} {ad : Nat → Nat} {cy : Nat → ClassId} {sz : Nat} (C : Cx p s m args meth c RX10 cX10_settle 3 (some .int) dC dI ad cy sz) {rr : Int32} {ρ : S0} (sf_15 : S0 → Int32 → Int32 → Option (Int32 × S0)) (hs_15 : ∀ (σ : S0) (x1 : Int32) (x2 : Int32) , sf_15 σ x1 x2 = some (rr, ρ) → Gw p l e rm_X10_settle s m args below meth c (MQ below (QcI dC dI ad cy sz rr ρ) args s 0 0 (AW ad sz)) dC dI ad cy 3 sz 0 0 15 [(0, .ref (ad 0)), (1, .int x1), (2, .int x2)] [] σ) (σ : S0) (x1 : Int32) (x2 : Int32)  (hf : fX10_settle_b15 sf_15 σ x1 x2 = some (rr, ρ)) : Gw p l e rm_X10_settle s m args below meth c (MQ below (QcI dC dI ad cy sz rr ρ) args s 0 0 (AW ad sz)) dC dI ad cy 3 sz 0 0 15 [(0, .ref (ad 0)), (1, .int x1), (2, .int x2)] [] σ := by
  unfold fX10_settle_b15 at hf
  refine g_iload_n C dX10_settle_15 rfl 2 rfl ?_
  refine g_iload_n C dX10_settle_16 rfl 1 rfl ?_
  rcases oi_e hf with ⟨c1, hf⟩ | ⟨c1, hf⟩
  · refine g_icmp_ge_t (tgt := 38) C dX10_settle_17 (by decide) c1 ?_
    refine g_bipush (v := (-4)) C dX10_settle_38 (by decide) ?_
    obtain ⟨rfl, rfl⟩ := os_e hf
    exact g_iret C rfl dX10_settle_40
  · refine g_icmp_ge_f (tgt := 38) C dX10_settle_17 (by decide) c1 ?_
    refine g_aload_n C dX10_settle_20 rfl 0 rfl ?_
    refine g_get C (a_0 ad cy _) rfl hin_X10 5 (by decide) hF_X10_51 rfl rfl dX10_settle_21 ?_
    obtain ⟨r2, σ3, h4, hf⟩ := obp_e hf
    refine g_callVi (As := []) (rest := []) C (a_41 ad cy _) rfl (c_X0_changeInRound l dC dI ad cy ) h4 hM_X10_223 cal_X0_changeInRound ⟨Nat.zero_le _, Nat.zero_le _⟩ ⟨rfl, rfl⟩ ⟨Nat.le_of_ble_eq_true rfl, Nat.le_of_ble_eq_true rfl⟩ rfl rfl (Nat.le_of_ble_eq_true rfl) dX10_settle_24 ?_
    rcases oi_e hf with ⟨c5, hf⟩ | ⟨c5, hf⟩
    · refine g_if_ne_t (tgt := 32) C dX10_settle_27 (by decide) c5 ?_
      obtain ⟨v6, ev6, hf⟩ := ol_e hf
      refine g_iinc (j := 2) (w := 1) (lv2 := [(0, .ref (ad 0)), (1, .int x1), (2, .int v6)]) C dX10_settle_32 rfl (by decide) ev6 (by decide) [1, 2, 0] rfl ?_
      refine g_goto (tgt := 15) C dX10_settle_35 (by decide) ?_
      exact g_sub [0, 1, 2] rfl (hs_15 σ3 x1 v6 hf)
    · refine g_if_ne_f (tgt := 32) C dX10_settle_27 (by decide) (Decidable.of_not_not c5) ?_
      refine g_iload_n C dX10_settle_30 rfl 2 rfl ?_
      obtain ⟨rfl, rfl⟩ := os_e hf
      exact g_iret C rfl dX10_settle_31
def fX10_settle_h15  : Nat → S0 → Int32 → Int32 → Option (Int32 × S0)
  | 0 => fun _ _ _ => none
  | n + 1 => fun σ x1 x2 => fX10_settle_b15  (fX10_settle_h15  n) σ x1 x2
set_option maxHeartbeats 1000000 in
set_option maxRecDepth 100000 in
theorem fX10_settle_h15_ok {p : Program} {l : Launch} {e : Env} {s : State} {m : MethodId} {args : Array Value} {below : List Frame} {meth : Method} {c : Code} {dC : Nat → ClassId} {dI : Nat → Nat → Nat} {ad : Nat → Nat} {cy : Nat → ClassId} {sz : Nat} (C : Cx p s m args meth c RX10 cX10_settle 3 (some .int) dC dI ad cy sz) {rr : Int32} {ρ : S0}  : ∀ (n : Nat) (σ : S0) (x1 : Int32) (x2 : Int32)  (_hf : fX10_settle_h15  n σ x1 x2 = some (rr, ρ)), Gw p l e rm_X10_settle s m args below meth c (MQ below (QcI dC dI ad cy sz rr ρ) args s 0 0 (AW ad sz)) dC dI ad cy 3 sz 0 0 15 [(0, .ref (ad 0)), (1, .int x1), (2, .int x2)] [] σ
  | 0, _, _, _, hf => by cases hf
  | n + 1, σ, x1, x2, hf => fX10_settle_b15_ok C  (fX10_settle_h15  n) (fX10_settle_h15_ok C  n) σ x1 x2 hf
def fX10_settle (σ : S0) (x1 : Int32) : Option (Int32 × S0) := if x1 < 1 then (some ((-1), σ)) else (if x1 ≤ 30 then (fX10_settle_h15 400 σ x1 0) else (some ((-1), σ)))
set_option maxHeartbeats 1000000 in
set_option maxRecDepth 100000 in
theorem fX10_settle_ok {p : Program} {l : Launch} {e : Env} {s : State} {m : MethodId} {args : Array Value} {below : List Frame} {meth : Method} {c : Code} {dC : Nat → ClassId} {dI : Nat → Nat → Nat} {ad : Nat → Nat} {cy : Nat → ClassId} {sz : Nat} (C : Cx p s m args meth c RX10 cX10_settle 3 (some .int) dC dI ad cy sz) {rr : Int32} {ρ : S0} (σ : S0) (x1 : Int32)  (hf : fX10_settle σ x1 = some (rr, ρ)) : Gw p l e rm_X10_settle s m args below meth c (MQ below (QcI dC dI ad cy sz rr ρ) args s 0 0 (AW ad sz)) dC dI ad cy 3 sz 0 0 0 [(0, .ref (ad 0)), (1, .int x1)] [] σ := by
  unfold fX10_settle at hf
  refine g_iload_n C dX10_settle_0 rfl 1 rfl ?_
  refine g_iconst (v := 1) C dX10_settle_1 (by decide) ?_
  rcases oi_e hf with ⟨c1, hf⟩ | ⟨c1, hf⟩
  · refine g_icmp_lt_t (tgt := 11) C dX10_settle_2 (by decide) c1 ?_
    refine g_iconst (v := (-1)) C dX10_settle_11 (by decide) ?_
    obtain ⟨rfl, rfl⟩ := os_e hf
    exact g_iret C rfl dX10_settle_12
  · refine g_icmp_lt_f (tgt := 11) C dX10_settle_2 (by decide) c1 ?_
    refine g_iload_n C dX10_settle_5 rfl 1 rfl ?_
    refine g_bipush (v := 30) C dX10_settle_6 (by decide) ?_
    rcases oi_e hf with ⟨c2, hf⟩ | ⟨c2, hf⟩
    · refine g_icmp_le_t (tgt := 13) C dX10_settle_8 (by decide) c2 ?_
      refine g_iconst (v := 0) C dX10_settle_13 (by decide) ?_
      refine g_istore_n (lv2 := [(0, .ref (ad 0)), (1, .int x1), (2, .int 0)]) C dX10_settle_14 rfl (by decide) [1, 2, 0] rfl ?_
      exact g_sub [0, 1, 2] rfl (fX10_settle_h15_ok C 400 σ x1 0 hf)
    · refine g_icmp_le_f (tgt := 13) C dX10_settle_8 (by decide) c2 ?_
      refine g_iconst (v := (-1)) C dX10_settle_11 (by decide) ?_
      obtain ⟨rfl, rfl⟩ := os_e hf
      exact g_iret C rfl dX10_settle_12
theorem c_X10_settle (l : Launch) (dC : Nat → ClassId) (dI : Nat → Nat → Nat) (ad : Nat → Nat) (cy : Nat → ClassId) (x1 : Int32) : ConI l yX10_settle cX10_settle 3 (some .int) rm_X10_settle dC dI ad cy [.ref (ad 0), .int x1] (fun σ => fX10_settle σ x1) := con_i (own := RX10) (by decide) rfl (Nat.le_of_ble_eq_true rfl) (fun _ _ _ _ _ _ _ _ σ _ _ C hf => fX10_settle_ok C σ x1 hf)
theorem cal_X10_settle : CalV yX10_settle RX10 cX10_settle 3 (some .int) 1 := ⟨hI_X10_settle, hS_X10_settle, hIni_X10, hC_X10_settle, by decide +kernel⟩
abbrev rm_X10_settled : Room := { frames := 5, cells := 0, slots := 0, locals := 117 }
def fX10_settled_b2 (sf_2 : S0 → Int32 → Option (Int32 × S0)) (σ : S0) (x1 : Int32) : Option (Int32 × S0) := if (σ 22 0) ≤ x1 then (some (1, σ)) else (obp (fX0_wantsOther σ x1) (fun r2 σ3 => if r2 = 0 then (ol (x1 + 1) (fun v6 => sf_2 σ3 v6)) else (some (0, σ3))))
set_option maxHeartbeats 1000000 in
set_option maxRecDepth 100000 in
theorem fX10_settled_b2_ok {p : Program} {l : Launch} {e : Env} {s : State} {m : MethodId} {args : Array Value} {below : List Frame} {meth : Method} {c : Code} {dC : Nat → ClassId} {dI : Nat → Nat → Nat} {ad : Nat → Nat} {cy : Nat → ClassId} {sz : Nat} (C : Cx p s m args meth c RX10 cX10_settled 2 (some .int) dC dI ad cy sz) {rr : Int32} {ρ : S0} (sf_2 : S0 → Int32 → Option (Int32 × S0)) (hs_2 : ∀ (σ : S0) (x1 : Int32) , sf_2 σ x1 = some (rr, ρ) → Gw p l e rm_X10_settled s m args below meth c (MQ below (QcI dC dI ad cy sz rr ρ) args s 0 0 (AW ad sz)) dC dI ad cy 2 sz 0 0 2 [(0, .ref (ad 0)), (1, .int x1)] [] σ) (σ : S0) (x1 : Int32)  (hf : fX10_settled_b2 sf_2 σ x1 = some (rr, ρ)) : Gw p l e rm_X10_settled s m args below meth c (MQ below (QcI dC dI ad cy sz rr ρ) args s 0 0 (AW ad sz)) dC dI ad cy 2 sz 0 0 2 [(0, .ref (ad 0)), (1, .int x1)] [] σ := by
  unfold fX10_settled_b2 at hf
  refine g_iload_n C dX10_settled_2 rfl 1 rfl ?_
  refine g_aload_n C dX10_settled_3 rfl 0 rfl ?_
  refine g_get C (a_0 ad cy _) rfl hin_X10 2 (by decide) hF_X10_28 rfl rfl dX10_settled_4 ?_
  refine g_get C (a_22 ad cy _) rfl hin_X9 0 (by decide) hF_X10_121 rfl rfl dX10_settled_7 ?_
  rcases oi_e hf with ⟨c1, hf⟩ | ⟨c1, hf⟩
  · refine g_icmp_ge_t (tgt := 32) C dX10_settled_10 (by decide) c1 ?_
    refine g_iconst (v := 1) C dX10_settled_32 (by decide) ?_
    obtain ⟨rfl, rfl⟩ := os_e hf
    exact g_iret C rfl dX10_settled_33
  · refine g_icmp_ge_f (tgt := 32) C dX10_settled_10 (by decide) c1 ?_
    refine g_aload_n C dX10_settled_13 rfl 0 rfl ?_
    refine g_get C (a_0 ad cy _) rfl hin_X10 5 (by decide) hF_X10_51 rfl rfl dX10_settled_14 ?_
    refine g_iload_n C dX10_settled_17 rfl 1 rfl ?_
    obtain ⟨r2, σ3, h4, hf⟩ := obp_e hf
    refine g_callVi (As := [.int x1]) (rest := []) C (a_41 ad cy _) rfl (c_X0_wantsOther l dC dI ad cy x1) h4 hM_X10_226 cal_X0_wantsOther ⟨Nat.zero_le _, Nat.zero_le _⟩ ⟨rfl, rfl⟩ ⟨Nat.le_of_ble_eq_true rfl, Nat.le_of_ble_eq_true rfl⟩ rfl rfl (Nat.le_of_ble_eq_true rfl) dX10_settled_18 ?_
    rcases oi_e hf with ⟨c5, hf⟩ | ⟨c5, hf⟩
    · refine g_if_eq_t (tgt := 26) C dX10_settled_21 (by decide) c5 ?_
      obtain ⟨v6, ev6, hf⟩ := ol_e hf
      refine g_iinc (j := 1) (w := 1) (lv2 := [(0, .ref (ad 0)), (1, .int v6)]) C dX10_settled_26 rfl (by decide) ev6 (by decide) [1, 0] rfl ?_
      refine g_goto (tgt := 2) C dX10_settled_29 (by decide) ?_
      exact g_sub [0, 1] rfl (hs_2 σ3 v6 hf)
    · refine g_if_eq_f (tgt := 26) C dX10_settled_21 (by decide) c5 ?_
      refine g_iconst (v := 0) C dX10_settled_24 (by decide) ?_
      obtain ⟨rfl, rfl⟩ := os_e hf
      exact g_iret C rfl dX10_settled_25
def fX10_settled_h2  : Nat → S0 → Int32 → Option (Int32 × S0)
  | 0 => fun _ _ => none
  | n + 1 => fun σ x1 => fX10_settled_b2  (fX10_settled_h2  n) σ x1
set_option maxHeartbeats 1000000 in
set_option maxRecDepth 100000 in
theorem fX10_settled_h2_ok {p : Program} {l : Launch} {e : Env} {s : State} {m : MethodId} {args : Array Value} {below : List Frame} {meth : Method} {c : Code} {dC : Nat → ClassId} {dI : Nat → Nat → Nat} {ad : Nat → Nat} {cy : Nat → ClassId} {sz : Nat} (C : Cx p s m args meth c RX10 cX10_settled 2 (some .int) dC dI ad cy sz) {rr : Int32} {ρ : S0}  : ∀ (n : Nat) (σ : S0) (x1 : Int32)  (_hf : fX10_settled_h2  n σ x1 = some (rr, ρ)), Gw p l e rm_X10_settled s m args below meth c (MQ below (QcI dC dI ad cy sz rr ρ) args s 0 0 (AW ad sz)) dC dI ad cy 2 sz 0 0 2 [(0, .ref (ad 0)), (1, .int x1)] [] σ
  | 0, _, _, hf => by cases hf
  | n + 1, σ, x1, hf => fX10_settled_b2_ok C  (fX10_settled_h2  n) (fX10_settled_h2_ok C  n) σ x1 hf
def fX10_settled (σ : S0)  : Option (Int32 × S0) := fX10_settled_h2 400 σ 0
set_option maxHeartbeats 1000000 in
set_option maxRecDepth 100000 in
theorem fX10_settled_ok {p : Program} {l : Launch} {e : Env} {s : State} {m : MethodId} {args : Array Value} {below : List Frame} {meth : Method} {c : Code} {dC : Nat → ClassId} {dI : Nat → Nat → Nat} {ad : Nat → Nat} {cy : Nat → ClassId} {sz : Nat} (C : Cx p s m args meth c RX10 cX10_settled 2 (some .int) dC dI ad cy sz) {rr : Int32} {ρ : S0} (σ : S0)   (hf : fX10_settled σ = some (rr, ρ)) : Gw p l e rm_X10_settled s m args below meth c (MQ below (QcI dC dI ad cy sz rr ρ) args s 0 0 (AW ad sz)) dC dI ad cy 2 sz 0 0 0 [(0, .ref (ad 0))] [] σ := by
  unfold fX10_settled at hf
  refine g_iconst (v := 0) C dX10_settled_0 (by decide) ?_
  refine g_istore_n (lv2 := [(0, .ref (ad 0)), (1, .int 0)]) C dX10_settled_1 rfl (by decide) [1, 0] rfl ?_
  exact g_sub [0, 1] rfl (fX10_settled_h2_ok C 400 σ 0 hf)
theorem c_X10_settled (l : Launch) (dC : Nat → ClassId) (dI : Nat → Nat → Nat) (ad : Nat → Nat) (cy : Nat → ClassId)  : ConI l yX10_settled cX10_settled 2 (some .int) rm_X10_settled dC dI ad cy [.ref (ad 0)] (fun σ => fX10_settled σ) := con_i (own := RX10) (by decide) rfl (Nat.le_of_ble_eq_true rfl) (fun _ _ _ _ _ _ _ _ σ _ _ C hf => fX10_settled_ok C σ  hf)
theorem cal_X10_settled : CalV yX10_settled RX10 cX10_settled 2 (some .int) 0 := ⟨hI_X10_settled, hS_X10_settled, hIni_X10, hC_X10_settled, by decide +kernel⟩
abbrev rm_X10_fair : Room := { frames := 3, cells := 0, slots := 0, locals := 72 }
def fX10_fair (σ : S0) (x1 : Int32) (x2 : Int32) (x3 : Int32) : Option (Int32 × S0) := if x1 < 1 then (some ((-1), σ)) else (if (6 : Int32) < x1 then (some ((-1), σ)) else (if x2 < 0 then (some ((-1), σ)) else (if (72 : Int32) < x2 then (some ((-1), σ)) else (if x3 < 0 then (some ((-1), σ)) else (if x3 ≤ 1 then (obp (fX2_choose σ x1 x2) (fun r7 σ8 => if ¬ (σ8 46 5) = 0 then (if ¬ x3 = 0 then (some (σ8 46 5, σ8)) else (some (σ8 46 4, σ8))) else (some ((-4), σ8)))) else (some ((-1), σ)))))))
set_option maxHeartbeats 1000000 in
set_option maxRecDepth 100000 in
theorem fX10_fair_ok {p : Program} {l : Launch} {e : Env} {s : State} {m : MethodId} {args : Array Value} {below : List Frame} {meth : Method} {c : Code} {dC : Nat → ClassId} {dI : Nat → Nat → Nat} {ad : Nat → Nat} {cy : Nat → ClassId} {sz : Nat} (C : Cx p s m args meth c RX10 cX10_fair 4 (some .int) dC dI ad cy sz) {rr : Int32} {ρ : S0} (σ : S0) (x1 : Int32) (x2 : Int32) (x3 : Int32)  (hf : fX10_fair σ x1 x2 x3 = some (rr, ρ)) : Gw p l e rm_X10_fair s m args below meth c (MQ below (QcI dC dI ad cy sz rr ρ) args s 0 0 (AW ad sz)) dC dI ad cy 4 sz 0 0 0 [(0, .ref (ad 0)), (1, .int x1), (2, .int x2), (3, .int x3)] [] σ := by
  unfold fX10_fair at hf
  refine g_iload_n C dX10_fair_0 rfl 1 rfl ?_
  refine g_iconst (v := 1) C dX10_fair_1 (by decide) ?_
  rcases oi_e hf with ⟨c1, hf⟩ | ⟨c1, hf⟩
  · refine g_icmp_lt_t (tgt := 30) C dX10_fair_2 (by decide) c1 ?_
    refine g_iconst (v := (-1)) C dX10_fair_30 (by decide) ?_
    obtain ⟨rfl, rfl⟩ := os_e hf
    exact g_iret C rfl dX10_fair_31
  · refine g_icmp_lt_f (tgt := 30) C dX10_fair_2 (by decide) c1 ?_
    refine g_iload_n C dX10_fair_5 rfl 1 rfl ?_
    refine g_bipush (v := 6) C dX10_fair_6 (by decide) ?_
    rcases oi_e hf with ⟨c2, hf⟩ | ⟨c2, hf⟩
    · refine g_icmp_gt_t (tgt := 30) C dX10_fair_8 (by decide) c2 ?_
      refine g_iconst (v := (-1)) C dX10_fair_30 (by decide) ?_
      obtain ⟨rfl, rfl⟩ := os_e hf
      exact g_iret C rfl dX10_fair_31
    · refine g_icmp_gt_f (tgt := 30) C dX10_fair_8 (by decide) c2 ?_
      refine g_iload_n C dX10_fair_11 rfl 2 rfl ?_
      rcases oi_e hf with ⟨c3, hf⟩ | ⟨c3, hf⟩
      · refine g_if_lt_t (tgt := 30) C dX10_fair_12 (by decide) c3 ?_
        refine g_iconst (v := (-1)) C dX10_fair_30 (by decide) ?_
        obtain ⟨rfl, rfl⟩ := os_e hf
        exact g_iret C rfl dX10_fair_31
      · refine g_if_lt_f (tgt := 30) C dX10_fair_12 (by decide) c3 ?_
        refine g_iload_n C dX10_fair_15 rfl 2 rfl ?_
        refine g_bipush (v := 72) C dX10_fair_16 (by decide) ?_
        rcases oi_e hf with ⟨c4, hf⟩ | ⟨c4, hf⟩
        · refine g_icmp_gt_t (tgt := 30) C dX10_fair_18 (by decide) c4 ?_
          refine g_iconst (v := (-1)) C dX10_fair_30 (by decide) ?_
          obtain ⟨rfl, rfl⟩ := os_e hf
          exact g_iret C rfl dX10_fair_31
        · refine g_icmp_gt_f (tgt := 30) C dX10_fair_18 (by decide) c4 ?_
          refine g_iload_n C dX10_fair_21 rfl 3 rfl ?_
          rcases oi_e hf with ⟨c5, hf⟩ | ⟨c5, hf⟩
          · refine g_if_lt_t (tgt := 30) C dX10_fair_22 (by decide) c5 ?_
            refine g_iconst (v := (-1)) C dX10_fair_30 (by decide) ?_
            obtain ⟨rfl, rfl⟩ := os_e hf
            exact g_iret C rfl dX10_fair_31
          · refine g_if_lt_f (tgt := 30) C dX10_fair_22 (by decide) c5 ?_
            refine g_iload_n C dX10_fair_25 rfl 3 rfl ?_
            refine g_iconst (v := 1) C dX10_fair_26 (by decide) ?_
            rcases oi_e hf with ⟨c6, hf⟩ | ⟨c6, hf⟩
            · refine g_icmp_le_t (tgt := 32) C dX10_fair_27 (by decide) c6 ?_
              refine g_aload_n C dX10_fair_32 rfl 0 rfl ?_
              refine g_get C (a_0 ad cy _) rfl hin_X10 6 (by decide) hF_X10_58 rfl rfl dX10_fair_33 ?_
              refine g_iload_n C dX10_fair_36 rfl 1 rfl ?_
              refine g_iload_n C dX10_fair_37 rfl 2 rfl ?_
              obtain ⟨r7, σ8, h9, hf⟩ := obp_e hf
              refine g_callVv (As := [.int x1, .int x2]) (rest := []) C (a_46 ad cy _) rfl (c_X2_choose l dC dI ad cy x1 x2) h9 hM_X10_233 cal_X2_choose ⟨Nat.zero_le _, Nat.zero_le _⟩ ⟨rfl, rfl⟩ ⟨Nat.le_of_ble_eq_true rfl, Nat.le_of_ble_eq_true rfl⟩ rfl rfl (Nat.le_of_ble_eq_true rfl) dX10_fair_38 ?_
              refine g_aload_n C dX10_fair_41 rfl 0 rfl ?_
              refine g_get C (a_0 ad cy _) rfl hin_X10 6 (by decide) hF_X10_58 rfl rfl dX10_fair_42 ?_
              refine g_get C (a_46 ad cy _) rfl hin_X2 5 (by decide) hF_X10_236 rfl rfl dX10_fair_45 ?_
              rcases oi_e hf with ⟨c10, hf⟩ | ⟨c10, hf⟩
              · refine g_if_ne_t (tgt := 54) C dX10_fair_48 (by decide) c10 ?_
                refine g_iload_n C dX10_fair_54 rfl 3 rfl ?_
                rcases oi_e hf with ⟨c11, hf⟩ | ⟨c11, hf⟩
                · refine g_if_ne_t (tgt := 68) C dX10_fair_55 (by decide) c11 ?_
                  refine g_aload_n C dX10_fair_68 rfl 0 rfl ?_
                  refine g_get C (a_0 ad cy _) rfl hin_X10 6 (by decide) hF_X10_58 rfl rfl dX10_fair_69 ?_
                  refine g_get C (a_46 ad cy _) rfl hin_X2 5 (by decide) hF_X10_236 rfl rfl dX10_fair_72 ?_
                  obtain ⟨rfl, rfl⟩ := os_e hf
                  exact g_iret C rfl dX10_fair_75
                · refine g_if_ne_f (tgt := 68) C dX10_fair_55 (by decide) (Decidable.of_not_not c11) ?_
                  refine g_aload_n C dX10_fair_58 rfl 0 rfl ?_
                  refine g_get C (a_0 ad cy _) rfl hin_X10 6 (by decide) hF_X10_58 rfl rfl dX10_fair_59 ?_
                  refine g_get C (a_46 ad cy _) rfl hin_X2 4 (by decide) hF_X10_239 rfl rfl dX10_fair_62 ?_
                  refine g_goto (tgt := 75) C dX10_fair_65 (by decide) ?_
                  obtain ⟨rfl, rfl⟩ := os_e hf
                  exact g_iret C rfl dX10_fair_75
              · refine g_if_ne_f (tgt := 54) C dX10_fair_48 (by decide) (Decidable.of_not_not c10) ?_
                refine g_bipush (v := (-4)) C dX10_fair_51 (by decide) ?_
                obtain ⟨rfl, rfl⟩ := os_e hf
                exact g_iret C rfl dX10_fair_53
            · refine g_icmp_le_f (tgt := 32) C dX10_fair_27 (by decide) c6 ?_
              refine g_iconst (v := (-1)) C dX10_fair_30 (by decide) ?_
              obtain ⟨rfl, rfl⟩ := os_e hf
              exact g_iret C rfl dX10_fair_31
theorem c_X10_fair (l : Launch) (dC : Nat → ClassId) (dI : Nat → Nat → Nat) (ad : Nat → Nat) (cy : Nat → ClassId) (x1 : Int32) (x2 : Int32) (x3 : Int32) : ConI l yX10_fair cX10_fair 4 (some .int) rm_X10_fair dC dI ad cy [.ref (ad 0), .int x1, .int x2, .int x3] (fun σ => fX10_fair σ x1 x2 x3) := con_i (own := RX10) (by decide) rfl (Nat.le_of_ble_eq_true rfl) (fun _ _ _ _ _ _ _ _ σ _ _ C hf => fX10_fair_ok C σ x1 x2 x3 hf)
theorem cal_X10_fair : CalV yX10_fair RX10 cX10_fair 4 (some .int) 3 := ⟨hI_X10_fair, hS_X10_fair, hIni_X10, hC_X10_fair, by decide +kernel⟩
abbrev rm_X10_feast : Room := { frames := 4, cells := 0, slots := 0, locals := 95 }
def fX10_feast (σ : S0) (x1 : Int32) (x2 : Int32) : Option (Int32 × S0) := obp (fX10_fair σ x1 ((72 : Int32)) x2) (fun r1 σ2 => some (r1, σ2))
set_option maxHeartbeats 1000000 in
set_option maxRecDepth 100000 in
theorem fX10_feast_ok {p : Program} {l : Launch} {e : Env} {s : State} {m : MethodId} {args : Array Value} {below : List Frame} {meth : Method} {c : Code} {dC : Nat → ClassId} {dI : Nat → Nat → Nat} {ad : Nat → Nat} {cy : Nat → ClassId} {sz : Nat} (C : Cx p s m args meth c RX10 cX10_feast 3 (some .int) dC dI ad cy sz) {rr : Int32} {ρ : S0} (σ : S0) (x1 : Int32) (x2 : Int32)  (hf : fX10_feast σ x1 x2 = some (rr, ρ)) : Gw p l e rm_X10_feast s m args below meth c (MQ below (QcI dC dI ad cy sz rr ρ) args s 0 0 (AW ad sz)) dC dI ad cy 3 sz 0 0 0 [(0, .ref (ad 0)), (1, .int x1), (2, .int x2)] [] σ := by
  unfold fX10_feast at hf
  refine g_aload_n C dX10_feast_0 rfl 0 rfl ?_
  refine g_iload_n C dX10_feast_1 rfl 1 rfl ?_
  refine g_bipush (v := 72) C dX10_feast_2 (by decide) ?_
  refine g_iload_n C dX10_feast_4 rfl 2 rfl ?_
  obtain ⟨r1, σ2, h3, hf⟩ := obp_e hf
  refine g_callVi (As := [.int x1, .int 72, .int x2]) (rest := []) C (a_0 ad cy _) rfl (c_X10_fair l dC dI ad cy x1 ((72 : Int32)) x2) h3 hM_X10_229 cal_X10_fair ⟨Nat.zero_le _, Nat.zero_le _⟩ ⟨rfl, rfl⟩ ⟨Nat.le_of_ble_eq_true rfl, Nat.le_of_ble_eq_true rfl⟩ rfl rfl (Nat.le_of_ble_eq_true rfl) dX10_feast_5 ?_
  obtain ⟨rfl, rfl⟩ := os_e hf
  exact g_iret C rfl dX10_feast_8
theorem c_X10_feast (l : Launch) (dC : Nat → ClassId) (dI : Nat → Nat → Nat) (ad : Nat → Nat) (cy : Nat → ClassId) (x1 : Int32) (x2 : Int32) : ConI l yX10_feast cX10_feast 3 (some .int) rm_X10_feast dC dI ad cy [.ref (ad 0), .int x1, .int x2] (fun σ => fX10_feast σ x1 x2) := con_i (own := RX10) (by decide) rfl (Nat.le_of_ble_eq_true rfl) (fun _ _ _ _ _ _ _ _ σ _ _ C hf => fX10_feast_ok C σ x1 x2 hf)
theorem cal_X10_feast : CalV yX10_feast RX10 cX10_feast 3 (some .int) 2 := ⟨hI_X10_feast, hS_X10_feast, hIni_X10, hC_X10_feast, by decide +kernel⟩
abbrev rm_X10_nearest : Room := { frames := 4, cells := 0, slots := 0, locals := 98 }
def fX10_nearest_b42  (σ : S0) (x1 : Int32) (x2 : Int32) (x3 : Int32) : Option (Int32 × S0) := obp (fX4_find σ x1 x2) (fun r1 σ2 => if ¬ (σ2 55 4) = 1000000 then (if ¬ x3 = 0 then (ol (x3 - 10) (fun v6 => og (¬ (v6 < 0 ∨ 12 ≤ v6.toNatClampNeg)) (ol (σ2 69 v6.toNatClampNeg) (fun v8 => some (v8, σ2))))) else (some (σ2 55 4, σ2))) else (some ((-4), σ2)))
set_option maxHeartbeats 1000000 in
set_option maxRecDepth 100000 in
theorem fX10_nearest_b42_ok {p : Program} {l : Launch} {e : Env} {s : State} {m : MethodId} {args : Array Value} {below : List Frame} {meth : Method} {c : Code} {dC : Nat → ClassId} {dI : Nat → Nat → Nat} {ad : Nat → Nat} {cy : Nat → ClassId} {sz : Nat} (C : Cx p s m args meth c RX10 cX10_nearest 4 (some .int) dC dI ad cy sz) {rr : Int32} {ρ : S0}  (σ : S0) (x1 : Int32) (x2 : Int32) (x3 : Int32)  (hf : fX10_nearest_b42 σ x1 x2 x3 = some (rr, ρ)) : Gw p l e rm_X10_nearest s m args below meth c (MQ below (QcI dC dI ad cy sz rr ρ) args s 0 0 (AW ad sz)) dC dI ad cy 4 sz 0 0 42 [(0, .ref (ad 0)), (1, .int x1), (2, .int x2), (3, .int x3)] [] σ := by
  unfold fX10_nearest_b42 at hf
  refine g_aload_n C dX10_nearest_42 rfl 0 rfl ?_
  refine g_get C (a_0 ad cy _) rfl hin_X10 7 (by decide) hF_X10_65 rfl rfl dX10_nearest_43 ?_
  refine g_iload_n C dX10_nearest_46 rfl 1 rfl ?_
  refine g_iload_n C dX10_nearest_47 rfl 2 rfl ?_
  obtain ⟨r1, σ2, h3, hf⟩ := obp_e hf
  refine g_callVv (As := [.int x1, .int x2]) (rest := []) C (a_55 ad cy _) rfl (c_X4_find l dC dI ad cy x1 x2) h3 hM_X10_240 cal_X4_find ⟨Nat.zero_le _, Nat.zero_le _⟩ ⟨rfl, rfl⟩ ⟨Nat.le_of_ble_eq_true rfl, Nat.le_of_ble_eq_true rfl⟩ rfl rfl (Nat.le_of_ble_eq_true rfl) dX10_nearest_48 ?_
  refine g_aload_n C dX10_nearest_51 rfl 0 rfl ?_
  refine g_get C (a_0 ad cy _) rfl hin_X10 7 (by decide) hF_X10_65 rfl rfl dX10_nearest_52 ?_
  refine g_get C (a_55 ad cy _) rfl hin_X4 4 (by decide) hF_X10_243 rfl rfl dX10_nearest_55 ?_
  refine g_ldc (v := 1000000) C dX10_nearest_58 hK_X10_246 ?_
  rcases oi_e hf with ⟨c4, hf⟩ | ⟨c4, hf⟩
  · refine g_icmp_ne_t (tgt := 66) C dX10_nearest_60 (by decide) c4 ?_
    refine g_iload_n C dX10_nearest_66 rfl 3 rfl ?_
    rcases oi_e hf with ⟨c5, hf⟩ | ⟨c5, hf⟩
    · refine g_if_ne_t (tgt := 80) C dX10_nearest_67 (by decide) c5 ?_
      refine g_aload_n C dX10_nearest_80 rfl 0 rfl ?_
      refine g_get C (a_0 ad cy _) rfl hin_X10 7 (by decide) hF_X10_65 rfl rfl dX10_nearest_81 ?_
      refine g_get C (a_55 ad cy _) rfl hin_X4 3 (by decide) hF_X10_247 rfl rfl dX10_nearest_84 ?_
      refine g_iload_n C dX10_nearest_87 rfl 3 rfl ?_
      refine g_bipush (v := 10) C dX10_nearest_88 (by decide) ?_
      refine g_isub C dX10_nearest_90 ?_
      obtain ⟨v6, ev6, hf⟩ := ol_e hf
      refine g_nm ev6 ?_
      obtain ⟨h7, hf⟩ := og_e hf
      refine g_iald C (a_69 ad cy _) h7 dX10_nearest_91 ?_
      obtain ⟨v8, ev8, hf⟩ := ol_e hf
      refine g_nm ev8 ?_
      obtain ⟨rfl, rfl⟩ := os_e hf
      exact g_iret C rfl dX10_nearest_92
    · refine g_if_ne_f (tgt := 80) C dX10_nearest_67 (by decide) (Decidable.of_not_not c5) ?_
      refine g_aload_n C dX10_nearest_70 rfl 0 rfl ?_
      refine g_get C (a_0 ad cy _) rfl hin_X10 7 (by decide) hF_X10_65 rfl rfl dX10_nearest_71 ?_
      refine g_get C (a_55 ad cy _) rfl hin_X4 4 (by decide) hF_X10_243 rfl rfl dX10_nearest_74 ?_
      refine g_goto (tgt := 92) C dX10_nearest_77 (by decide) ?_
      obtain ⟨rfl, rfl⟩ := os_e hf
      exact g_iret C rfl dX10_nearest_92
  · refine g_icmp_ne_f (tgt := 66) C dX10_nearest_60 (by decide) (Decidable.of_not_not c4) ?_
    refine g_bipush (v := (-4)) C dX10_nearest_63 (by decide) ?_
    obtain ⟨rfl, rfl⟩ := os_e hf
    exact g_iret C rfl dX10_nearest_65
def fX10_nearest (σ : S0) (x1 : Int32) (x2 : Int32) (x3 : Int32) : Option (Int32 × S0) := obp (fX9_hasTune σ 22 x1) (fun r1 σ2 => if r1 = 0 then (some ((-1), σ2)) else (obp (fX1_hasBell σ2 32 x2) (fun r5 σ6 => if ¬ r5 = 0 then (if x3 = 0 then (fX10_nearest_b42 σ6 x1 x2 x3) else (obp (fX9_asksStroke σ6 22 x1 x3) (fun r10 σ11 => if ¬ r10 = 0 then (fX10_nearest_b42 σ11 x1 x2 x3) else (some ((-1), σ11))))) else (some ((-1), σ6)))))
set_option maxHeartbeats 1000000 in
set_option maxRecDepth 100000 in
theorem fX10_nearest_ok {p : Program} {l : Launch} {e : Env} {s : State} {m : MethodId} {args : Array Value} {below : List Frame} {meth : Method} {c : Code} {dC : Nat → ClassId} {dI : Nat → Nat → Nat} {ad : Nat → Nat} {cy : Nat → ClassId} {sz : Nat} (C : Cx p s m args meth c RX10 cX10_nearest 4 (some .int) dC dI ad cy sz) {rr : Int32} {ρ : S0} (σ : S0) (x1 : Int32) (x2 : Int32) (x3 : Int32)  (hf : fX10_nearest σ x1 x2 x3 = some (rr, ρ)) : Gw p l e rm_X10_nearest s m args below meth c (MQ below (QcI dC dI ad cy sz rr ρ) args s 0 0 (AW ad sz)) dC dI ad cy 4 sz 0 0 0 [(0, .ref (ad 0)), (1, .int x1), (2, .int x2), (3, .int x3)] [] σ := by
  unfold fX10_nearest at hf
  refine g_aload_n C dX10_nearest_0 rfl 0 rfl ?_
  refine g_get C (a_0 ad cy _) rfl hin_X10 2 (by decide) hF_X10_28 rfl rfl dX10_nearest_1 ?_
  refine g_iload_n C dX10_nearest_4 rfl 1 rfl ?_
  obtain ⟨r1, σ2, h3, hf⟩ := obp_e hf
  refine g_callVi (As := [.int x1]) (rest := []) C (a_22 ad cy _) rfl (c_X9_hasTune l dC dI ad cy 22 k_isTown_22 x1) h3 hM_X10_147 cal_X9_hasTune ⟨Nat.zero_le _, Nat.zero_le _⟩ ⟨rfl, rfl⟩ ⟨Nat.le_of_ble_eq_true rfl, Nat.le_of_ble_eq_true rfl⟩ rfl rfl (Nat.le_of_ble_eq_true rfl) dX10_nearest_5 ?_
  rcases oi_e hf with ⟨c4, hf⟩ | ⟨c4, hf⟩
  · refine g_if_eq_t (tgt := 22) C dX10_nearest_8 (by decide) c4 ?_
    refine g_iconst (v := (-1)) C dX10_nearest_22 (by decide) ?_
    obtain ⟨rfl, rfl⟩ := os_e hf
    exact g_iret C rfl dX10_nearest_23
  · refine g_if_eq_f (tgt := 22) C dX10_nearest_8 (by decide) c4 ?_
    refine g_aload_n C dX10_nearest_11 rfl 0 rfl ?_
    refine g_get C (a_0 ad cy _) rfl hin_X10 3 (by decide) hF_X10_36 rfl rfl dX10_nearest_12 ?_
    refine g_iload_n C dX10_nearest_15 rfl 2 rfl ?_
    obtain ⟨r5, σ6, h7, hf⟩ := obp_e hf
    refine g_callVi (As := [.int x2]) (rest := []) C (a_32 ad cy _) rfl (c_X1_hasBell l dC dI ad cy 32 k_isChimes_32 x2) h7 hM_X10_127 cal_X1_hasBell ⟨Nat.zero_le _, Nat.zero_le _⟩ ⟨rfl, rfl⟩ ⟨Nat.le_of_ble_eq_true rfl, Nat.le_of_ble_eq_true rfl⟩ rfl rfl (Nat.le_of_ble_eq_true rfl) dX10_nearest_16 ?_
    rcases oi_e hf with ⟨c8, hf⟩ | ⟨c8, hf⟩
    · refine g_if_ne_t (tgt := 24) C dX10_nearest_19 (by decide) c8 ?_
      refine g_iload_n C dX10_nearest_24 rfl 3 rfl ?_
      rcases oi_e hf with ⟨c9, hf⟩ | ⟨c9, hf⟩
      · refine g_if_eq_t (tgt := 42) C dX10_nearest_25 (by decide) c9 ?_
        exact g_sub [0, 1, 2, 3] rfl (fX10_nearest_b42_ok C σ6 x1 x2 x3 hf)
      · refine g_if_eq_f (tgt := 42) C dX10_nearest_25 (by decide) c9 ?_
        refine g_aload_n C dX10_nearest_28 rfl 0 rfl ?_
        refine g_get C (a_0 ad cy _) rfl hin_X10 2 (by decide) hF_X10_28 rfl rfl dX10_nearest_29 ?_
        refine g_iload_n C dX10_nearest_32 rfl 1 rfl ?_
        refine g_iload_n C dX10_nearest_33 rfl 3 rfl ?_
        obtain ⟨r10, σ11, h12, hf⟩ := obp_e hf
        refine g_callVi (As := [.int x1, .int x3]) (rest := []) C (a_22 ad cy _) rfl (c_X9_asksStroke l dC dI ad cy 22 k_isTown_22 x1 x3) h12 hM_X10_155 cal_X9_asksStroke ⟨Nat.zero_le _, Nat.zero_le _⟩ ⟨rfl, rfl⟩ ⟨Nat.le_of_ble_eq_true rfl, Nat.le_of_ble_eq_true rfl⟩ rfl rfl (Nat.le_of_ble_eq_true rfl) dX10_nearest_34 ?_
        rcases oi_e hf with ⟨c13, hf⟩ | ⟨c13, hf⟩
        · refine g_if_ne_t (tgt := 42) C dX10_nearest_37 (by decide) c13 ?_
          exact g_sub [0, 1, 2, 3] rfl (fX10_nearest_b42_ok C σ11 x1 x2 x3 hf)
        · refine g_if_ne_f (tgt := 42) C dX10_nearest_37 (by decide) (Decidable.of_not_not c13) ?_
          refine g_iconst (v := (-1)) C dX10_nearest_40 (by decide) ?_
          obtain ⟨rfl, rfl⟩ := os_e hf
          exact g_iret C rfl dX10_nearest_41
    · refine g_if_ne_f (tgt := 24) C dX10_nearest_19 (by decide) (Decidable.of_not_not c8) ?_
      refine g_iconst (v := (-1)) C dX10_nearest_22 (by decide) ?_
      obtain ⟨rfl, rfl⟩ := os_e hf
      exact g_iret C rfl dX10_nearest_23
theorem c_X10_nearest (l : Launch) (dC : Nat → ClassId) (dI : Nat → Nat → Nat) (ad : Nat → Nat) (cy : Nat → ClassId) (x1 : Int32) (x2 : Int32) (x3 : Int32) : ConI l yX10_nearest cX10_nearest 4 (some .int) rm_X10_nearest dC dI ad cy [.ref (ad 0), .int x1, .int x2, .int x3] (fun σ => fX10_nearest σ x1 x2 x3) := con_i (own := RX10) (by decide) rfl (Nat.le_of_ble_eq_true rfl) (fun _ _ _ _ _ _ _ _ σ _ _ C hf => fX10_nearest_ok C σ x1 x2 x3 hf)
theorem cal_X10_nearest : CalV yX10_nearest RX10 cX10_nearest 4 (some .int) 3 := ⟨hI_X10_nearest, hS_X10_nearest, hIni_X10, hC_X10_nearest, by decide +kernel⟩
abbrev rm_X10_dear : Room := { frames := 4, cells := 0, slots := 0, locals := 98 }
def fX10_dear_b65 (sf_21 : S0 → Int32 → Int32 → Int32 → Int32 → Option (Int32 × S0)) (σ : S0) (x1 : Int32) (x2 : Int32) (x3 : Int32) (x4 : Int32) : Option (Int32 × S0) := ol (x4 + 1) (fun v1 => sf_21 σ x1 x2 x3 v1)
set_option maxHeartbeats 1000000 in
set_option maxRecDepth 100000 in
theorem fX10_dear_b65_ok {p : Program} {l : Launch} {e : Env} {s : State} {m : MethodId} {args : Array Value} {below : List Frame} {meth : Method} {c : Code} {dC : Nat → ClassId} {dI : Nat → Nat → Nat} {ad : Nat → Nat} {cy : Nat → ClassId} {sz : Nat} (C : Cx p s m args meth c RX10 cX10_dear 5 (some .int) dC dI ad cy sz) {rr : Int32} {ρ : S0} (sf_21 : S0 → Int32 → Int32 → Int32 → Int32 → Option (Int32 × S0)) (hs_21 : ∀ (σ : S0) (x1 : Int32) (x2 : Int32) (x3 : Int32) (x4 : Int32) , sf_21 σ x1 x2 x3 x4 = some (rr, ρ) → Gw p l e rm_X10_dear s m args below meth c (MQ below (QcI dC dI ad cy sz rr ρ) args s 0 0 (AW ad sz)) dC dI ad cy 5 sz 0 0 21 [(0, .ref (ad 0)), (1, .int x1), (2, .int x2), (3, .int x3), (4, .int x4)] [] σ) (σ : S0) (x1 : Int32) (x2 : Int32) (x3 : Int32) (x4 : Int32)  (hf : fX10_dear_b65 sf_21 σ x1 x2 x3 x4 = some (rr, ρ)) : Gw p l e rm_X10_dear s m args below meth c (MQ below (QcI dC dI ad cy sz rr ρ) args s 0 0 (AW ad sz)) dC dI ad cy 5 sz 0 0 65 [(0, .ref (ad 0)), (1, .int x1), (2, .int x2), (3, .int x3), (4, .int x4)] [] σ := by
  unfold fX10_dear_b65 at hf
  obtain ⟨v1, ev1, hf⟩ := ol_e hf
  refine g_iinc (j := 4) (w := 1) (lv2 := [(0, .ref (ad 0)), (1, .int x1), (2, .int x2), (3, .int x3), (4, .int v1)]) C dX10_dear_65 rfl (by decide) ev1 (by decide) [1, 2, 3, 4, 0] rfl ?_
  refine g_goto (tgt := 21) C dX10_dear_68 (by decide) ?_
  exact g_sub [0, 1, 2, 3, 4] rfl (hs_21 σ x1 x2 x3 v1 hf)
def fX10_dear_b21 (sf_21 : S0 → Int32 → Int32 → Int32 → Int32 → Option (Int32 × S0)) (σ : S0) (x1 : Int32) (x2 : Int32) (x3 : Int32) (x4 : Int32) : Option (Int32 × S0) := if (σ 32 0) ≤ x4 then (some (x2, σ)) else (obp (fX4_find σ x1 x4) (fun r2 σ3 => if (σ3 55 4) ≤ x3 then (fX10_dear_b65 sf_21 σ3 x1 x2 x3 x4) else (ol (σ3 55 4) (fun v6 => fX10_dear_b65 sf_21 σ3 x1 x4 v6 x4))))
set_option maxHeartbeats 1000000 in
set_option maxRecDepth 100000 in
theorem fX10_dear_b21_ok {p : Program} {l : Launch} {e : Env} {s : State} {m : MethodId} {args : Array Value} {below : List Frame} {meth : Method} {c : Code} {dC : Nat → ClassId} {dI : Nat → Nat → Nat} {ad : Nat → Nat} {cy : Nat → ClassId} {sz : Nat} (C : Cx p s m args meth c RX10 cX10_dear 5 (some .int) dC dI ad cy sz) {rr : Int32} {ρ : S0} (sf_21 : S0 → Int32 → Int32 → Int32 → Int32 → Option (Int32 × S0)) (hs_21 : ∀ (σ : S0) (x1 : Int32) (x2 : Int32) (x3 : Int32) (x4 : Int32) , sf_21 σ x1 x2 x3 x4 = some (rr, ρ) → Gw p l e rm_X10_dear s m args below meth c (MQ below (QcI dC dI ad cy sz rr ρ) args s 0 0 (AW ad sz)) dC dI ad cy 5 sz 0 0 21 [(0, .ref (ad 0)), (1, .int x1), (2, .int x2), (3, .int x3), (4, .int x4)] [] σ) (σ : S0) (x1 : Int32) (x2 : Int32) (x3 : Int32) (x4 : Int32)  (hf : fX10_dear_b21 sf_21 σ x1 x2 x3 x4 = some (rr, ρ)) : Gw p l e rm_X10_dear s m args below meth c (MQ below (QcI dC dI ad cy sz rr ρ) args s 0 0 (AW ad sz)) dC dI ad cy 5 sz 0 0 21 [(0, .ref (ad 0)), (1, .int x1), (2, .int x2), (3, .int x3), (4, .int x4)] [] σ := by
  unfold fX10_dear_b21 at hf
  refine g_iload C dX10_dear_21 4 rfl ?_
  refine g_aload_n C dX10_dear_23 rfl 0 rfl ?_
  refine g_get C (a_0 ad cy _) rfl hin_X10 3 (by decide) hF_X10_36 rfl rfl dX10_dear_24 ?_
  refine g_get C (a_32 ad cy _) rfl hin_X1 0 (by decide) hF_X10_250 rfl rfl dX10_dear_27 ?_
  rcases oi_e hf with ⟨c1, hf⟩ | ⟨c1, hf⟩
  · refine g_icmp_ge_t (tgt := 71) C dX10_dear_30 (by decide) c1 ?_
    refine g_iload_n C dX10_dear_71 rfl 2 rfl ?_
    obtain ⟨rfl, rfl⟩ := os_e hf
    exact g_iret C rfl dX10_dear_72
  · refine g_icmp_ge_f (tgt := 71) C dX10_dear_30 (by decide) c1 ?_
    refine g_aload_n C dX10_dear_33 rfl 0 rfl ?_
    refine g_get C (a_0 ad cy _) rfl hin_X10 7 (by decide) hF_X10_65 rfl rfl dX10_dear_34 ?_
    refine g_iload_n C dX10_dear_37 rfl 1 rfl ?_
    refine g_iload C dX10_dear_38 4 rfl ?_
    obtain ⟨r2, σ3, h4, hf⟩ := obp_e hf
    refine g_callVv (As := [.int x1, .int x4]) (rest := []) C (a_55 ad cy _) rfl (c_X4_find l dC dI ad cy x1 x4) h4 hM_X10_240 cal_X4_find ⟨Nat.zero_le _, Nat.zero_le _⟩ ⟨rfl, rfl⟩ ⟨Nat.le_of_ble_eq_true rfl, Nat.le_of_ble_eq_true rfl⟩ rfl rfl (Nat.le_of_ble_eq_true rfl) dX10_dear_40 ?_
    refine g_aload_n C dX10_dear_43 rfl 0 rfl ?_
    refine g_get C (a_0 ad cy _) rfl hin_X10 7 (by decide) hF_X10_65 rfl rfl dX10_dear_44 ?_
    refine g_get C (a_55 ad cy _) rfl hin_X4 4 (by decide) hF_X10_243 rfl rfl dX10_dear_47 ?_
    refine g_iload_n C dX10_dear_50 rfl 3 rfl ?_
    rcases oi_e hf with ⟨c5, hf⟩ | ⟨c5, hf⟩
    · refine g_icmp_le_t (tgt := 65) C dX10_dear_51 (by decide) c5 ?_
      exact g_sub [0, 1, 2, 3, 4] rfl (fX10_dear_b65_ok C sf_21 hs_21 σ3 x1 x2 x3 x4 hf)
    · refine g_icmp_le_f (tgt := 65) C dX10_dear_51 (by decide) c5 ?_
      refine g_aload_n C dX10_dear_54 rfl 0 rfl ?_
      refine g_get C (a_0 ad cy _) rfl hin_X10 7 (by decide) hF_X10_65 rfl rfl dX10_dear_55 ?_
      refine g_get C (a_55 ad cy _) rfl hin_X4 4 (by decide) hF_X10_243 rfl rfl dX10_dear_58 ?_
      obtain ⟨v6, ev6, hf⟩ := ol_e hf
      refine g_nm ev6 ?_
      refine g_istore_n (lv2 := [(0, .ref (ad 0)), (1, .int x1), (2, .int x2), (3, .int v6), (4, .int x4)]) C dX10_dear_61 rfl (by decide) [1, 2, 3, 0, 4] rfl ?_
      refine g_iload C dX10_dear_62 4 rfl ?_
      refine g_istore_n (lv2 := [(0, .ref (ad 0)), (1, .int x1), (2, .int x4), (3, .int v6), (4, .int x4)]) C dX10_dear_64 rfl (by decide) [1, 2, 0, 3, 4] rfl ?_
      exact g_sub [0, 1, 2, 3, 4] rfl (fX10_dear_b65_ok C sf_21 hs_21 σ3 x1 x4 v6 x4 hf)
def fX10_dear_h21  : Nat → S0 → Int32 → Int32 → Int32 → Int32 → Option (Int32 × S0)
  | 0 => fun _ _ _ _ _ => none
  | n + 1 => fun σ x1 x2 x3 x4 => fX10_dear_b21  (fX10_dear_h21  n) σ x1 x2 x3 x4
set_option maxHeartbeats 1000000 in
set_option maxRecDepth 100000 in
theorem fX10_dear_h21_ok {p : Program} {l : Launch} {e : Env} {s : State} {m : MethodId} {args : Array Value} {below : List Frame} {meth : Method} {c : Code} {dC : Nat → ClassId} {dI : Nat → Nat → Nat} {ad : Nat → Nat} {cy : Nat → ClassId} {sz : Nat} (C : Cx p s m args meth c RX10 cX10_dear 5 (some .int) dC dI ad cy sz) {rr : Int32} {ρ : S0}  : ∀ (n : Nat) (σ : S0) (x1 : Int32) (x2 : Int32) (x3 : Int32) (x4 : Int32)  (_hf : fX10_dear_h21  n σ x1 x2 x3 x4 = some (rr, ρ)), Gw p l e rm_X10_dear s m args below meth c (MQ below (QcI dC dI ad cy sz rr ρ) args s 0 0 (AW ad sz)) dC dI ad cy 5 sz 0 0 21 [(0, .ref (ad 0)), (1, .int x1), (2, .int x2), (3, .int x3), (4, .int x4)] [] σ
  | 0, _, _, _, _, _, hf => by cases hf
  | n + 1, σ, x1, x2, x3, x4, hf => fX10_dear_b21_ok C  (fX10_dear_h21  n) (fX10_dear_h21_ok C  n) σ x1 x2 x3 x4 hf
def fX10_dear (σ : S0) (x1 : Int32) : Option (Int32 × S0) := obp (fX9_hasTune σ 22 x1) (fun r1 σ2 => if ¬ r1 = 0 then (fX10_dear_h21 400 σ2 x1 ((-4)) ((-1)) 0) else (some ((-1), σ2)))
set_option maxHeartbeats 1000000 in
set_option maxRecDepth 100000 in
theorem fX10_dear_ok {p : Program} {l : Launch} {e : Env} {s : State} {m : MethodId} {args : Array Value} {below : List Frame} {meth : Method} {c : Code} {dC : Nat → ClassId} {dI : Nat → Nat → Nat} {ad : Nat → Nat} {cy : Nat → ClassId} {sz : Nat} (C : Cx p s m args meth c RX10 cX10_dear 5 (some .int) dC dI ad cy sz) {rr : Int32} {ρ : S0} (σ : S0) (x1 : Int32)  (hf : fX10_dear σ x1 = some (rr, ρ)) : Gw p l e rm_X10_dear s m args below meth c (MQ below (QcI dC dI ad cy sz rr ρ) args s 0 0 (AW ad sz)) dC dI ad cy 5 sz 0 0 0 [(0, .ref (ad 0)), (1, .int x1)] [] σ := by
  unfold fX10_dear at hf
  refine g_aload_n C dX10_dear_0 rfl 0 rfl ?_
  refine g_get C (a_0 ad cy _) rfl hin_X10 2 (by decide) hF_X10_28 rfl rfl dX10_dear_1 ?_
  refine g_iload_n C dX10_dear_4 rfl 1 rfl ?_
  obtain ⟨r1, σ2, h3, hf⟩ := obp_e hf
  refine g_callVi (As := [.int x1]) (rest := []) C (a_22 ad cy _) rfl (c_X9_hasTune l dC dI ad cy 22 k_isTown_22 x1) h3 hM_X10_147 cal_X9_hasTune ⟨Nat.zero_le _, Nat.zero_le _⟩ ⟨rfl, rfl⟩ ⟨Nat.le_of_ble_eq_true rfl, Nat.le_of_ble_eq_true rfl⟩ rfl rfl (Nat.le_of_ble_eq_true rfl) dX10_dear_5 ?_
  rcases oi_e hf with ⟨c4, hf⟩ | ⟨c4, hf⟩
  · refine g_if_ne_t (tgt := 13) C dX10_dear_8 (by decide) c4 ?_
    refine g_bipush (v := (-4)) C dX10_dear_13 (by decide) ?_
    refine g_istore_n (lv2 := [(0, .ref (ad 0)), (1, .int x1), (2, .int ((-4)))]) C dX10_dear_15 rfl (by decide) [1, 2, 0] rfl ?_
    refine g_iconst (v := (-1)) C dX10_dear_16 (by decide) ?_
    refine g_istore_n (lv2 := [(0, .ref (ad 0)), (1, .int x1), (2, .int ((-4))), (3, .int ((-1)))]) C dX10_dear_17 rfl (by decide) [1, 2, 3, 0] rfl ?_
    refine g_iconst (v := 0) C dX10_dear_18 (by decide) ?_
    refine g_istore (lv2 := [(0, .ref (ad 0)), (1, .int x1), (2, .int ((-4))), (3, .int ((-1))), (4, .int 0)]) C dX10_dear_19 (by decide) [1, 2, 3, 4, 0] rfl ?_
    exact g_sub [0, 1, 2, 3, 4] rfl (fX10_dear_h21_ok C 400 σ2 x1 ((-4)) ((-1)) 0 hf)
  · refine g_if_ne_f (tgt := 13) C dX10_dear_8 (by decide) (Decidable.of_not_not c4) ?_
    refine g_iconst (v := (-1)) C dX10_dear_11 (by decide) ?_
    obtain ⟨rfl, rfl⟩ := os_e hf
    exact g_iret C rfl dX10_dear_12
theorem c_X10_dear (l : Launch) (dC : Nat → ClassId) (dI : Nat → Nat → Nat) (ad : Nat → Nat) (cy : Nat → ClassId) (x1 : Int32) : ConI l yX10_dear cX10_dear 5 (some .int) rm_X10_dear dC dI ad cy [.ref (ad 0), .int x1] (fun σ => fX10_dear σ x1) := con_i (own := RX10) (by decide) rfl (Nat.le_of_ble_eq_true rfl) (fun _ _ _ _ _ _ _ _ σ _ _ C hf => fX10_dear_ok C σ x1 hf)
theorem cal_X10_dear : CalV yX10_dear RX10 cX10_dear 5 (some .int) 1 := ⟨hI_X10_dear, hS_X10_dear, hIni_X10, hC_X10_dear, by decide +kernel⟩
abbrev rm_X10_storm : Room := { frames := 2, cells := 0, slots := 0, locals := 44 }
def fX10_storm_b79 (sf_33 : S0 → Int32 → Int32 → Int32 → Int32 → Int32 → Int32 → Option (Int32 × S0)) (σ : S0) (x1 : Int32) (x2 : Int32) (x3 : Int32) (x5 : Int32) (x6 : Int32) (t0 : Int32) (t1 : Int32) : Option (Int32 × S0) := ol (t1 + t0) (fun v1 => og (¬ (x6 < 0 ∨ 12 ≤ x6.toNatClampNeg)) (ol (σ 34 x6.toNatClampNeg) (fun v3 => ol (x5 + (2 * v3)) (fun v4 => ol (x6 + 1) (fun v5 => sf_33 σ x1 x2 x3 v1 v4 v5)))))
set_option maxHeartbeats 1000000 in
set_option maxRecDepth 100000 in
theorem fX10_storm_b79_ok {p : Program} {l : Launch} {e : Env} {s : State} {m : MethodId} {args : Array Value} {below : List Frame} {meth : Method} {c : Code} {dC : Nat → ClassId} {dI : Nat → Nat → Nat} {ad : Nat → Nat} {cy : Nat → ClassId} {sz : Nat} (C : Cx p s m args meth c RX10 cX10_storm 7 (some .int) dC dI ad cy sz) {rr : Int32} {ρ : S0} (sf_33 : S0 → Int32 → Int32 → Int32 → Int32 → Int32 → Int32 → Option (Int32 × S0)) (hs_33 : ∀ (σ : S0) (x1 : Int32) (x2 : Int32) (x3 : Int32) (x4 : Int32) (x5 : Int32) (x6 : Int32) , sf_33 σ x1 x2 x3 x4 x5 x6 = some (rr, ρ) → Gw p l e rm_X10_storm s m args below meth c (MQ below (QcI dC dI ad cy sz rr ρ) args s 0 0 (AW ad sz)) dC dI ad cy 7 sz 0 0 33 [(0, .ref (ad 0)), (1, .int x1), (2, .int x2), (3, .int x3), (4, .int x4), (5, .int x5), (6, .int x6)] [] σ) (σ : S0) (x1 : Int32) (x2 : Int32) (x3 : Int32) (x5 : Int32) (x6 : Int32) (t0 : Int32) (t1 : Int32)  (hf : fX10_storm_b79 sf_33 σ x1 x2 x3 x5 x6 t0 t1 = some (rr, ρ)) : Gw p l e rm_X10_storm s m args below meth c (MQ below (QcI dC dI ad cy sz rr ρ) args s 0 0 (AW ad sz)) dC dI ad cy 7 sz 0 0 79 [(0, .ref (ad 0)), (1, .int x1), (2, .int x2), (3, .int x3), (5, .int x5), (6, .int x6)] [.int t0, .int t1] σ := by
  unfold fX10_storm_b79 at hf
  refine g_iadd C dX10_storm_79 ?_
  obtain ⟨v1, ev1, hf⟩ := ol_e hf
  refine g_nm ev1 ?_
  refine g_istore (lv2 := [(0, .ref (ad 0)), (1, .int x1), (2, .int x2), (3, .int x3), (4, .int v1), (5, .int x5), (6, .int x6)]) C dX10_storm_80 (by decide) [1, 2, 3, 4, 0, 5, 6] rfl ?_
  refine g_iload C dX10_storm_82 5 rfl ?_
  refine g_iconst (v := 2) C dX10_storm_84 (by decide) ?_
  refine g_aload_n C dX10_storm_85 rfl 0 rfl ?_
  refine g_get C (a_0 ad cy _) rfl hin_X10 3 (by decide) hF_X10_36 rfl rfl dX10_storm_86 ?_
  refine g_get C (a_32 ad cy _) rfl hin_X1 2 (by decide) hF_X10_135 rfl rfl dX10_storm_89 ?_
  refine g_iload C dX10_storm_92 6 rfl ?_
  obtain ⟨h2, hf⟩ := og_e hf
  refine g_iald C (a_34 ad cy _) h2 dX10_storm_94 ?_
  obtain ⟨v3, ev3, hf⟩ := ol_e hf
  refine g_nm ev3 ?_
  refine g_imul C dX10_storm_95 ?_
  refine g_iadd C dX10_storm_96 ?_
  obtain ⟨v4, ev4, hf⟩ := ol_e hf
  refine g_nm ev4 ?_
  refine g_istore (lv2 := [(0, .ref (ad 0)), (1, .int x1), (2, .int x2), (3, .int x3), (4, .int v1), (5, .int v4), (6, .int x6)]) C dX10_storm_97 (by decide) [1, 2, 3, 4, 5, 0, 6] rfl ?_
  obtain ⟨v5, ev5, hf⟩ := ol_e hf
  refine g_iinc (j := 6) (w := 1) (lv2 := [(0, .ref (ad 0)), (1, .int x1), (2, .int x2), (3, .int x3), (4, .int v1), (5, .int v4), (6, .int v5)]) C dX10_storm_99 rfl (by decide) ev5 (by decide) [1, 2, 3, 4, 5, 6, 0] rfl ?_
  refine g_goto (tgt := 33) C dX10_storm_102 (by decide) ?_
  exact g_sub [0, 1, 2, 3, 4, 5, 6] rfl (hs_33 σ x1 x2 x3 v1 v4 v5 hf)
def fX10_storm_b33 (sf_33 : S0 → Int32 → Int32 → Int32 → Int32 → Int32 → Int32 → Option (Int32 × S0)) (σ : S0) (x1 : Int32) (x2 : Int32) (x3 : Int32) (x4 : Int32) (x5 : Int32) (x6 : Int32) : Option (Int32 × S0) := if (σ 32 0) ≤ x6 then (if ¬ x2 = 0 then (some ((((σ 32 0) * x3) - (x5 * x4)) + 100000, σ)) else (some (x3, σ))) else (obp (fX1_shareOf σ 32 x1 x6) (fun r3 σ4 => ol (x3 + r3) (fun v6 => og (¬ (x6 < 0 ∨ 12 ≤ x6.toNatClampNeg)) (ol (σ4 33 x6.toNatClampNeg) (fun v8 => if ¬ v8 = x1 then (fX10_storm_b79 sf_33 σ4 x1 x2 v6 x5 x6 0 x4) else (fX10_storm_b79 sf_33 σ4 x1 x2 v6 x5 x6 1 x4))))))
set_option maxHeartbeats 1000000 in
set_option maxRecDepth 100000 in
theorem fX10_storm_b33_ok {p : Program} {l : Launch} {e : Env} {s : State} {m : MethodId} {args : Array Value} {below : List Frame} {meth : Method} {c : Code} {dC : Nat → ClassId} {dI : Nat → Nat → Nat} {ad : Nat → Nat} {cy : Nat → ClassId} {sz : Nat} (C : Cx p s m args meth c RX10 cX10_storm 7 (some .int) dC dI ad cy sz) {rr : Int32} {ρ : S0} (sf_33 : S0 → Int32 → Int32 → Int32 → Int32 → Int32 → Int32 → Option (Int32 × S0)) (hs_33 : ∀ (σ : S0) (x1 : Int32) (x2 : Int32) (x3 : Int32) (x4 : Int32) (x5 : Int32) (x6 : Int32) , sf_33 σ x1 x2 x3 x4 x5 x6 = some (rr, ρ) → Gw p l e rm_X10_storm s m args below meth c (MQ below (QcI dC dI ad cy sz rr ρ) args s 0 0 (AW ad sz)) dC dI ad cy 7 sz 0 0 33 [(0, .ref (ad 0)), (1, .int x1), (2, .int x2), (3, .int x3), (4, .int x4), (5, .int x5), (6, .int x6)] [] σ) (σ : S0) (x1 : Int32) (x2 : Int32) (x3 : Int32) (x4 : Int32) (x5 : Int32) (x6 : Int32)  (hf : fX10_storm_b33 sf_33 σ x1 x2 x3 x4 x5 x6 = some (rr, ρ)) : Gw p l e rm_X10_storm s m args below meth c (MQ below (QcI dC dI ad cy sz rr ρ) args s 0 0 (AW ad sz)) dC dI ad cy 7 sz 0 0 33 [(0, .ref (ad 0)), (1, .int x1), (2, .int x2), (3, .int x3), (4, .int x4), (5, .int x5), (6, .int x6)] [] σ := by
  unfold fX10_storm_b33 at hf
  refine g_iload C dX10_storm_33 6 rfl ?_
  refine g_aload_n C dX10_storm_35 rfl 0 rfl ?_
  refine g_get C (a_0 ad cy _) rfl hin_X10 3 (by decide) hF_X10_36 rfl rfl dX10_storm_36 ?_
  refine g_get C (a_32 ad cy _) rfl hin_X1 0 (by decide) hF_X10_250 rfl rfl dX10_storm_39 ?_
  rcases oi_e hf with ⟨c1, hf⟩ | ⟨c1, hf⟩
  · refine g_icmp_ge_t (tgt := 105) C dX10_storm_42 (by decide) c1 ?_
    refine g_iload_n C dX10_storm_105 rfl 2 rfl ?_
    rcases oi_e hf with ⟨c2, hf⟩ | ⟨c2, hf⟩
    · refine g_if_ne_t (tgt := 113) C dX10_storm_106 (by decide) c2 ?_
      refine g_aload_n C dX10_storm_113 rfl 0 rfl ?_
      refine g_get C (a_0 ad cy _) rfl hin_X10 3 (by decide) hF_X10_36 rfl rfl dX10_storm_114 ?_
      refine g_get C (a_32 ad cy _) rfl hin_X1 0 (by decide) hF_X10_250 rfl rfl dX10_storm_117 ?_
      refine g_iload_n C dX10_storm_120 rfl 3 rfl ?_
      refine g_imul C dX10_storm_121 ?_
      refine g_iload C dX10_storm_122 5 rfl ?_
      refine g_iload C dX10_storm_124 4 rfl ?_
      refine g_imul C dX10_storm_126 ?_
      refine g_isub C dX10_storm_127 ?_
      refine g_ldc (v := 100000) C dX10_storm_128 hK_X10_254 ?_
      refine g_iadd C dX10_storm_130 ?_
      obtain ⟨rfl, rfl⟩ := os_e hf
      exact g_iret C rfl dX10_storm_131
    · refine g_if_ne_f (tgt := 113) C dX10_storm_106 (by decide) (Decidable.of_not_not c2) ?_
      refine g_iload_n C dX10_storm_109 rfl 3 rfl ?_
      refine g_goto (tgt := 131) C dX10_storm_110 (by decide) ?_
      obtain ⟨rfl, rfl⟩ := os_e hf
      exact g_iret C rfl dX10_storm_131
  · refine g_icmp_ge_f (tgt := 105) C dX10_storm_42 (by decide) c1 ?_
    refine g_iload_n C dX10_storm_45 rfl 3 rfl ?_
    refine g_aload_n C dX10_storm_46 rfl 0 rfl ?_
    refine g_get C (a_0 ad cy _) rfl hin_X10 3 (by decide) hF_X10_36 rfl rfl dX10_storm_47 ?_
    refine g_iload_n C dX10_storm_50 rfl 1 rfl ?_
    refine g_iload C dX10_storm_51 6 rfl ?_
    obtain ⟨r3, σ4, h5, hf⟩ := obp_e hf
    refine g_callVi (As := [.int x1, .int x6]) (rest := [.int x3]) C (a_32 ad cy _) rfl (c_X1_shareOf l dC dI ad cy 32 k_isChimes_32 x1 x6) h5 hM_X10_253 cal_X1_shareOf ⟨Nat.zero_le _, Nat.zero_le _⟩ ⟨rfl, rfl⟩ ⟨Nat.le_of_ble_eq_true rfl, Nat.le_of_ble_eq_true rfl⟩ rfl rfl (Nat.le_of_ble_eq_true rfl) dX10_storm_53 ?_
    refine g_iadd C dX10_storm_56 ?_
    obtain ⟨v6, ev6, hf⟩ := ol_e hf
    refine g_nm ev6 ?_
    refine g_istore_n (lv2 := [(0, .ref (ad 0)), (1, .int x1), (2, .int x2), (3, .int v6), (4, .int x4), (5, .int x5), (6, .int x6)]) C dX10_storm_57 rfl (by decide) [1, 2, 3, 0, 4, 5, 6] rfl ?_
    refine g_iload C dX10_storm_58 4 rfl ?_
    refine g_aload_n C dX10_storm_60 rfl 0 rfl ?_
    refine g_get C (a_0 ad cy _) rfl hin_X10 3 (by decide) hF_X10_36 rfl rfl dX10_storm_61 ?_
    refine g_get C (a_32 ad cy _) rfl hin_X1 1 (by decide) hF_X10_131 rfl rfl dX10_storm_64 ?_
    refine g_iload C dX10_storm_67 6 rfl ?_
    obtain ⟨h7, hf⟩ := og_e hf
    refine g_iald C (a_33 ad cy _) h7 dX10_storm_69 ?_
    obtain ⟨v8, ev8, hf⟩ := ol_e hf
    refine g_nm ev8 ?_
    refine g_iload_n C dX10_storm_70 rfl 1 rfl ?_
    rcases oi_e hf with ⟨c9, hf⟩ | ⟨c9, hf⟩
    · refine g_icmp_ne_t (tgt := 78) C dX10_storm_71 (by decide) c9 ?_
      refine g_iconst (v := 0) C dX10_storm_78 (by decide) ?_
      exact g_sub [0, 1, 2, 3, 5, 6] rfl (fX10_storm_b79_ok C sf_33 hs_33 σ4 x1 x2 v6 x5 x6 0 x4 hf)
    · refine g_icmp_ne_f (tgt := 78) C dX10_storm_71 (by decide) (Decidable.of_not_not c9) ?_
      refine g_iconst (v := 1) C dX10_storm_74 (by decide) ?_
      refine g_goto (tgt := 79) C dX10_storm_75 (by decide) ?_
      exact g_sub [0, 1, 2, 3, 5, 6] rfl (fX10_storm_b79_ok C sf_33 hs_33 σ4 x1 x2 v6 x5 x6 1 x4 hf)
def fX10_storm_h33  : Nat → S0 → Int32 → Int32 → Int32 → Int32 → Int32 → Int32 → Option (Int32 × S0)
  | 0 => fun _ _ _ _ _ _ _ => none
  | n + 1 => fun σ x1 x2 x3 x4 x5 x6 => fX10_storm_b33  (fX10_storm_h33  n) σ x1 x2 x3 x4 x5 x6
set_option maxHeartbeats 1000000 in
set_option maxRecDepth 100000 in
theorem fX10_storm_h33_ok {p : Program} {l : Launch} {e : Env} {s : State} {m : MethodId} {args : Array Value} {below : List Frame} {meth : Method} {c : Code} {dC : Nat → ClassId} {dI : Nat → Nat → Nat} {ad : Nat → Nat} {cy : Nat → ClassId} {sz : Nat} (C : Cx p s m args meth c RX10 cX10_storm 7 (some .int) dC dI ad cy sz) {rr : Int32} {ρ : S0}  : ∀ (n : Nat) (σ : S0) (x1 : Int32) (x2 : Int32) (x3 : Int32) (x4 : Int32) (x5 : Int32) (x6 : Int32)  (_hf : fX10_storm_h33  n σ x1 x2 x3 x4 x5 x6 = some (rr, ρ)), Gw p l e rm_X10_storm s m args below meth c (MQ below (QcI dC dI ad cy sz rr ρ) args s 0 0 (AW ad sz)) dC dI ad cy 7 sz 0 0 33 [(0, .ref (ad 0)), (1, .int x1), (2, .int x2), (3, .int x3), (4, .int x4), (5, .int x5), (6, .int x6)] [] σ
  | 0, _, _, _, _, _, _, _, hf => by cases hf
  | n + 1, σ, x1, x2, x3, x4, x5, x6, hf => fX10_storm_b33_ok C  (fX10_storm_h33  n) (fX10_storm_h33_ok C  n) σ x1 x2 x3 x4 x5 x6 hf
def fX10_storm (σ : S0) (x1 : Int32) (x2 : Int32) : Option (Int32 × S0) := obp (fX9_hasHouse σ 22 x1) (fun r1 σ2 => if r1 = 0 then (some ((-1), σ2)) else (if x2 < 0 then (some ((-1), σ2)) else (if x2 ≤ 1 then (fX10_storm_h33 400 σ2 x1 x2 0 0 0 0) else (some ((-1), σ2)))))
set_option maxHeartbeats 1000000 in
set_option maxRecDepth 100000 in
theorem fX10_storm_ok {p : Program} {l : Launch} {e : Env} {s : State} {m : MethodId} {args : Array Value} {below : List Frame} {meth : Method} {c : Code} {dC : Nat → ClassId} {dI : Nat → Nat → Nat} {ad : Nat → Nat} {cy : Nat → ClassId} {sz : Nat} (C : Cx p s m args meth c RX10 cX10_storm 7 (some .int) dC dI ad cy sz) {rr : Int32} {ρ : S0} (σ : S0) (x1 : Int32) (x2 : Int32)  (hf : fX10_storm σ x1 x2 = some (rr, ρ)) : Gw p l e rm_X10_storm s m args below meth c (MQ below (QcI dC dI ad cy sz rr ρ) args s 0 0 (AW ad sz)) dC dI ad cy 7 sz 0 0 0 [(0, .ref (ad 0)), (1, .int x1), (2, .int x2)] [] σ := by
  unfold fX10_storm at hf
  refine g_aload_n C dX10_storm_0 rfl 0 rfl ?_
  refine g_get C (a_0 ad cy _) rfl hin_X10 2 (by decide) hF_X10_28 rfl rfl dX10_storm_1 ?_
  refine g_iload_n C dX10_storm_4 rfl 1 rfl ?_
  obtain ⟨r1, σ2, h3, hf⟩ := obp_e hf
  refine g_callVi (As := [.int x1]) (rest := []) C (a_22 ad cy _) rfl (c_X9_hasHouse l dC dI ad cy 22 k_isTown_22 x1) h3 hM_X10_163 cal_X9_hasHouse ⟨Nat.zero_le _, Nat.zero_le _⟩ ⟨rfl, rfl⟩ ⟨Nat.le_of_ble_eq_true rfl, Nat.le_of_ble_eq_true rfl⟩ rfl rfl (Nat.le_of_ble_eq_true rfl) dX10_storm_5 ?_
  rcases oi_e hf with ⟨c4, hf⟩ | ⟨c4, hf⟩
  · refine g_if_eq_t (tgt := 20) C dX10_storm_8 (by decide) c4 ?_
    refine g_iconst (v := (-1)) C dX10_storm_20 (by decide) ?_
    obtain ⟨rfl, rfl⟩ := os_e hf
    exact g_iret C rfl dX10_storm_21
  · refine g_if_eq_f (tgt := 20) C dX10_storm_8 (by decide) c4 ?_
    refine g_iload_n C dX10_storm_11 rfl 2 rfl ?_
    rcases oi_e hf with ⟨c5, hf⟩ | ⟨c5, hf⟩
    · refine g_if_lt_t (tgt := 20) C dX10_storm_12 (by decide) c5 ?_
      refine g_iconst (v := (-1)) C dX10_storm_20 (by decide) ?_
      obtain ⟨rfl, rfl⟩ := os_e hf
      exact g_iret C rfl dX10_storm_21
    · refine g_if_lt_f (tgt := 20) C dX10_storm_12 (by decide) c5 ?_
      refine g_iload_n C dX10_storm_15 rfl 2 rfl ?_
      refine g_iconst (v := 1) C dX10_storm_16 (by decide) ?_
      rcases oi_e hf with ⟨c6, hf⟩ | ⟨c6, hf⟩
      · refine g_icmp_le_t (tgt := 22) C dX10_storm_17 (by decide) c6 ?_
        refine g_iconst (v := 0) C dX10_storm_22 (by decide) ?_
        refine g_istore_n (lv2 := [(0, .ref (ad 0)), (1, .int x1), (2, .int x2), (3, .int 0)]) C dX10_storm_23 rfl (by decide) [1, 2, 3, 0] rfl ?_
        refine g_iconst (v := 0) C dX10_storm_24 (by decide) ?_
        refine g_istore (lv2 := [(0, .ref (ad 0)), (1, .int x1), (2, .int x2), (3, .int 0), (4, .int 0)]) C dX10_storm_25 (by decide) [1, 2, 3, 4, 0] rfl ?_
        refine g_iconst (v := 0) C dX10_storm_27 (by decide) ?_
        refine g_istore (lv2 := [(0, .ref (ad 0)), (1, .int x1), (2, .int x2), (3, .int 0), (4, .int 0), (5, .int 0)]) C dX10_storm_28 (by decide) [1, 2, 3, 4, 5, 0] rfl ?_
        refine g_iconst (v := 0) C dX10_storm_30 (by decide) ?_
        refine g_istore (lv2 := [(0, .ref (ad 0)), (1, .int x1), (2, .int x2), (3, .int 0), (4, .int 0), (5, .int 0), (6, .int 0)]) C dX10_storm_31 (by decide) [1, 2, 3, 4, 5, 6, 0] rfl ?_
        exact g_sub [0, 1, 2, 3, 4, 5, 6] rfl (fX10_storm_h33_ok C 400 σ2 x1 x2 0 0 0 0 hf)
      · refine g_icmp_le_f (tgt := 22) C dX10_storm_17 (by decide) c6 ?_
        refine g_iconst (v := (-1)) C dX10_storm_20 (by decide) ?_
        obtain ⟨rfl, rfl⟩ := os_e hf
        exact g_iret C rfl dX10_storm_21
theorem c_X10_storm (l : Launch) (dC : Nat → ClassId) (dI : Nat → Nat → Nat) (ad : Nat → Nat) (cy : Nat → ClassId) (x1 : Int32) (x2 : Int32) : ConI l yX10_storm cX10_storm 7 (some .int) rm_X10_storm dC dI ad cy [.ref (ad 0), .int x1, .int x2] (fun σ => fX10_storm σ x1 x2) := con_i (own := RX10) (by decide) rfl (Nat.le_of_ble_eq_true rfl) (fun _ _ _ _ _ _ _ _ σ _ _ C hf => fX10_storm_ok C σ x1 x2 hf)
theorem cal_X10_storm : CalV yX10_storm RX10 cX10_storm 7 (some .int) 2 := ⟨hI_X10_storm, hS_X10_storm, hIni_X10, hC_X10_storm, by decide +kernel⟩
abbrev rm_X10_pour : Room := { frames := 2, cells := 0, slots := 0, locals := 45 }
def fX10_pour_b90 (sf_27 : S0 → Int32 → Int32 → Int32 → Int32 → Int32 → Int32 → Int32 → Int32 → Option (Int32 × S0)) (σ : S0) (x1 : Int32) (x2 : Int32) (x3 : Int32) (x4 : Int32) (x5 : Int32) (x6 : Int32) (x7 : Int32) (x8 : Int32) : Option (Int32 × S0) := ol (x8 + 1) (fun v1 => sf_27 σ x1 x2 x3 x4 x5 x6 x7 v1)
set_option maxHeartbeats 1000000 in
set_option maxRecDepth 100000 in
theorem fX10_pour_b90_ok {p : Program} {l : Launch} {e : Env} {s : State} {m : MethodId} {args : Array Value} {below : List Frame} {meth : Method} {c : Code} {dC : Nat → ClassId} {dI : Nat → Nat → Nat} {ad : Nat → Nat} {cy : Nat → ClassId} {sz : Nat} (C : Cx p s m args meth c RX10 cX10_pour 11 (some .int) dC dI ad cy sz) {rr : Int32} {ρ : S0} (sf_27 : S0 → Int32 → Int32 → Int32 → Int32 → Int32 → Int32 → Int32 → Int32 → Option (Int32 × S0)) (hs_27 : ∀ (σ : S0) (x1 : Int32) (x2 : Int32) (x3 : Int32) (x4 : Int32) (x5 : Int32) (x6 : Int32) (x7 : Int32) (x8 : Int32) , sf_27 σ x1 x2 x3 x4 x5 x6 x7 x8 = some (rr, ρ) → Gw p l e rm_X10_pour s m args below meth c (MQ below (QcI dC dI ad cy sz rr ρ) args s 0 0 (AW ad sz)) dC dI ad cy 11 sz 0 0 27 [(0, .ref (ad 0)), (1, .int x1), (2, .int x2), (3, .int x3), (4, .int x4), (5, .int x5), (6, .int x6), (7, .int x7), (8, .int x8)] [] σ) (σ : S0) (x1 : Int32) (x2 : Int32) (x3 : Int32) (x4 : Int32) (x5 : Int32) (x6 : Int32) (x7 : Int32) (x8 : Int32)  (hf : fX10_pour_b90 sf_27 σ x1 x2 x3 x4 x5 x6 x7 x8 = some (rr, ρ)) : Gw p l e rm_X10_pour s m args below meth c (MQ below (QcI dC dI ad cy sz rr ρ) args s 0 0 (AW ad sz)) dC dI ad cy 11 sz 0 0 90 [(0, .ref (ad 0)), (1, .int x1), (2, .int x2), (3, .int x3), (4, .int x4), (5, .int x5), (6, .int x6), (7, .int x7), (8, .int x8)] [] σ := by
  unfold fX10_pour_b90 at hf
  obtain ⟨v1, ev1, hf⟩ := ol_e hf
  refine g_iinc (j := 8) (w := 1) (lv2 := [(0, .ref (ad 0)), (1, .int x1), (2, .int x2), (3, .int x3), (4, .int x4), (5, .int x5), (6, .int x6), (7, .int x7), (8, .int v1)]) C dX10_pour_90 rfl (by decide) ev1 (by decide) [1, 2, 3, 4, 5, 6, 7, 8, 0] rfl ?_
  refine g_goto (tgt := 27) C dX10_pour_93 (by decide) ?_
  exact g_sub [0, 1, 2, 3, 4, 5, 6, 7, 8] rfl (hs_27 σ x1 x2 x3 x4 x5 x6 x7 v1 hf)
def fX10_pour_b87 (sf_27 : S0 → Int32 → Int32 → Int32 → Int32 → Int32 → Int32 → Int32 → Int32 → Option (Int32 × S0)) (σ : S0) (x1 : Int32) (x2 : Int32) (x3 : Int32) (x4 : Int32) (x5 : Int32) (x6 : Int32) (x7 : Int32) (x8 : Int32) : Option (Int32 × S0) := ol (x7 + 1) (fun v1 => fX10_pour_b90 sf_27 σ x1 x2 x3 x4 x5 x6 v1 x8)
set_option maxHeartbeats 1000000 in
set_option maxRecDepth 100000 in
theorem fX10_pour_b87_ok {p : Program} {l : Launch} {e : Env} {s : State} {m : MethodId} {args : Array Value} {below : List Frame} {meth : Method} {c : Code} {dC : Nat → ClassId} {dI : Nat → Nat → Nat} {ad : Nat → Nat} {cy : Nat → ClassId} {sz : Nat} (C : Cx p s m args meth c RX10 cX10_pour 11 (some .int) dC dI ad cy sz) {rr : Int32} {ρ : S0} (sf_27 : S0 → Int32 → Int32 → Int32 → Int32 → Int32 → Int32 → Int32 → Int32 → Option (Int32 × S0)) (hs_27 : ∀ (σ : S0) (x1 : Int32) (x2 : Int32) (x3 : Int32) (x4 : Int32) (x5 : Int32) (x6 : Int32) (x7 : Int32) (x8 : Int32) , sf_27 σ x1 x2 x3 x4 x5 x6 x7 x8 = some (rr, ρ) → Gw p l e rm_X10_pour s m args below meth c (MQ below (QcI dC dI ad cy sz rr ρ) args s 0 0 (AW ad sz)) dC dI ad cy 11 sz 0 0 27 [(0, .ref (ad 0)), (1, .int x1), (2, .int x2), (3, .int x3), (4, .int x4), (5, .int x5), (6, .int x6), (7, .int x7), (8, .int x8)] [] σ) (σ : S0) (x1 : Int32) (x2 : Int32) (x3 : Int32) (x4 : Int32) (x5 : Int32) (x6 : Int32) (x7 : Int32) (x8 : Int32)  (hf : fX10_pour_b87 sf_27 σ x1 x2 x3 x4 x5 x6 x7 x8 = some (rr, ρ)) : Gw p l e rm_X10_pour s m args below meth c (MQ below (QcI dC dI ad cy sz rr ρ) args s 0 0 (AW ad sz)) dC dI ad cy 11 sz 0 0 87 [(0, .ref (ad 0)), (1, .int x1), (2, .int x2), (3, .int x3), (4, .int x4), (5, .int x5), (6, .int x6), (7, .int x7), (8, .int x8)] [] σ := by
  unfold fX10_pour_b87 at hf
  obtain ⟨v1, ev1, hf⟩ := ol_e hf
  refine g_iinc (j := 7) (w := 1) (lv2 := [(0, .ref (ad 0)), (1, .int x1), (2, .int x2), (3, .int x3), (4, .int x4), (5, .int x5), (6, .int x6), (7, .int v1), (8, .int x8)]) C dX10_pour_87 rfl (by decide) ev1 (by decide) [1, 2, 3, 4, 5, 6, 7, 0, 8] rfl ?_
  exact g_sub [0, 1, 2, 3, 4, 5, 6, 7, 8] rfl (fX10_pour_b90_ok C sf_27 hs_27 σ x1 x2 x3 x4 x5 x6 v1 x8 hf)
def fX10_pour_b27 (sf_27 : S0 → Int32 → Int32 → Int32 → Int32 → Int32 → Int32 → Int32 → Int32 → Option (Int32 × S0)) (σ : S0) (x1 : Int32) (x2 : Int32) (x3 : Int32) (x4 : Int32) (x5 : Int32) (x6 : Int32) (x7 : Int32) (x8 : Int32) : Option (Int32 × S0) := if (σ 22 0) ≤ x8 then (og (¬ ((x3 : Int32)) = 0) (ol (x4 / x3) (fun v3 => if x6 ≤ x7 then (some (v3 + 0, σ)) else (some (v3 + 1, σ))))) else (obp (fX2_strokesOf σ x8) (fun r5 σ6 => ol (x1 * r5) (fun v8 => og (¬ ((x3 : Int32)) = 0) (ol (v8 / x3) (fun v10 => ol (x6 - v10) (fun v11 => og (¬ ((x3 : Int32)) = 0) (ol (v8 - v8 / x3 * x3) (fun v13 => if x5 < v13 then (fX10_pour_b87 sf_27 σ6 x1 x2 x3 x4 x5 v11 x7 x8) else (if ¬ v13 = x5 then (fX10_pour_b90 sf_27 σ6 x1 x2 x3 x4 x5 v11 x7 x8) else (if x2 ≤ x8 then (fX10_pour_b90 sf_27 σ6 x1 x2 x3 x4 x5 v11 x7 x8) else (fX10_pour_b87 sf_27 σ6 x1 x2 x3 x4 x5 v11 x7 x8)))))))))))
set_option maxHeartbeats 1000000 in
set_option maxRecDepth 100000 in
theorem fX10_pour_b27_ok {p : Program} {l : Launch} {e : Env} {s : State} {m : MethodId} {args : Array Value} {below : List Frame} {meth : Method} {c : Code} {dC : Nat → ClassId} {dI : Nat → Nat → Nat} {ad : Nat → Nat} {cy : Nat → ClassId} {sz : Nat} (C : Cx p s m args meth c RX10 cX10_pour 11 (some .int) dC dI ad cy sz) {rr : Int32} {ρ : S0} (sf_27 : S0 → Int32 → Int32 → Int32 → Int32 → Int32 → Int32 → Int32 → Int32 → Option (Int32 × S0)) (hs_27 : ∀ (σ : S0) (x1 : Int32) (x2 : Int32) (x3 : Int32) (x4 : Int32) (x5 : Int32) (x6 : Int32) (x7 : Int32) (x8 : Int32) , sf_27 σ x1 x2 x3 x4 x5 x6 x7 x8 = some (rr, ρ) → Gw p l e rm_X10_pour s m args below meth c (MQ below (QcI dC dI ad cy sz rr ρ) args s 0 0 (AW ad sz)) dC dI ad cy 11 sz 0 0 27 [(0, .ref (ad 0)), (1, .int x1), (2, .int x2), (3, .int x3), (4, .int x4), (5, .int x5), (6, .int x6), (7, .int x7), (8, .int x8)] [] σ) (σ : S0) (x1 : Int32) (x2 : Int32) (x3 : Int32) (x4 : Int32) (x5 : Int32) (x6 : Int32) (x7 : Int32) (x8 : Int32)  (hf : fX10_pour_b27 sf_27 σ x1 x2 x3 x4 x5 x6 x7 x8 = some (rr, ρ)) : Gw p l e rm_X10_pour s m args below meth c (MQ below (QcI dC dI ad cy sz rr ρ) args s 0 0 (AW ad sz)) dC dI ad cy 11 sz 0 0 27 [(0, .ref (ad 0)), (1, .int x1), (2, .int x2), (3, .int x3), (4, .int x4), (5, .int x5), (6, .int x6), (7, .int x7), (8, .int x8)] [] σ := by
  unfold fX10_pour_b27 at hf
  refine g_iload C dX10_pour_27 8 rfl ?_
  refine g_aload_n C dX10_pour_29 rfl 0 rfl ?_
  refine g_get C (a_0 ad cy _) rfl hin_X10 2 (by decide) hF_X10_28 rfl rfl dX10_pour_30 ?_
  refine g_get C (a_22 ad cy _) rfl hin_X9 0 (by decide) hF_X10_121 rfl rfl dX10_pour_33 ?_
  rcases oi_e hf with ⟨c1, hf⟩ | ⟨c1, hf⟩
  · refine g_icmp_ge_t (tgt := 96) C dX10_pour_36 (by decide) c1 ?_
    refine g_iload C dX10_pour_96 4 rfl ?_
    refine g_iload_n C dX10_pour_98 rfl 3 rfl ?_
    obtain ⟨h2, hf⟩ := og_e hf
    refine g_idiv C dX10_pour_99 h2 ?_
    obtain ⟨v3, ev3, hf⟩ := ol_e hf
    refine g_nm ev3 ?_
    refine g_iload C dX10_pour_100 7 rfl ?_
    refine g_iload C dX10_pour_102 6 rfl ?_
    rcases oi_e hf with ⟨c4, hf⟩ | ⟨c4, hf⟩
    · refine g_icmp_ge_t (tgt := 111) C dX10_pour_104 (by decide) c4 ?_
      refine g_iconst (v := 0) C dX10_pour_111 (by decide) ?_
      refine g_iadd C dX10_pour_112 ?_
      obtain ⟨rfl, rfl⟩ := os_e hf
      exact g_iret C rfl dX10_pour_113
    · refine g_icmp_ge_f (tgt := 111) C dX10_pour_104 (by decide) c4 ?_
      refine g_iconst (v := 1) C dX10_pour_107 (by decide) ?_
      refine g_goto (tgt := 112) C dX10_pour_108 (by decide) ?_
      refine g_iadd C dX10_pour_112 ?_
      obtain ⟨rfl, rfl⟩ := os_e hf
      exact g_iret C rfl dX10_pour_113
  · refine g_icmp_ge_f (tgt := 96) C dX10_pour_36 (by decide) c1 ?_
    refine g_iload_n C dX10_pour_39 rfl 1 rfl ?_
    refine g_aload_n C dX10_pour_40 rfl 0 rfl ?_
    refine g_get C (a_0 ad cy _) rfl hin_X10 6 (by decide) hF_X10_58 rfl rfl dX10_pour_41 ?_
    refine g_iload C dX10_pour_44 8 rfl ?_
    obtain ⟨r5, σ6, h7, hf⟩ := obp_e hf
    refine g_callVi (As := [.int x8]) (rest := [.int x1]) C (a_46 ad cy _) rfl (c_X2_strokesOf l dC dI ad cy x8) h7 hM_X10_258 cal_X2_strokesOf ⟨Nat.zero_le _, Nat.zero_le _⟩ ⟨rfl, rfl⟩ ⟨Nat.le_of_ble_eq_true rfl, Nat.le_of_ble_eq_true rfl⟩ rfl rfl (Nat.le_of_ble_eq_true rfl) dX10_pour_46 ?_
    refine g_imul C dX10_pour_49 ?_
    obtain ⟨v8, ev8, hf⟩ := ol_e hf
    refine g_nm ev8 ?_
    refine g_istore (lv2 := [(0, .ref (ad 0)), (1, .int x1), (2, .int x2), (3, .int x3), (4, .int x4), (5, .int x5), (6, .int x6), (7, .int x7), (8, .int x8), (9, .int v8)]) C dX10_pour_50 (by decide) [1, 2, 3, 4, 5, 6, 7, 8, 9, 0] rfl ?_
    refine g_iload C dX10_pour_52 6 rfl ?_
    refine g_iload C dX10_pour_54 9 rfl ?_
    refine g_iload_n C dX10_pour_56 rfl 3 rfl ?_
    obtain ⟨h9, hf⟩ := og_e hf
    refine g_idiv C dX10_pour_57 h9 ?_
    obtain ⟨v10, ev10, hf⟩ := ol_e hf
    refine g_nm ev10 ?_
    refine g_isub C dX10_pour_58 ?_
    obtain ⟨v11, ev11, hf⟩ := ol_e hf
    refine g_nm ev11 ?_
    refine g_istore (lv2 := [(0, .ref (ad 0)), (1, .int x1), (2, .int x2), (3, .int x3), (4, .int x4), (5, .int x5), (6, .int v11), (7, .int x7), (8, .int x8), (9, .int v8)]) C dX10_pour_59 (by decide) [1, 2, 3, 4, 5, 6, 0, 7, 8, 9] rfl ?_
    refine g_iload C dX10_pour_61 9 rfl ?_
    refine g_iload_n C dX10_pour_63 rfl 3 rfl ?_
    obtain ⟨h12, hf⟩ := og_e hf
    refine g_irem C dX10_pour_64 h12 ?_
    obtain ⟨v13, ev13, hf⟩ := ol_e hf
    refine g_nm ev13 ?_
    refine g_istore (lv2 := [(0, .ref (ad 0)), (1, .int x1), (2, .int x2), (3, .int x3), (4, .int x4), (5, .int x5), (6, .int v11), (7, .int x7), (8, .int x8), (9, .int v8), (10, .int v13)]) C dX10_pour_65 (by decide) [1, 2, 3, 4, 5, 6, 7, 8, 9, 10, 0] rfl ?_
    refine g_iload C dX10_pour_67 10 rfl ?_
    refine g_iload C dX10_pour_69 5 rfl ?_
    rcases oi_e hf with ⟨c14, hf⟩ | ⟨c14, hf⟩
    · refine g_icmp_gt_t (tgt := 87) C dX10_pour_71 (by decide) c14 ?_
      exact g_sub [0, 1, 2, 3, 4, 5, 6, 7, 8] rfl (fX10_pour_b87_ok C sf_27 hs_27 σ6 x1 x2 x3 x4 x5 v11 x7 x8 hf)
    · refine g_icmp_gt_f (tgt := 87) C dX10_pour_71 (by decide) c14 ?_
      refine g_iload C dX10_pour_74 10 rfl ?_
      refine g_iload C dX10_pour_76 5 rfl ?_
      rcases oi_e hf with ⟨c15, hf⟩ | ⟨c15, hf⟩
      · refine g_icmp_ne_t (tgt := 90) C dX10_pour_78 (by decide) c15 ?_
        exact g_sub [0, 1, 2, 3, 4, 5, 6, 7, 8] rfl (fX10_pour_b90_ok C sf_27 hs_27 σ6 x1 x2 x3 x4 x5 v11 x7 x8 hf)
      · refine g_icmp_ne_f (tgt := 90) C dX10_pour_78 (by decide) (Decidable.of_not_not c15) ?_
        refine g_iload C dX10_pour_81 8 rfl ?_
        refine g_iload_n C dX10_pour_83 rfl 2 rfl ?_
        rcases oi_e hf with ⟨c16, hf⟩ | ⟨c16, hf⟩
        · refine g_icmp_ge_t (tgt := 90) C dX10_pour_84 (by decide) c16 ?_
          exact g_sub [0, 1, 2, 3, 4, 5, 6, 7, 8] rfl (fX10_pour_b90_ok C sf_27 hs_27 σ6 x1 x2 x3 x4 x5 v11 x7 x8 hf)
        · refine g_icmp_ge_f (tgt := 90) C dX10_pour_84 (by decide) c16 ?_
          exact g_sub [0, 1, 2, 3, 4, 5, 6, 7, 8] rfl (fX10_pour_b87_ok C sf_27 hs_27 σ6 x1 x2 x3 x4 x5 v11 x7 x8 hf)
def fX10_pour_h27  : Nat → S0 → Int32 → Int32 → Int32 → Int32 → Int32 → Int32 → Int32 → Int32 → Option (Int32 × S0)
  | 0 => fun _ _ _ _ _ _ _ _ _ => none
  | n + 1 => fun σ x1 x2 x3 x4 x5 x6 x7 x8 => fX10_pour_b27  (fX10_pour_h27  n) σ x1 x2 x3 x4 x5 x6 x7 x8
set_option maxHeartbeats 1000000 in
set_option maxRecDepth 100000 in
theorem fX10_pour_h27_ok {p : Program} {l : Launch} {e : Env} {s : State} {m : MethodId} {args : Array Value} {below : List Frame} {meth : Method} {c : Code} {dC : Nat → ClassId} {dI : Nat → Nat → Nat} {ad : Nat → Nat} {cy : Nat → ClassId} {sz : Nat} (C : Cx p s m args meth c RX10 cX10_pour 11 (some .int) dC dI ad cy sz) {rr : Int32} {ρ : S0}  : ∀ (n : Nat) (σ : S0) (x1 : Int32) (x2 : Int32) (x3 : Int32) (x4 : Int32) (x5 : Int32) (x6 : Int32) (x7 : Int32) (x8 : Int32)  (_hf : fX10_pour_h27  n σ x1 x2 x3 x4 x5 x6 x7 x8 = some (rr, ρ)), Gw p l e rm_X10_pour s m args below meth c (MQ below (QcI dC dI ad cy sz rr ρ) args s 0 0 (AW ad sz)) dC dI ad cy 11 sz 0 0 27 [(0, .ref (ad 0)), (1, .int x1), (2, .int x2), (3, .int x3), (4, .int x4), (5, .int x5), (6, .int x6), (7, .int x7), (8, .int x8)] [] σ
  | 0, _, _, _, _, _, _, _, _, _, hf => by cases hf
  | n + 1, σ, x1, x2, x3, x4, x5, x6, x7, x8, hf => fX10_pour_b27_ok C  (fX10_pour_h27  n) (fX10_pour_h27_ok C  n) σ x1 x2 x3 x4 x5 x6 x7 x8 hf
def fX10_pour (σ : S0) (x1 : Int32) (x2 : Int32) (x3 : Int32) : Option (Int32 × S0) := obp (fX2_strokesOf σ x2) (fun r1 σ2 => ol (x1 * r1) (fun v4 => og (¬ ((x3 : Int32)) = 0) (ol (v4 - v4 / x3 * x3) (fun v6 => fX10_pour_h27 400 σ2 x1 x2 x3 v4 v6 x1 0 0))))
set_option maxHeartbeats 1000000 in
set_option maxRecDepth 100000 in
theorem fX10_pour_ok {p : Program} {l : Launch} {e : Env} {s : State} {m : MethodId} {args : Array Value} {below : List Frame} {meth : Method} {c : Code} {dC : Nat → ClassId} {dI : Nat → Nat → Nat} {ad : Nat → Nat} {cy : Nat → ClassId} {sz : Nat} (C : Cx p s m args meth c RX10 cX10_pour 11 (some .int) dC dI ad cy sz) {rr : Int32} {ρ : S0} (σ : S0) (x1 : Int32) (x2 : Int32) (x3 : Int32)  (hf : fX10_pour σ x1 x2 x3 = some (rr, ρ)) : Gw p l e rm_X10_pour s m args below meth c (MQ below (QcI dC dI ad cy sz rr ρ) args s 0 0 (AW ad sz)) dC dI ad cy 11 sz 0 0 0 [(0, .ref (ad 0)), (1, .int x1), (2, .int x2), (3, .int x3)] [] σ := by
  unfold fX10_pour at hf
  refine g_iload_n C dX10_pour_0 rfl 1 rfl ?_
  refine g_aload_n C dX10_pour_1 rfl 0 rfl ?_
  refine g_get C (a_0 ad cy _) rfl hin_X10 6 (by decide) hF_X10_58 rfl rfl dX10_pour_2 ?_
  refine g_iload_n C dX10_pour_5 rfl 2 rfl ?_
  obtain ⟨r1, σ2, h3, hf⟩ := obp_e hf
  refine g_callVi (As := [.int x2]) (rest := [.int x1]) C (a_46 ad cy _) rfl (c_X2_strokesOf l dC dI ad cy x2) h3 hM_X10_258 cal_X2_strokesOf ⟨Nat.zero_le _, Nat.zero_le _⟩ ⟨rfl, rfl⟩ ⟨Nat.le_of_ble_eq_true rfl, Nat.le_of_ble_eq_true rfl⟩ rfl rfl (Nat.le_of_ble_eq_true rfl) dX10_pour_6 ?_
  refine g_imul C dX10_pour_9 ?_
  obtain ⟨v4, ev4, hf⟩ := ol_e hf
  refine g_nm ev4 ?_
  refine g_istore (lv2 := [(0, .ref (ad 0)), (1, .int x1), (2, .int x2), (3, .int x3), (4, .int v4)]) C dX10_pour_10 (by decide) [1, 2, 3, 4, 0] rfl ?_
  refine g_iload C dX10_pour_12 4 rfl ?_
  refine g_iload_n C dX10_pour_14 rfl 3 rfl ?_
  obtain ⟨h5, hf⟩ := og_e hf
  refine g_irem C dX10_pour_15 h5 ?_
  obtain ⟨v6, ev6, hf⟩ := ol_e hf
  refine g_nm ev6 ?_
  refine g_istore (lv2 := [(0, .ref (ad 0)), (1, .int x1), (2, .int x2), (3, .int x3), (4, .int v4), (5, .int v6)]) C dX10_pour_16 (by decide) [1, 2, 3, 4, 5, 0] rfl ?_
  refine g_iload_n C dX10_pour_18 rfl 1 rfl ?_
  refine g_istore (lv2 := [(0, .ref (ad 0)), (1, .int x1), (2, .int x2), (3, .int x3), (4, .int v4), (5, .int v6), (6, .int x1)]) C dX10_pour_19 (by decide) [1, 2, 3, 4, 5, 6, 0] rfl ?_
  refine g_iconst (v := 0) C dX10_pour_21 (by decide) ?_
  refine g_istore (lv2 := [(0, .ref (ad 0)), (1, .int x1), (2, .int x2), (3, .int x3), (4, .int v4), (5, .int v6), (6, .int x1), (7, .int 0)]) C dX10_pour_22 (by decide) [1, 2, 3, 4, 5, 6, 7, 0] rfl ?_
  refine g_iconst (v := 0) C dX10_pour_24 (by decide) ?_
  refine g_istore (lv2 := [(0, .ref (ad 0)), (1, .int x1), (2, .int x2), (3, .int x3), (4, .int v4), (5, .int v6), (6, .int x1), (7, .int 0), (8, .int 0)]) C dX10_pour_25 (by decide) [1, 2, 3, 4, 5, 6, 7, 8, 0] rfl ?_
  exact g_sub [0, 1, 2, 3, 4, 5, 6, 7, 8] rfl (fX10_pour_h27_ok C 400 σ2 x1 x2 x3 v4 v6 x1 0 0 hf)
theorem c_X10_pour (l : Launch) (dC : Nat → ClassId) (dI : Nat → Nat → Nat) (ad : Nat → Nat) (cy : Nat → ClassId) (x1 : Int32) (x2 : Int32) (x3 : Int32) : ConI l yX10_pour cX10_pour 11 (some .int) rm_X10_pour dC dI ad cy [.ref (ad 0), .int x1, .int x2, .int x3] (fun σ => fX10_pour σ x1 x2 x3) := con_i (own := RX10) (by decide) rfl (Nat.le_of_ble_eq_true rfl) (fun _ _ _ _ _ _ _ _ σ _ _ C hf => fX10_pour_ok C σ x1 x2 x3 hf)
theorem cal_X10_pour : CalV yX10_pour RX10 cX10_pour 11 (some .int) 3 := ⟨hI_X10_pour, hS_X10_pour, hIni_X10, hC_X10_pour, by decide +kernel⟩
abbrev rm_X10_wine : Room := { frames := 3, cells := 0, slots := 0, locals := 75 }
def fX10_wine_b36 (sf_36 : S0 → Int32 → Int32 → Int32 → Int32 → Option (Int32 × S0)) (σ : S0) (x1 : Int32) (x2 : Int32) (x3 : Int32) (x4 : Int32) : Option (Int32 × S0) := if (σ 22 0) ≤ x4 then (if ¬ x3 = 0 then (obp (fX10_pour σ x1 x2 x3) (fun r3 σ4 => some (r3, σ4))) else (some ((-4), σ))) else (obp (fX2_strokesOf σ x4) (fun r6 σ7 => ol (x3 + r6) (fun v9 => ol (x4 + 1) (fun v10 => sf_36 σ7 x1 x2 v9 v10))))
set_option maxHeartbeats 1000000 in
set_option maxRecDepth 100000 in
theorem fX10_wine_b36_ok {p : Program} {l : Launch} {e : Env} {s : State} {m : MethodId} {args : Array Value} {below : List Frame} {meth : Method} {c : Code} {dC : Nat → ClassId} {dI : Nat → Nat → Nat} {ad : Nat → Nat} {cy : Nat → ClassId} {sz : Nat} (C : Cx p s m args meth c RX10 cX10_wine 5 (some .int) dC dI ad cy sz) {rr : Int32} {ρ : S0} (sf_36 : S0 → Int32 → Int32 → Int32 → Int32 → Option (Int32 × S0)) (hs_36 : ∀ (σ : S0) (x1 : Int32) (x2 : Int32) (x3 : Int32) (x4 : Int32) , sf_36 σ x1 x2 x3 x4 = some (rr, ρ) → Gw p l e rm_X10_wine s m args below meth c (MQ below (QcI dC dI ad cy sz rr ρ) args s 0 0 (AW ad sz)) dC dI ad cy 5 sz 0 0 36 [(0, .ref (ad 0)), (1, .int x1), (2, .int x2), (3, .int x3), (4, .int x4)] [] σ) (σ : S0) (x1 : Int32) (x2 : Int32) (x3 : Int32) (x4 : Int32)  (hf : fX10_wine_b36 sf_36 σ x1 x2 x3 x4 = some (rr, ρ)) : Gw p l e rm_X10_wine s m args below meth c (MQ below (QcI dC dI ad cy sz rr ρ) args s 0 0 (AW ad sz)) dC dI ad cy 5 sz 0 0 36 [(0, .ref (ad 0)), (1, .int x1), (2, .int x2), (3, .int x3), (4, .int x4)] [] σ := by
  unfold fX10_wine_b36 at hf
  refine g_iload C dX10_wine_36 4 rfl ?_
  refine g_aload_n C dX10_wine_38 rfl 0 rfl ?_
  refine g_get C (a_0 ad cy _) rfl hin_X10 2 (by decide) hF_X10_28 rfl rfl dX10_wine_39 ?_
  refine g_get C (a_22 ad cy _) rfl hin_X9 0 (by decide) hF_X10_121 rfl rfl dX10_wine_42 ?_
  rcases oi_e hf with ⟨c1, hf⟩ | ⟨c1, hf⟩
  · refine g_icmp_ge_t (tgt := 66) C dX10_wine_45 (by decide) c1 ?_
    refine g_iload_n C dX10_wine_66 rfl 3 rfl ?_
    rcases oi_e hf with ⟨c2, hf⟩ | ⟨c2, hf⟩
    · refine g_if_ne_t (tgt := 75) C dX10_wine_67 (by decide) c2 ?_
      refine g_aload_n C dX10_wine_75 rfl 0 rfl ?_
      refine g_iload_n C dX10_wine_76 rfl 1 rfl ?_
      refine g_iload_n C dX10_wine_77 rfl 2 rfl ?_
      refine g_iload_n C dX10_wine_78 rfl 3 rfl ?_
      obtain ⟨r3, σ4, h5, hf⟩ := obp_e hf
      refine g_callVi (As := [.int x1, .int x2, .int x3]) (rest := []) C (a_0 ad cy _) rfl (c_X10_pour l dC dI ad cy x1 x2 x3) h5 hM_X10_261 cal_X10_pour ⟨Nat.zero_le _, Nat.zero_le _⟩ ⟨rfl, rfl⟩ ⟨Nat.le_of_ble_eq_true rfl, Nat.le_of_ble_eq_true rfl⟩ rfl rfl (Nat.le_of_ble_eq_true rfl) dX10_wine_79 ?_
      obtain ⟨rfl, rfl⟩ := os_e hf
      exact g_iret C rfl dX10_wine_82
    · refine g_if_ne_f (tgt := 75) C dX10_wine_67 (by decide) (Decidable.of_not_not c2) ?_
      refine g_bipush (v := (-4)) C dX10_wine_70 (by decide) ?_
      refine g_goto (tgt := 82) C dX10_wine_72 (by decide) ?_
      obtain ⟨rfl, rfl⟩ := os_e hf
      exact g_iret C rfl dX10_wine_82
  · refine g_icmp_ge_f (tgt := 66) C dX10_wine_45 (by decide) c1 ?_
    refine g_iload_n C dX10_wine_48 rfl 3 rfl ?_
    refine g_aload_n C dX10_wine_49 rfl 0 rfl ?_
    refine g_get C (a_0 ad cy _) rfl hin_X10 6 (by decide) hF_X10_58 rfl rfl dX10_wine_50 ?_
    refine g_iload C dX10_wine_53 4 rfl ?_
    obtain ⟨r6, σ7, h8, hf⟩ := obp_e hf
    refine g_callVi (As := [.int x4]) (rest := [.int x3]) C (a_46 ad cy _) rfl (c_X2_strokesOf l dC dI ad cy x4) h8 hM_X10_258 cal_X2_strokesOf ⟨Nat.zero_le _, Nat.zero_le _⟩ ⟨rfl, rfl⟩ ⟨Nat.le_of_ble_eq_true rfl, Nat.le_of_ble_eq_true rfl⟩ rfl rfl (Nat.le_of_ble_eq_true rfl) dX10_wine_55 ?_
    refine g_iadd C dX10_wine_58 ?_
    obtain ⟨v9, ev9, hf⟩ := ol_e hf
    refine g_nm ev9 ?_
    refine g_istore_n (lv2 := [(0, .ref (ad 0)), (1, .int x1), (2, .int x2), (3, .int v9), (4, .int x4)]) C dX10_wine_59 rfl (by decide) [1, 2, 3, 0, 4] rfl ?_
    obtain ⟨v10, ev10, hf⟩ := ol_e hf
    refine g_iinc (j := 4) (w := 1) (lv2 := [(0, .ref (ad 0)), (1, .int x1), (2, .int x2), (3, .int v9), (4, .int v10)]) C dX10_wine_60 rfl (by decide) ev10 (by decide) [1, 2, 3, 4, 0] rfl ?_
    refine g_goto (tgt := 36) C dX10_wine_63 (by decide) ?_
    exact g_sub [0, 1, 2, 3, 4] rfl (hs_36 σ7 x1 x2 v9 v10 hf)
def fX10_wine_h36  : Nat → S0 → Int32 → Int32 → Int32 → Int32 → Option (Int32 × S0)
  | 0 => fun _ _ _ _ _ => none
  | n + 1 => fun σ x1 x2 x3 x4 => fX10_wine_b36  (fX10_wine_h36  n) σ x1 x2 x3 x4
set_option maxHeartbeats 1000000 in
set_option maxRecDepth 100000 in
theorem fX10_wine_h36_ok {p : Program} {l : Launch} {e : Env} {s : State} {m : MethodId} {args : Array Value} {below : List Frame} {meth : Method} {c : Code} {dC : Nat → ClassId} {dI : Nat → Nat → Nat} {ad : Nat → Nat} {cy : Nat → ClassId} {sz : Nat} (C : Cx p s m args meth c RX10 cX10_wine 5 (some .int) dC dI ad cy sz) {rr : Int32} {ρ : S0}  : ∀ (n : Nat) (σ : S0) (x1 : Int32) (x2 : Int32) (x3 : Int32) (x4 : Int32)  (_hf : fX10_wine_h36  n σ x1 x2 x3 x4 = some (rr, ρ)), Gw p l e rm_X10_wine s m args below meth c (MQ below (QcI dC dI ad cy sz rr ρ) args s 0 0 (AW ad sz)) dC dI ad cy 5 sz 0 0 36 [(0, .ref (ad 0)), (1, .int x1), (2, .int x2), (3, .int x3), (4, .int x4)] [] σ
  | 0, _, _, _, _, _, hf => by cases hf
  | n + 1, σ, x1, x2, x3, x4, hf => fX10_wine_b36_ok C  (fX10_wine_h36  n) (fX10_wine_h36_ok C  n) σ x1 x2 x3 x4 hf
def fX10_wine (σ : S0) (x1 : Int32) (x2 : Int32) : Option (Int32 × S0) := if x1 < 0 then (some ((-1), σ)) else (if (999 : Int32) < x1 then (some ((-1), σ)) else (obp (fX9_hasHouse σ 22 x2) (fun r3 σ4 => if ¬ r3 = 0 then (obp (fX2_ringAll σ4) (fun r7 σ8 => fX10_wine_h36 400 σ8 x1 x2 0 0)) else (some ((-1), σ4)))))
set_option maxHeartbeats 1000000 in
set_option maxRecDepth 100000 in
theorem fX10_wine_ok {p : Program} {l : Launch} {e : Env} {s : State} {m : MethodId} {args : Array Value} {below : List Frame} {meth : Method} {c : Code} {dC : Nat → ClassId} {dI : Nat → Nat → Nat} {ad : Nat → Nat} {cy : Nat → ClassId} {sz : Nat} (C : Cx p s m args meth c RX10 cX10_wine 5 (some .int) dC dI ad cy sz) {rr : Int32} {ρ : S0} (σ : S0) (x1 : Int32) (x2 : Int32)  (hf : fX10_wine σ x1 x2 = some (rr, ρ)) : Gw p l e rm_X10_wine s m args below meth c (MQ below (QcI dC dI ad cy sz rr ρ) args s 0 0 (AW ad sz)) dC dI ad cy 5 sz 0 0 0 [(0, .ref (ad 0)), (1, .int x1), (2, .int x2)] [] σ := by
  unfold fX10_wine at hf
  refine g_iload_n C dX10_wine_0 rfl 1 rfl ?_
  rcases oi_e hf with ⟨c1, hf⟩ | ⟨c1, hf⟩
  · refine g_if_lt_t (tgt := 22) C dX10_wine_1 (by decide) c1 ?_
    refine g_iconst (v := (-1)) C dX10_wine_22 (by decide) ?_
    obtain ⟨rfl, rfl⟩ := os_e hf
    exact g_iret C rfl dX10_wine_23
  · refine g_if_lt_f (tgt := 22) C dX10_wine_1 (by decide) c1 ?_
    refine g_iload_n C dX10_wine_4 rfl 1 rfl ?_
    refine g_sipush (v := 999) C dX10_wine_5 (by decide) ?_
    rcases oi_e hf with ⟨c2, hf⟩ | ⟨c2, hf⟩
    · refine g_icmp_gt_t (tgt := 22) C dX10_wine_8 (by decide) c2 ?_
      refine g_iconst (v := (-1)) C dX10_wine_22 (by decide) ?_
      obtain ⟨rfl, rfl⟩ := os_e hf
      exact g_iret C rfl dX10_wine_23
    · refine g_icmp_gt_f (tgt := 22) C dX10_wine_8 (by decide) c2 ?_
      refine g_aload_n C dX10_wine_11 rfl 0 rfl ?_
      refine g_get C (a_0 ad cy _) rfl hin_X10 2 (by decide) hF_X10_28 rfl rfl dX10_wine_12 ?_
      refine g_iload_n C dX10_wine_15 rfl 2 rfl ?_
      obtain ⟨r3, σ4, h5, hf⟩ := obp_e hf
      refine g_callVi (As := [.int x2]) (rest := []) C (a_22 ad cy _) rfl (c_X9_hasHouse l dC dI ad cy 22 k_isTown_22 x2) h5 hM_X10_163 cal_X9_hasHouse ⟨Nat.zero_le _, Nat.zero_le _⟩ ⟨rfl, rfl⟩ ⟨Nat.le_of_ble_eq_true rfl, Nat.le_of_ble_eq_true rfl⟩ rfl rfl (Nat.le_of_ble_eq_true rfl) dX10_wine_16 ?_
      rcases oi_e hf with ⟨c6, hf⟩ | ⟨c6, hf⟩
      · refine g_if_ne_t (tgt := 24) C dX10_wine_19 (by decide) c6 ?_
        refine g_aload_n C dX10_wine_24 rfl 0 rfl ?_
        refine g_get C (a_0 ad cy _) rfl hin_X10 6 (by decide) hF_X10_58 rfl rfl dX10_wine_25 ?_
        obtain ⟨r7, σ8, h9, hf⟩ := obp_e hf
        refine g_callVv (As := []) (rest := []) C (a_46 ad cy _) rfl (c_X2_ringAll l dC dI ad cy ) h9 hM_X10_255 cal_X2_ringAll ⟨Nat.zero_le _, Nat.zero_le _⟩ ⟨rfl, rfl⟩ ⟨Nat.le_of_ble_eq_true rfl, Nat.le_of_ble_eq_true rfl⟩ rfl rfl (Nat.le_of_ble_eq_true rfl) dX10_wine_28 ?_
        refine g_iconst (v := 0) C dX10_wine_31 (by decide) ?_
        refine g_istore_n (lv2 := [(0, .ref (ad 0)), (1, .int x1), (2, .int x2), (3, .int 0)]) C dX10_wine_32 rfl (by decide) [1, 2, 3, 0] rfl ?_
        refine g_iconst (v := 0) C dX10_wine_33 (by decide) ?_
        refine g_istore (lv2 := [(0, .ref (ad 0)), (1, .int x1), (2, .int x2), (3, .int 0), (4, .int 0)]) C dX10_wine_34 (by decide) [1, 2, 3, 4, 0] rfl ?_
        exact g_sub [0, 1, 2, 3, 4] rfl (fX10_wine_h36_ok C 400 σ8 x1 x2 0 0 hf)
      · refine g_if_ne_f (tgt := 24) C dX10_wine_19 (by decide) (Decidable.of_not_not c6) ?_
        refine g_iconst (v := (-1)) C dX10_wine_22 (by decide) ?_
        obtain ⟨rfl, rfl⟩ := os_e hf
        exact g_iret C rfl dX10_wine_23
theorem c_X10_wine (l : Launch) (dC : Nat → ClassId) (dI : Nat → Nat → Nat) (ad : Nat → Nat) (cy : Nat → ClassId) (x1 : Int32) (x2 : Int32) : ConI l yX10_wine cX10_wine 5 (some .int) rm_X10_wine dC dI ad cy [.ref (ad 0), .int x1, .int x2] (fun σ => fX10_wine σ x1 x2) := con_i (own := RX10) (by decide) rfl (Nat.le_of_ble_eq_true rfl) (fun _ _ _ _ _ _ _ _ σ _ _ C hf => fX10_wine_ok C σ x1 x2 hf)
theorem cal_X10_wine : CalV yX10_wine RX10 cX10_wine 5 (some .int) 2 := ⟨hI_X10_wine, hS_X10_wine, hIni_X10, hC_X10_wine, by decide +kernel⟩
end
section
abbrev rm_X10_hear : Room := { frames := 2, cells := 0, slots := 0, locals := 42 }
def fX10_hear (σ : S0) (x1 : Int32) : Option (Int32 × S0) := obp (fX1_canBeHeard σ 32 x1) (fun r1 σ2 => if ¬ r1 = 0 then (if (σ2 32 7) < 12 then (obp (fX1_addHeard σ2 32 x1) (fun r6 σ7 => some (σ7 32 7, σ7))) else (some ((-3), σ2))) else (some ((-1), σ2)))
set_option maxHeartbeats 1000000 in
set_option maxRecDepth 100000 in
theorem fX10_hear_ok {p : Program} {l : Launch} {e : Env} {s : State} {m : MethodId} {args : Array Value} {below : List Frame} {meth : Method} {c : Code} {dC : Nat → ClassId} {dI : Nat → Nat → Nat} {ad : Nat → Nat} {cy : Nat → ClassId} {sz : Nat} (C : Cx p s m args meth c RX10 cX10_hear 2 (some .int) dC dI ad cy sz) {rr : Int32} {ρ : S0} (σ : S0) (x1 : Int32)  (hf : fX10_hear σ x1 = some (rr, ρ)) : Gw p l e rm_X10_hear s m args below meth c (MQ below (QcI dC dI ad cy sz rr ρ) args s 0 0 (AW ad sz)) dC dI ad cy 2 sz 0 0 0 [(0, .ref (ad 0)), (1, .int x1)] [] σ := by
  unfold fX10_hear at hf
  refine g_aload_n C dX10_hear_0 rfl 0 rfl ?_
  refine g_get C (a_0 ad cy _) rfl hin_X10 3 (by decide) hF_X10_36 rfl rfl dX10_hear_1 ?_
  refine g_iload_n C dX10_hear_4 rfl 1 rfl ?_
  obtain ⟨r1, σ2, h3, hf⟩ := obp_e hf
  refine g_callVi (As := [.int x1]) (rest := []) C (a_32 ad cy _) rfl (c_X1_canBeHeard l dC dI ad cy 32 k_isChimes_32 x1) h3 hM_X10_264 cal_X1_canBeHeard ⟨Nat.zero_le _, Nat.zero_le _⟩ ⟨rfl, rfl⟩ ⟨Nat.le_of_ble_eq_true rfl, Nat.le_of_ble_eq_true rfl⟩ rfl rfl (Nat.le_of_ble_eq_true rfl) dX10_hear_5 ?_
  rcases oi_e hf with ⟨c4, hf⟩ | ⟨c4, hf⟩
  · refine g_if_ne_t (tgt := 13) C dX10_hear_8 (by decide) c4 ?_
    refine g_aload_n C dX10_hear_13 rfl 0 rfl ?_
    refine g_get C (a_0 ad cy _) rfl hin_X10 3 (by decide) hF_X10_36 rfl rfl dX10_hear_14 ?_
    refine g_get C (a_32 ad cy _) rfl hin_X1 7 (by decide) hF_X10_267 rfl rfl dX10_hear_17 ?_
    refine g_bipush (v := 12) C dX10_hear_20 (by decide) ?_
    rcases oi_e hf with ⟨c5, hf⟩ | ⟨c5, hf⟩
    · refine g_icmp_lt_t (tgt := 28) C dX10_hear_22 (by decide) c5 ?_
      refine g_aload_n C dX10_hear_28 rfl 0 rfl ?_
      refine g_get C (a_0 ad cy _) rfl hin_X10 3 (by decide) hF_X10_36 rfl rfl dX10_hear_29 ?_
      refine g_iload_n C dX10_hear_32 rfl 1 rfl ?_
      obtain ⟨r6, σ7, h8, hf⟩ := obp_e hf
      refine g_callVv (As := [.int x1]) (rest := []) C (a_32 ad cy _) rfl (c_X1_addHeard l dC dI ad cy 32 k_isChimes_32 x1) h8 hM_X10_270 cal_X1_addHeard ⟨Nat.zero_le _, Nat.zero_le _⟩ ⟨rfl, rfl⟩ ⟨Nat.le_of_ble_eq_true rfl, Nat.le_of_ble_eq_true rfl⟩ rfl rfl (Nat.le_of_ble_eq_true rfl) dX10_hear_33 ?_
      refine g_aload_n C dX10_hear_36 rfl 0 rfl ?_
      refine g_get C (a_0 ad cy _) rfl hin_X10 3 (by decide) hF_X10_36 rfl rfl dX10_hear_37 ?_
      refine g_get C (a_32 ad cy _) rfl hin_X1 7 (by decide) hF_X10_267 rfl rfl dX10_hear_40 ?_
      obtain ⟨rfl, rfl⟩ := os_e hf
      exact g_iret C rfl dX10_hear_43
    · refine g_icmp_lt_f (tgt := 28) C dX10_hear_22 (by decide) c5 ?_
      refine g_bipush (v := (-3)) C dX10_hear_25 (by decide) ?_
      obtain ⟨rfl, rfl⟩ := os_e hf
      exact g_iret C rfl dX10_hear_27
  · refine g_if_ne_f (tgt := 13) C dX10_hear_8 (by decide) (Decidable.of_not_not c4) ?_
    refine g_iconst (v := (-1)) C dX10_hear_11 (by decide) ?_
    obtain ⟨rfl, rfl⟩ := os_e hf
    exact g_iret C rfl dX10_hear_12
theorem c_X10_hear (l : Launch) (dC : Nat → ClassId) (dI : Nat → Nat → Nat) (ad : Nat → Nat) (cy : Nat → ClassId) (x1 : Int32) : ConI l yX10_hear cX10_hear 2 (some .int) rm_X10_hear dC dI ad cy [.ref (ad 0), .int x1] (fun σ => fX10_hear σ x1) := con_i (own := RX10) (by decide) rfl (Nat.le_of_ble_eq_true rfl) (fun _ _ _ _ _ _ _ _ σ _ _ C hf => fX10_hear_ok C σ x1 hf)
theorem cal_X10_hear : CalV yX10_hear RX10 cX10_hear 2 (some .int) 1 := ⟨hI_X10_hear, hS_X10_hear, hIni_X10, hC_X10_hear, by decide +kernel⟩
abbrev rm_X10_hush : Room := { frames := 0, cells := 0, slots := 0, locals := 0 }
def fX10_hush (σ : S0)  : Option (Int32 × S0) := ol (σ 32 7) (fun v1 => ol (su σ 32 7 0) (fun σ2 => some (v1, σ2)))
set_option maxHeartbeats 1000000 in
set_option maxRecDepth 100000 in
theorem fX10_hush_ok {p : Program} {l : Launch} {e : Env} {s : State} {m : MethodId} {args : Array Value} {below : List Frame} {meth : Method} {c : Code} {dC : Nat → ClassId} {dI : Nat → Nat → Nat} {ad : Nat → Nat} {cy : Nat → ClassId} {sz : Nat} (C : Cx p s m args meth c RX10 cX10_hush 2 (some .int) dC dI ad cy sz) {rr : Int32} {ρ : S0} (σ : S0)   (hf : fX10_hush σ = some (rr, ρ)) : Gw p l e rm_X10_hush s m args below meth c (MQ below (QcI dC dI ad cy sz rr ρ) args s 0 0 (AW ad sz)) dC dI ad cy 2 sz 0 0 0 [(0, .ref (ad 0))] [] σ := by
  unfold fX10_hush at hf
  refine g_aload_n C dX10_hush_0 rfl 0 rfl ?_
  refine g_get C (a_0 ad cy _) rfl hin_X10 3 (by decide) hF_X10_36 rfl rfl dX10_hush_1 ?_
  refine g_get C (a_32 ad cy _) rfl hin_X1 7 (by decide) hF_X10_267 rfl rfl dX10_hush_4 ?_
  obtain ⟨v1, ev1, hf⟩ := ol_e hf
  refine g_nm ev1 ?_
  refine g_istore_n (lv2 := [(0, .ref (ad 0)), (1, .int v1)]) C dX10_hush_7 rfl (by decide) [1, 0] rfl ?_
  refine g_aload_n C dX10_hush_8 rfl 0 rfl ?_
  refine g_get C (a_0 ad cy _) rfl hin_X10 3 (by decide) hF_X10_36 rfl rfl dX10_hush_9 ?_
  refine g_iconst (v := 0) C dX10_hush_12 (by decide) ?_
  obtain ⟨σ2, eσ2, hf⟩ := ol_e hf
  refine g_put (ty := .int) C (a_32 ad cy _) rfl hin_X1 tyX1 tyX1_ok nmX1 7 (by decide) hF_X10_267 rfl rfl (by decide +kernel) rfl rfl (Nat.le_of_ble_eq_true rfl) (p_32_7 ad cy _ _) eσ2 dX10_hush_13 ?_
  refine g_iload_n C dX10_hush_16 rfl 1 rfl ?_
  obtain ⟨rfl, rfl⟩ := os_e hf
  exact g_iret C rfl dX10_hush_17
theorem c_X10_hush (l : Launch) (dC : Nat → ClassId) (dI : Nat → Nat → Nat) (ad : Nat → Nat) (cy : Nat → ClassId)  : ConI l yX10_hush cX10_hush 2 (some .int) rm_X10_hush dC dI ad cy [.ref (ad 0)] (fun σ => fX10_hush σ) := con_i (own := RX10) (by decide) rfl (Nat.le_of_ble_eq_true rfl) (fun _ _ _ _ _ _ _ _ σ _ _ C hf => fX10_hush_ok C σ  hf)
theorem cal_X10_hush : CalV yX10_hush RX10 cX10_hush 2 (some .int) 0 := ⟨hI_X10_hush, hS_X10_hush, hIni_X10, hC_X10_hush, by decide +kernel⟩
abbrev rm_X10_fits : Room := { frames := 2, cells := 0, slots := 0, locals := 47 }
def fX10_fits (σ : S0) (x1 : Int32) : Option (Int32 × S0) := obp (fX9_hasTune σ 22 x1) (fun r1 σ2 => if ¬ r1 = 0 then (if ¬ (σ2 32 7) = 0 then (obp (fX3_canBe σ2 x1) (fun r6 σ7 => if r6 = 0 then (some (0, σ7)) else (some (1, σ7)))) else (some ((-2), σ2))) else (some ((-1), σ2)))
set_option maxHeartbeats 1000000 in
set_option maxRecDepth 100000 in
theorem fX10_fits_ok {p : Program} {l : Launch} {e : Env} {s : State} {m : MethodId} {args : Array Value} {below : List Frame} {meth : Method} {c : Code} {dC : Nat → ClassId} {dI : Nat → Nat → Nat} {ad : Nat → Nat} {cy : Nat → ClassId} {sz : Nat} (C : Cx p s m args meth c RX10 cX10_fits 2 (some .int) dC dI ad cy sz) {rr : Int32} {ρ : S0} (σ : S0) (x1 : Int32)  (hf : fX10_fits σ x1 = some (rr, ρ)) : Gw p l e rm_X10_fits s m args below meth c (MQ below (QcI dC dI ad cy sz rr ρ) args s 0 0 (AW ad sz)) dC dI ad cy 2 sz 0 0 0 [(0, .ref (ad 0)), (1, .int x1)] [] σ := by
  unfold fX10_fits at hf
  refine g_aload_n C dX10_fits_0 rfl 0 rfl ?_
  refine g_get C (a_0 ad cy _) rfl hin_X10 2 (by decide) hF_X10_28 rfl rfl dX10_fits_1 ?_
  refine g_iload_n C dX10_fits_4 rfl 1 rfl ?_
  obtain ⟨r1, σ2, h3, hf⟩ := obp_e hf
  refine g_callVi (As := [.int x1]) (rest := []) C (a_22 ad cy _) rfl (c_X9_hasTune l dC dI ad cy 22 k_isTown_22 x1) h3 hM_X10_147 cal_X9_hasTune ⟨Nat.zero_le _, Nat.zero_le _⟩ ⟨rfl, rfl⟩ ⟨Nat.le_of_ble_eq_true rfl, Nat.le_of_ble_eq_true rfl⟩ rfl rfl (Nat.le_of_ble_eq_true rfl) dX10_fits_5 ?_
  rcases oi_e hf with ⟨c4, hf⟩ | ⟨c4, hf⟩
  · refine g_if_ne_t (tgt := 13) C dX10_fits_8 (by decide) c4 ?_
    refine g_aload_n C dX10_fits_13 rfl 0 rfl ?_
    refine g_get C (a_0 ad cy _) rfl hin_X10 3 (by decide) hF_X10_36 rfl rfl dX10_fits_14 ?_
    refine g_get C (a_32 ad cy _) rfl hin_X1 7 (by decide) hF_X10_267 rfl rfl dX10_fits_17 ?_
    rcases oi_e hf with ⟨c5, hf⟩ | ⟨c5, hf⟩
    · refine g_if_ne_t (tgt := 26) C dX10_fits_20 (by decide) c5 ?_
      refine g_aload_n C dX10_fits_26 rfl 0 rfl ?_
      refine g_get C (a_0 ad cy _) rfl hin_X10 8 (by decide) hF_X10_72 rfl rfl dX10_fits_27 ?_
      refine g_iload_n C dX10_fits_30 rfl 1 rfl ?_
      obtain ⟨r6, σ7, h8, hf⟩ := obp_e hf
      refine g_callVi (As := [.int x1]) (rest := []) C (a_70 ad cy _) rfl (c_X3_canBe l dC dI ad cy x1) h8 hM_X10_273 cal_X3_canBe ⟨Nat.zero_le _, Nat.zero_le _⟩ ⟨rfl, rfl⟩ ⟨Nat.le_of_ble_eq_true rfl, Nat.le_of_ble_eq_true rfl⟩ rfl rfl (Nat.le_of_ble_eq_true rfl) dX10_fits_31 ?_
      rcases oi_e hf with ⟨c9, hf⟩ | ⟨c9, hf⟩
      · refine g_if_eq_t (tgt := 41) C dX10_fits_34 (by decide) c9 ?_
        refine g_iconst (v := 0) C dX10_fits_41 (by decide) ?_
        obtain ⟨rfl, rfl⟩ := os_e hf
        exact g_iret C rfl dX10_fits_42
      · refine g_if_eq_f (tgt := 41) C dX10_fits_34 (by decide) c9 ?_
        refine g_iconst (v := 1) C dX10_fits_37 (by decide) ?_
        refine g_goto (tgt := 42) C dX10_fits_38 (by decide) ?_
        obtain ⟨rfl, rfl⟩ := os_e hf
        exact g_iret C rfl dX10_fits_42
    · refine g_if_ne_f (tgt := 26) C dX10_fits_20 (by decide) (Decidable.of_not_not c5) ?_
      refine g_bipush (v := (-2)) C dX10_fits_23 (by decide) ?_
      obtain ⟨rfl, rfl⟩ := os_e hf
      exact g_iret C rfl dX10_fits_25
  · refine g_if_ne_f (tgt := 13) C dX10_fits_8 (by decide) (Decidable.of_not_not c4) ?_
    refine g_iconst (v := (-1)) C dX10_fits_11 (by decide) ?_
    obtain ⟨rfl, rfl⟩ := os_e hf
    exact g_iret C rfl dX10_fits_12
theorem c_X10_fits (l : Launch) (dC : Nat → ClassId) (dI : Nat → Nat → Nat) (ad : Nat → Nat) (cy : Nat → ClassId) (x1 : Int32) : ConI l yX10_fits cX10_fits 2 (some .int) rm_X10_fits dC dI ad cy [.ref (ad 0), .int x1] (fun σ => fX10_fits σ x1) := con_i (own := RX10) (by decide) rfl (Nat.le_of_ble_eq_true rfl) (fun _ _ _ _ _ _ _ _ σ _ _ C hf => fX10_fits_ok C σ x1 hf)
theorem cal_X10_fits : CalV yX10_fits RX10 cX10_fits 2 (some .int) 1 := ⟨hI_X10_fits, hS_X10_fits, hIni_X10, hC_X10_fits, by decide +kernel⟩
abbrev rm_X10_which : Room := { frames := 3, cells := 0, slots := 0, locals := 68 }
def fX10_which (σ : S0) (x1 : Int32) : Option (Int32 × S0) := if x1 < 0 then (some ((-1), σ)) else (if x1 ≤ 3 then (if ¬ (σ 32 7) = 0 then (obp (fX3_compareAll σ) (fun r4 σ5 => if ¬ x1 = 0 then (if ¬ (σ5 70 2) = 0 then (if ¬ x1 = 1 then (if ¬ x1 = 2 then (some (σ5 70 5, σ5)) else (some (σ5 70 4, σ5))) else (some (σ5 70 3, σ5))) else (some ((-4), σ5))) else (some (σ5 70 2, σ5)))) else (some ((-2), σ))) else (some ((-1), σ)))
set_option maxHeartbeats 1000000 in
set_option maxRecDepth 100000 in
theorem fX10_which_ok {p : Program} {l : Launch} {e : Env} {s : State} {m : MethodId} {args : Array Value} {below : List Frame} {meth : Method} {c : Code} {dC : Nat → ClassId} {dI : Nat → Nat → Nat} {ad : Nat → Nat} {cy : Nat → ClassId} {sz : Nat} (C : Cx p s m args meth c RX10 cX10_which 2 (some .int) dC dI ad cy sz) {rr : Int32} {ρ : S0} (σ : S0) (x1 : Int32)  (hf : fX10_which σ x1 = some (rr, ρ)) : Gw p l e rm_X10_which s m args below meth c (MQ below (QcI dC dI ad cy sz rr ρ) args s 0 0 (AW ad sz)) dC dI ad cy 2 sz 0 0 0 [(0, .ref (ad 0)), (1, .int x1)] [] σ := by
  unfold fX10_which at hf
  refine g_iload_n C dX10_which_0 rfl 1 rfl ?_
  rcases oi_e hf with ⟨c1, hf⟩ | ⟨c1, hf⟩
  · refine g_if_lt_t (tgt := 9) C dX10_which_1 (by decide) c1 ?_
    refine g_iconst (v := (-1)) C dX10_which_9 (by decide) ?_
    obtain ⟨rfl, rfl⟩ := os_e hf
    exact g_iret C rfl dX10_which_10
  · refine g_if_lt_f (tgt := 9) C dX10_which_1 (by decide) c1 ?_
    refine g_iload_n C dX10_which_4 rfl 1 rfl ?_
    refine g_iconst (v := 3) C dX10_which_5 (by decide) ?_
    rcases oi_e hf with ⟨c2, hf⟩ | ⟨c2, hf⟩
    · refine g_icmp_le_t (tgt := 11) C dX10_which_6 (by decide) c2 ?_
      refine g_aload_n C dX10_which_11 rfl 0 rfl ?_
      refine g_get C (a_0 ad cy _) rfl hin_X10 3 (by decide) hF_X10_36 rfl rfl dX10_which_12 ?_
      refine g_get C (a_32 ad cy _) rfl hin_X1 7 (by decide) hF_X10_267 rfl rfl dX10_which_15 ?_
      rcases oi_e hf with ⟨c3, hf⟩ | ⟨c3, hf⟩
      · refine g_if_ne_t (tgt := 24) C dX10_which_18 (by decide) c3 ?_
        refine g_aload_n C dX10_which_24 rfl 0 rfl ?_
        refine g_get C (a_0 ad cy _) rfl hin_X10 8 (by decide) hF_X10_72 rfl rfl dX10_which_25 ?_
        obtain ⟨r4, σ5, h6, hf⟩ := obp_e hf
        refine g_callVv (As := []) (rest := []) C (a_70 ad cy _) rfl (c_X3_compareAll l dC dI ad cy ) h6 hM_X10_276 cal_X3_compareAll ⟨Nat.zero_le _, Nat.zero_le _⟩ ⟨rfl, rfl⟩ ⟨Nat.le_of_ble_eq_true rfl, Nat.le_of_ble_eq_true rfl⟩ rfl rfl (Nat.le_of_ble_eq_true rfl) dX10_which_28 ?_
        refine g_iload_n C dX10_which_31 rfl 1 rfl ?_
        rcases oi_e hf with ⟨c7, hf⟩ | ⟨c7, hf⟩
        · refine g_if_ne_t (tgt := 43) C dX10_which_32 (by decide) c7 ?_
          refine g_aload_n C dX10_which_43 rfl 0 rfl ?_
          refine g_get C (a_0 ad cy _) rfl hin_X10 8 (by decide) hF_X10_72 rfl rfl dX10_which_44 ?_
          refine g_get C (a_70 ad cy _) rfl hin_X3 2 (by decide) hF_X10_279 rfl rfl dX10_which_47 ?_
          rcases oi_e hf with ⟨c8, hf⟩ | ⟨c8, hf⟩
          · refine g_if_ne_t (tgt := 56) C dX10_which_50 (by decide) c8 ?_
            refine g_iload_n C dX10_which_56 rfl 1 rfl ?_
            refine g_iconst (v := 1) C dX10_which_57 (by decide) ?_
            rcases oi_e hf with ⟨c9, hf⟩ | ⟨c9, hf⟩
            · refine g_icmp_ne_t (tgt := 69) C dX10_which_58 (by decide) c9 ?_
              refine g_iload_n C dX10_which_69 rfl 1 rfl ?_
              refine g_iconst (v := 2) C dX10_which_70 (by decide) ?_
              rcases oi_e hf with ⟨c10, hf⟩ | ⟨c10, hf⟩
              · refine g_icmp_ne_t (tgt := 84) C dX10_which_71 (by decide) c10 ?_
                refine g_aload_n C dX10_which_84 rfl 0 rfl ?_
                refine g_get C (a_0 ad cy _) rfl hin_X10 8 (by decide) hF_X10_72 rfl rfl dX10_which_85 ?_
                refine g_get C (a_70 ad cy _) rfl hin_X3 5 (by decide) hF_X10_288 rfl rfl dX10_which_88 ?_
                obtain ⟨rfl, rfl⟩ := os_e hf
                exact g_iret C rfl dX10_which_91
              · refine g_icmp_ne_f (tgt := 84) C dX10_which_71 (by decide) (Decidable.of_not_not c10) ?_
                refine g_aload_n C dX10_which_74 rfl 0 rfl ?_
                refine g_get C (a_0 ad cy _) rfl hin_X10 8 (by decide) hF_X10_72 rfl rfl dX10_which_75 ?_
                refine g_get C (a_70 ad cy _) rfl hin_X3 4 (by decide) hF_X10_285 rfl rfl dX10_which_78 ?_
                refine g_goto (tgt := 91) C dX10_which_81 (by decide) ?_
                obtain ⟨rfl, rfl⟩ := os_e hf
                exact g_iret C rfl dX10_which_91
            · refine g_icmp_ne_f (tgt := 69) C dX10_which_58 (by decide) (Decidable.of_not_not c9) ?_
              refine g_aload_n C dX10_which_61 rfl 0 rfl ?_
              refine g_get C (a_0 ad cy _) rfl hin_X10 8 (by decide) hF_X10_72 rfl rfl dX10_which_62 ?_
              refine g_get C (a_70 ad cy _) rfl hin_X3 3 (by decide) hF_X10_282 rfl rfl dX10_which_65 ?_
              obtain ⟨rfl, rfl⟩ := os_e hf
              exact g_iret C rfl dX10_which_68
          · refine g_if_ne_f (tgt := 56) C dX10_which_50 (by decide) (Decidable.of_not_not c8) ?_
            refine g_bipush (v := (-4)) C dX10_which_53 (by decide) ?_
            obtain ⟨rfl, rfl⟩ := os_e hf
            exact g_iret C rfl dX10_which_55
        · refine g_if_ne_f (tgt := 43) C dX10_which_32 (by decide) (Decidable.of_not_not c7) ?_
          refine g_aload_n C dX10_which_35 rfl 0 rfl ?_
          refine g_get C (a_0 ad cy _) rfl hin_X10 8 (by decide) hF_X10_72 rfl rfl dX10_which_36 ?_
          refine g_get C (a_70 ad cy _) rfl hin_X3 2 (by decide) hF_X10_279 rfl rfl dX10_which_39 ?_
          obtain ⟨rfl, rfl⟩ := os_e hf
          exact g_iret C rfl dX10_which_42
      · refine g_if_ne_f (tgt := 24) C dX10_which_18 (by decide) (Decidable.of_not_not c3) ?_
        refine g_bipush (v := (-2)) C dX10_which_21 (by decide) ?_
        obtain ⟨rfl, rfl⟩ := os_e hf
        exact g_iret C rfl dX10_which_23
    · refine g_icmp_le_f (tgt := 11) C dX10_which_6 (by decide) c2 ?_
      refine g_iconst (v := (-1)) C dX10_which_9 (by decide) ?_
      obtain ⟨rfl, rfl⟩ := os_e hf
      exact g_iret C rfl dX10_which_10
theorem c_X10_which (l : Launch) (dC : Nat → ClassId) (dI : Nat → Nat → Nat) (ad : Nat → Nat) (cy : Nat → ClassId) (x1 : Int32) : ConI l yX10_which cX10_which 2 (some .int) rm_X10_which dC dI ad cy [.ref (ad 0), .int x1] (fun σ => fX10_which σ x1) := con_i (own := RX10) (by decide) rfl (Nat.le_of_ble_eq_true rfl) (fun _ _ _ _ _ _ _ _ σ _ _ C hf => fX10_which_ok C σ x1 hf)
theorem cal_X10_which : CalV yX10_which RX10 cX10_which 2 (some .int) 1 := ⟨hI_X10_which, hS_X10_which, hIni_X10, hC_X10_which, by decide +kernel⟩
abbrev rm_X10_isImage : Room := { frames := 0, cells := 0, slots := 0, locals := 0 }
def fX10_isImage (σ : S0) (x0 : Int32) : Option (Int32 × S0) := if x0 < 0 then (some (0, σ)) else (if (2 : Int32) ≤ x0 then (some (0, σ)) else (some (1, σ)))
set_option maxHeartbeats 1000000 in
set_option maxRecDepth 100000 in
theorem fX10_isImage_ok {p : Program} {l : Launch} {e : Env} {s : State} {m : MethodId} {args : Array Value} {below : List Frame} {meth : Method} {c : Code} {dC : Nat → ClassId} {dI : Nat → Nat → Nat} {ad : Nat → Nat} {cy : Nat → ClassId} {sz : Nat} (C : Cx p s m args meth c RX10 cX10_isImage 1 (some .boolean) dC dI ad cy sz) {rr : Int32} {ρ : S0} (σ : S0) (x0 : Int32)  (hf : fX10_isImage σ x0 = some (rr, ρ)) : Gw p l e rm_X10_isImage s m args below meth c (MQ below (QcI dC dI ad cy sz rr ρ) args s 0 0 (AW ad sz)) dC dI ad cy 1 sz 0 0 0 [(0, .int x0)] [] σ := by
  unfold fX10_isImage at hf
  refine g_iload_n C dX10_isImage_0 rfl 0 rfl ?_
  rcases oi_e hf with ⟨c1, hf⟩ | ⟨c1, hf⟩
  · refine g_if_lt_t (tgt := 13) C dX10_isImage_1 (by decide) c1 ?_
    refine g_iconst (v := 0) C dX10_isImage_13 (by decide) ?_
    obtain ⟨rfl, rfl⟩ := os_e hf
    exact g_zret C rfl (by decide) dX10_isImage_14
  · refine g_if_lt_f (tgt := 13) C dX10_isImage_1 (by decide) c1 ?_
    refine g_iload_n C dX10_isImage_4 rfl 0 rfl ?_
    refine g_iconst (v := 2) C dX10_isImage_5 (by decide) ?_
    rcases oi_e hf with ⟨c2, hf⟩ | ⟨c2, hf⟩
    · refine g_icmp_ge_t (tgt := 13) C dX10_isImage_6 (by decide) c2 ?_
      refine g_iconst (v := 0) C dX10_isImage_13 (by decide) ?_
      obtain ⟨rfl, rfl⟩ := os_e hf
      exact g_zret C rfl (by decide) dX10_isImage_14
    · refine g_icmp_ge_f (tgt := 13) C dX10_isImage_6 (by decide) c2 ?_
      refine g_iconst (v := 1) C dX10_isImage_9 (by decide) ?_
      refine g_goto (tgt := 14) C dX10_isImage_10 (by decide) ?_
      obtain ⟨rfl, rfl⟩ := os_e hf
      exact g_zret C rfl (by decide) dX10_isImage_14
theorem c_X10_isImage (l : Launch) (dC : Nat → ClassId) (dI : Nat → Nat → Nat) (ad : Nat → Nat) (cy : Nat → ClassId) (x0 : Int32) : ConI l yX10_isImage cX10_isImage 1 (some .boolean) rm_X10_isImage dC dI ad cy [.int x0] (fun σ => fX10_isImage σ x0) := con_i (own := RX10) (by decide) rfl (Nat.le_of_ble_eq_true rfl) (fun _ _ _ _ _ _ _ _ σ _ _ C hf => fX10_isImage_ok C σ x0 hf)
theorem cal_X10_isImage : CalS yX10_isImage cX10_isImage 1 (some .boolean) 1 := ⟨hSt_X10_isImage, hIni_X10, hC_X10_isImage, by decide +kernel⟩
abbrev rm_X10_keep : Room := { frames := 2, cells := 0, slots := 0, locals := 39 }
def fX10_keep_b23  (σ : S0) (x1 : Int32) (t0 : Int32) : Option (Int32 × S0) := og (¬ (x1 < 0 ∨ 2 ≤ x1.toNatClampNeg)) (ol (74 + 8 * x1.toNatClampNeg) (fun q2 => obp (fX1_copyFrom σ q2 32) (fun r3 σ4 => og (¬ (x1 < 0 ∨ 2 ≤ x1.toNatClampNeg)) (ol (su σ4 72 x1.toNatClampNeg (vp_nar .boolean 1)) (fun σ7 => some (t0, σ7))))))
set_option maxHeartbeats 1000000 in
set_option maxRecDepth 100000 in
theorem fX10_keep_b23_ok {p : Program} {l : Launch} {e : Env} {s : State} {m : MethodId} {args : Array Value} {below : List Frame} {meth : Method} {c : Code} {dC : Nat → ClassId} {dI : Nat → Nat → Nat} {ad : Nat → Nat} {cy : Nat → ClassId} {sz : Nat} (C : Cx p s m args meth c RX10 cX10_keep 3 (some .int) dC dI ad cy sz) {rr : Int32} {ρ : S0}  (σ : S0) (x1 : Int32) (t0 : Int32)  (hf : fX10_keep_b23 σ x1 t0 = some (rr, ρ)) : Gw p l e rm_X10_keep s m args below meth c (MQ below (QcI dC dI ad cy sz rr ρ) args s 0 0 (AW ad sz)) dC dI ad cy 3 sz 0 0 23 [(0, .ref (ad 0)), (1, .int x1)] [.int t0] σ := by
  unfold fX10_keep_b23 at hf
  refine g_istore_n (lv2 := [(0, .ref (ad 0)), (1, .int x1), (2, .int t0)]) C dX10_keep_23 rfl (by decide) [1, 2, 0] rfl ?_
  refine g_aload_n C dX10_keep_24 rfl 0 rfl ?_
  refine g_get C (a_0 ad cy _) rfl hin_X10 9 (by decide) hF_X10_78 rfl rfl dX10_keep_25 ?_
  refine g_iload_n C dX10_keep_28 rfl 1 rfl ?_
  obtain ⟨h1, hf⟩ := og_e hf
  obtain ⟨q2, eq2, hf⟩ := ol_e hf
  refine g_aald C (a_71 ad cy _) rfl rfl h1 dX10_keep_29 ?_
  refine g_nmr eq2 ?_
  have hq2 := (o_71 h1 eq2)
  refine g_aload_n C dX10_keep_30 rfl 0 rfl ?_
  refine g_get C (a_0 ad cy _) rfl hin_X10 3 (by decide) hF_X10_36 rfl rfl dX10_keep_31 ?_
  obtain ⟨r3, σ4, h5, hf⟩ := obp_e hf
  refine g_callVv (As := [.ref (ad 32)]) (rest := []) C (s_isChimes hq2 ad cy _) rfl (c_X1_copyFrom l dC dI ad cy q2 hq2 32 k_isChimes_32) h5 hM_X10_294 cal_X1_copyFrom ⟨Nat.zero_le _, Nat.zero_le _⟩ ⟨rfl, rfl⟩ ⟨Nat.le_of_ble_eq_true rfl, Nat.le_of_ble_eq_true rfl⟩ rfl rfl (Nat.le_of_ble_eq_true rfl) dX10_keep_34 ?_
  refine g_aload_n C dX10_keep_37 rfl 0 rfl ?_
  refine g_get C (a_0 ad cy _) rfl hin_X10 10 (by decide) hF_X10_82 rfl rfl dX10_keep_38 ?_
  refine g_iload_n C dX10_keep_41 rfl 1 rfl ?_
  refine g_iconst (v := 1) C dX10_keep_42 (by decide) ?_
  obtain ⟨h6, hf⟩ := og_e hf
  obtain ⟨σ7, eσ7, hf⟩ := ol_e hf
  refine g_zast C (a_72 ad cy _) h6 (w_72 ad cy _) eσ7 dX10_keep_43 ?_
  refine g_iload_n C dX10_keep_44 rfl 2 rfl ?_
  obtain ⟨rfl, rfl⟩ := os_e hf
  exact g_iret C rfl dX10_keep_45
def fX10_keep (σ : S0) (x1 : Int32) : Option (Int32 × S0) := obp (fX10_isImage σ x1) (fun r1 σ2 => if ¬ r1 = 0 then (og (¬ (x1 < 0 ∨ 2 ≤ x1.toNatClampNeg)) (ol (σ2 72 x1.toNatClampNeg) (fun v6 => if v6 = 0 then (fX10_keep_b23 σ2 x1 0) else (fX10_keep_b23 σ2 x1 1)))) else (some ((-1), σ2)))
set_option maxHeartbeats 1000000 in
set_option maxRecDepth 100000 in
theorem fX10_keep_ok {p : Program} {l : Launch} {e : Env} {s : State} {m : MethodId} {args : Array Value} {below : List Frame} {meth : Method} {c : Code} {dC : Nat → ClassId} {dI : Nat → Nat → Nat} {ad : Nat → Nat} {cy : Nat → ClassId} {sz : Nat} (C : Cx p s m args meth c RX10 cX10_keep 3 (some .int) dC dI ad cy sz) {rr : Int32} {ρ : S0} (σ : S0) (x1 : Int32)  (hf : fX10_keep σ x1 = some (rr, ρ)) : Gw p l e rm_X10_keep s m args below meth c (MQ below (QcI dC dI ad cy sz rr ρ) args s 0 0 (AW ad sz)) dC dI ad cy 3 sz 0 0 0 [(0, .ref (ad 0)), (1, .int x1)] [] σ := by
  unfold fX10_keep at hf
  refine g_iload_n C dX10_keep_0 rfl 1 rfl ?_
  obtain ⟨r1, σ2, h3, hf⟩ := obp_e hf
  refine g_callSi (As := [.int x1]) (rest := []) C (c_X10_isImage l dC dI ad cy x1) h3 hM_X10_291 cal_X10_isImage ⟨Nat.zero_le _, Nat.zero_le _⟩ ⟨rfl, rfl⟩ ⟨Nat.le_of_ble_eq_true rfl, Nat.le_of_ble_eq_true rfl⟩ rfl rfl (Nat.le_of_ble_eq_true rfl) dX10_keep_1 ?_
  rcases oi_e hf with ⟨c4, hf⟩ | ⟨c4, hf⟩
  · refine g_if_ne_t (tgt := 9) C dX10_keep_4 (by decide) c4 ?_
    refine g_aload_n C dX10_keep_9 rfl 0 rfl ?_
    refine g_get C (a_0 ad cy _) rfl hin_X10 10 (by decide) hF_X10_82 rfl rfl dX10_keep_10 ?_
    refine g_iload_n C dX10_keep_13 rfl 1 rfl ?_
    obtain ⟨h5, hf⟩ := og_e hf
    refine g_zald C (a_72 ad cy _) h5 dX10_keep_14 ?_
    obtain ⟨v6, ev6, hf⟩ := ol_e hf
    refine g_nm ev6 ?_
    rcases oi_e hf with ⟨c7, hf⟩ | ⟨c7, hf⟩
    · refine g_if_eq_t (tgt := 22) C dX10_keep_15 (by decide) c7 ?_
      refine g_iconst (v := 0) C dX10_keep_22 (by decide) ?_
      exact g_sub [0, 1] rfl (fX10_keep_b23_ok C σ2 x1 0 hf)
    · refine g_if_eq_f (tgt := 22) C dX10_keep_15 (by decide) c7 ?_
      refine g_iconst (v := 1) C dX10_keep_18 (by decide) ?_
      refine g_goto (tgt := 23) C dX10_keep_19 (by decide) ?_
      exact g_sub [0, 1] rfl (fX10_keep_b23_ok C σ2 x1 1 hf)
  · refine g_if_ne_f (tgt := 9) C dX10_keep_4 (by decide) (Decidable.of_not_not c4) ?_
    refine g_iconst (v := (-1)) C dX10_keep_7 (by decide) ?_
    obtain ⟨rfl, rfl⟩ := os_e hf
    exact g_iret C rfl dX10_keep_8
theorem c_X10_keep (l : Launch) (dC : Nat → ClassId) (dI : Nat → Nat → Nat) (ad : Nat → Nat) (cy : Nat → ClassId) (x1 : Int32) : ConI l yX10_keep cX10_keep 3 (some .int) rm_X10_keep dC dI ad cy [.ref (ad 0), .int x1] (fun σ => fX10_keep σ x1) := con_i (own := RX10) (by decide) rfl (Nat.le_of_ble_eq_true rfl) (fun _ _ _ _ _ _ _ _ σ _ _ C hf => fX10_keep_ok C σ x1 hf)
theorem cal_X10_keep : CalV yX10_keep RX10 cX10_keep 3 (some .int) 1 := ⟨hI_X10_keep, hS_X10_keep, hIni_X10, hC_X10_keep, by decide +kernel⟩
abbrev rm_X10_back : Room := { frames := 2, cells := 0, slots := 0, locals := 49 }
def fX10_back (σ : S0) (x1 : Int32) : Option (Int32 × S0) := obp (fX10_isImage σ x1) (fun r1 σ2 => if ¬ r1 = 0 then (og (¬ (x1 < 0 ∨ 2 ≤ x1.toNatClampNeg)) (ol (σ2 72 x1.toNatClampNeg) (fun v6 => if ¬ v6 = 0 then (og (¬ (x1 < 0 ∨ 2 ≤ x1.toNatClampNeg)) (ol (74 + 8 * x1.toNatClampNeg) (fun q9 => obp (fX1_copyFrom σ2 32 q9) (fun r10 σ11 => obp (fX6_tuneTaken σ11) (fun r13 σ14 => some (r13, σ14)))))) else (some ((-2), σ2))))) else (some ((-1), σ2)))
set_option maxHeartbeats 1000000 in
set_option maxRecDepth 100000 in
theorem fX10_back_ok {p : Program} {l : Launch} {e : Env} {s : State} {m : MethodId} {args : Array Value} {below : List Frame} {meth : Method} {c : Code} {dC : Nat → ClassId} {dI : Nat → Nat → Nat} {ad : Nat → Nat} {cy : Nat → ClassId} {sz : Nat} (C : Cx p s m args meth c RX10 cX10_back 2 (some .int) dC dI ad cy sz) {rr : Int32} {ρ : S0} (σ : S0) (x1 : Int32)  (hf : fX10_back σ x1 = some (rr, ρ)) : Gw p l e rm_X10_back s m args below meth c (MQ below (QcI dC dI ad cy sz rr ρ) args s 0 0 (AW ad sz)) dC dI ad cy 2 sz 0 0 0 [(0, .ref (ad 0)), (1, .int x1)] [] σ := by
  unfold fX10_back at hf
  refine g_iload_n C dX10_back_0 rfl 1 rfl ?_
  obtain ⟨r1, σ2, h3, hf⟩ := obp_e hf
  refine g_callSi (As := [.int x1]) (rest := []) C (c_X10_isImage l dC dI ad cy x1) h3 hM_X10_291 cal_X10_isImage ⟨Nat.zero_le _, Nat.zero_le _⟩ ⟨rfl, rfl⟩ ⟨Nat.le_of_ble_eq_true rfl, Nat.le_of_ble_eq_true rfl⟩ rfl rfl (Nat.le_of_ble_eq_true rfl) dX10_back_1 ?_
  rcases oi_e hf with ⟨c4, hf⟩ | ⟨c4, hf⟩
  · refine g_if_ne_t (tgt := 9) C dX10_back_4 (by decide) c4 ?_
    refine g_aload_n C dX10_back_9 rfl 0 rfl ?_
    refine g_get C (a_0 ad cy _) rfl hin_X10 10 (by decide) hF_X10_82 rfl rfl dX10_back_10 ?_
    refine g_iload_n C dX10_back_13 rfl 1 rfl ?_
    obtain ⟨h5, hf⟩ := og_e hf
    refine g_zald C (a_72 ad cy _) h5 dX10_back_14 ?_
    obtain ⟨v6, ev6, hf⟩ := ol_e hf
    refine g_nm ev6 ?_
    rcases oi_e hf with ⟨c7, hf⟩ | ⟨c7, hf⟩
    · refine g_if_ne_t (tgt := 21) C dX10_back_15 (by decide) c7 ?_
      refine g_aload_n C dX10_back_21 rfl 0 rfl ?_
      refine g_get C (a_0 ad cy _) rfl hin_X10 3 (by decide) hF_X10_36 rfl rfl dX10_back_22 ?_
      refine g_aload_n C dX10_back_25 rfl 0 rfl ?_
      refine g_get C (a_0 ad cy _) rfl hin_X10 9 (by decide) hF_X10_78 rfl rfl dX10_back_26 ?_
      refine g_iload_n C dX10_back_29 rfl 1 rfl ?_
      obtain ⟨h8, hf⟩ := og_e hf
      obtain ⟨q9, eq9, hf⟩ := ol_e hf
      refine g_aald C (a_71 ad cy _) rfl rfl h8 dX10_back_30 ?_
      refine g_nmr eq9 ?_
      have hq9 := (o_71 h8 eq9)
      obtain ⟨r10, σ11, h12, hf⟩ := obp_e hf
      refine g_callVv (As := [.ref (ad q9)]) (rest := []) C (a_32 ad cy _) rfl (c_X1_copyFrom l dC dI ad cy 32 k_isChimes_32 q9 hq9) h12 hM_X10_294 cal_X1_copyFrom ⟨Nat.zero_le _, Nat.zero_le _⟩ ⟨rfl, rfl⟩ ⟨Nat.le_of_ble_eq_true rfl, Nat.le_of_ble_eq_true rfl⟩ rfl rfl (Nat.le_of_ble_eq_true rfl) dX10_back_31 ?_
      refine g_aload_n C dX10_back_34 rfl 0 rfl ?_
      refine g_get C (a_0 ad cy _) rfl hin_X10 4 (by decide) hF_X10_42 rfl rfl dX10_back_35 ?_
      obtain ⟨r13, σ14, h15, hf⟩ := obp_e hf
      refine g_callVi (As := []) (rest := []) C (a_40 ad cy _) rfl (c_X6_tuneTaken l dC dI ad cy ) h15 hM_X10_196 cal_X6_tuneTaken ⟨Nat.zero_le _, Nat.zero_le _⟩ ⟨rfl, rfl⟩ ⟨Nat.le_of_ble_eq_true rfl, Nat.le_of_ble_eq_true rfl⟩ rfl rfl (Nat.le_of_ble_eq_true rfl) dX10_back_38 ?_
      obtain ⟨rfl, rfl⟩ := os_e hf
      exact g_iret C rfl dX10_back_41
    · refine g_if_ne_f (tgt := 21) C dX10_back_15 (by decide) (Decidable.of_not_not c7) ?_
      refine g_bipush (v := (-2)) C dX10_back_18 (by decide) ?_
      obtain ⟨rfl, rfl⟩ := os_e hf
      exact g_iret C rfl dX10_back_20
  · refine g_if_ne_f (tgt := 9) C dX10_back_4 (by decide) (Decidable.of_not_not c4) ?_
    refine g_iconst (v := (-1)) C dX10_back_7 (by decide) ?_
    obtain ⟨rfl, rfl⟩ := os_e hf
    exact g_iret C rfl dX10_back_8
theorem c_X10_back (l : Launch) (dC : Nat → ClassId) (dI : Nat → Nat → Nat) (ad : Nat → Nat) (cy : Nat → ClassId) (x1 : Int32) : ConI l yX10_back cX10_back 2 (some .int) rm_X10_back dC dI ad cy [.ref (ad 0), .int x1] (fun σ => fX10_back σ x1) := con_i (own := RX10) (by decide) rfl (Nat.le_of_ble_eq_true rfl) (fun _ _ _ _ _ _ _ _ σ _ _ C hf => fX10_back_ok C σ x1 hf)
theorem cal_X10_back : CalV yX10_back RX10 cX10_back 2 (some .int) 1 := ⟨hI_X10_back, hS_X10_back, hIni_X10, hC_X10_back, by decide +kernel⟩
abbrev rm_X10_isSheet : Room := { frames := 0, cells := 0, slots := 0, locals := 0 }
def fX10_isSheet (σ : S0) (x0 : Int32) : Option (Int32 × S0) := if x0 < 0 then (some (0, σ)) else (if (4 : Int32) ≤ x0 then (some (0, σ)) else (some (1, σ)))
set_option maxHeartbeats 1000000 in
set_option maxRecDepth 100000 in
theorem fX10_isSheet_ok {p : Program} {l : Launch} {e : Env} {s : State} {m : MethodId} {args : Array Value} {below : List Frame} {meth : Method} {c : Code} {dC : Nat → ClassId} {dI : Nat → Nat → Nat} {ad : Nat → Nat} {cy : Nat → ClassId} {sz : Nat} (C : Cx p s m args meth c RX10 cX10_isSheet 1 (some .boolean) dC dI ad cy sz) {rr : Int32} {ρ : S0} (σ : S0) (x0 : Int32)  (hf : fX10_isSheet σ x0 = some (rr, ρ)) : Gw p l e rm_X10_isSheet s m args below meth c (MQ below (QcI dC dI ad cy sz rr ρ) args s 0 0 (AW ad sz)) dC dI ad cy 1 sz 0 0 0 [(0, .int x0)] [] σ := by
  unfold fX10_isSheet at hf
  refine g_iload_n C dX10_isSheet_0 rfl 0 rfl ?_
  rcases oi_e hf with ⟨c1, hf⟩ | ⟨c1, hf⟩
  · refine g_if_lt_t (tgt := 13) C dX10_isSheet_1 (by decide) c1 ?_
    refine g_iconst (v := 0) C dX10_isSheet_13 (by decide) ?_
    obtain ⟨rfl, rfl⟩ := os_e hf
    exact g_zret C rfl (by decide) dX10_isSheet_14
  · refine g_if_lt_f (tgt := 13) C dX10_isSheet_1 (by decide) c1 ?_
    refine g_iload_n C dX10_isSheet_4 rfl 0 rfl ?_
    refine g_iconst (v := 4) C dX10_isSheet_5 (by decide) ?_
    rcases oi_e hf with ⟨c2, hf⟩ | ⟨c2, hf⟩
    · refine g_icmp_ge_t (tgt := 13) C dX10_isSheet_6 (by decide) c2 ?_
      refine g_iconst (v := 0) C dX10_isSheet_13 (by decide) ?_
      obtain ⟨rfl, rfl⟩ := os_e hf
      exact g_zret C rfl (by decide) dX10_isSheet_14
    · refine g_icmp_ge_f (tgt := 13) C dX10_isSheet_6 (by decide) c2 ?_
      refine g_iconst (v := 1) C dX10_isSheet_9 (by decide) ?_
      refine g_goto (tgt := 14) C dX10_isSheet_10 (by decide) ?_
      obtain ⟨rfl, rfl⟩ := os_e hf
      exact g_zret C rfl (by decide) dX10_isSheet_14
theorem c_X10_isSheet (l : Launch) (dC : Nat → ClassId) (dI : Nat → Nat → Nat) (ad : Nat → Nat) (cy : Nat → ClassId) (x0 : Int32) : ConI l yX10_isSheet cX10_isSheet 1 (some .boolean) rm_X10_isSheet dC dI ad cy [.int x0] (fun σ => fX10_isSheet σ x0) := con_i (own := RX10) (by decide) rfl (Nat.le_of_ble_eq_true rfl) (fun _ _ _ _ _ _ _ _ σ _ _ C hf => fX10_isSheet_ok C σ x0 hf)
theorem cal_X10_isSheet : CalS yX10_isSheet cX10_isSheet 1 (some .boolean) 1 := ⟨hSt_X10_isSheet, hIni_X10, hC_X10_isSheet, by decide +kernel⟩
abbrev rm_X10_isLane : Room := { frames := 0, cells := 0, slots := 0, locals := 0 }
def fX10_isLane (σ : S0) (x0 : Int32) : Option (Int32 × S0) := if x0 < 0 then (some (0, σ)) else (if (3 : Int32) ≤ x0 then (some (0, σ)) else (some (1, σ)))
set_option maxHeartbeats 1000000 in
set_option maxRecDepth 100000 in
theorem fX10_isLane_ok {p : Program} {l : Launch} {e : Env} {s : State} {m : MethodId} {args : Array Value} {below : List Frame} {meth : Method} {c : Code} {dC : Nat → ClassId} {dI : Nat → Nat → Nat} {ad : Nat → Nat} {cy : Nat → ClassId} {sz : Nat} (C : Cx p s m args meth c RX10 cX10_isLane 1 (some .boolean) dC dI ad cy sz) {rr : Int32} {ρ : S0} (σ : S0) (x0 : Int32)  (hf : fX10_isLane σ x0 = some (rr, ρ)) : Gw p l e rm_X10_isLane s m args below meth c (MQ below (QcI dC dI ad cy sz rr ρ) args s 0 0 (AW ad sz)) dC dI ad cy 1 sz 0 0 0 [(0, .int x0)] [] σ := by
  unfold fX10_isLane at hf
  refine g_iload_n C dX10_isLane_0 rfl 0 rfl ?_
  rcases oi_e hf with ⟨c1, hf⟩ | ⟨c1, hf⟩
  · refine g_if_lt_t (tgt := 13) C dX10_isLane_1 (by decide) c1 ?_
    refine g_iconst (v := 0) C dX10_isLane_13 (by decide) ?_
    obtain ⟨rfl, rfl⟩ := os_e hf
    exact g_zret C rfl (by decide) dX10_isLane_14
  · refine g_if_lt_f (tgt := 13) C dX10_isLane_1 (by decide) c1 ?_
    refine g_iload_n C dX10_isLane_4 rfl 0 rfl ?_
    refine g_iconst (v := 3) C dX10_isLane_5 (by decide) ?_
    rcases oi_e hf with ⟨c2, hf⟩ | ⟨c2, hf⟩
    · refine g_icmp_ge_t (tgt := 13) C dX10_isLane_6 (by decide) c2 ?_
      refine g_iconst (v := 0) C dX10_isLane_13 (by decide) ?_
      obtain ⟨rfl, rfl⟩ := os_e hf
      exact g_zret C rfl (by decide) dX10_isLane_14
    · refine g_icmp_ge_f (tgt := 13) C dX10_isLane_6 (by decide) c2 ?_
      refine g_iconst (v := 1) C dX10_isLane_9 (by decide) ?_
      refine g_goto (tgt := 14) C dX10_isLane_10 (by decide) ?_
      obtain ⟨rfl, rfl⟩ := os_e hf
      exact g_zret C rfl (by decide) dX10_isLane_14
theorem c_X10_isLane (l : Launch) (dC : Nat → ClassId) (dI : Nat → Nat → Nat) (ad : Nat → Nat) (cy : Nat → ClassId) (x0 : Int32) : ConI l yX10_isLane cX10_isLane 1 (some .boolean) rm_X10_isLane dC dI ad cy [.int x0] (fun σ => fX10_isLane σ x0) := con_i (own := RX10) (by decide) rfl (Nat.le_of_ble_eq_true rfl) (fun _ _ _ _ _ _ _ _ σ _ _ C hf => fX10_isLane_ok C σ x0 hf)
theorem cal_X10_isLane : CalS yX10_isLane cX10_isLane 1 (some .boolean) 1 := ⟨hSt_X10_isLane, hIni_X10, hC_X10_isLane, by decide +kernel⟩
abbrev rm_X10_sheet : Room := { frames := 2, cells := 0, slots := 0, locals := 45 }
def fX10_sheet (σ : S0) (x1 : Int32) (x2 : Int32) (x3 : Int32) : Option (Int32 × S0) := obp (fX10_isSheet σ x1) (fun r1 σ2 => if r1 = 0 then (some ((-1), σ2)) else (obp (fX10_isLane σ2 x2) (fun r5 σ6 => if r5 = 0 then (some ((-1), σ6)) else (if x3 ≤ 40 then (if 0 ≤ x3 then (og (¬ (x1 < 0 ∨ 4 ≤ x1.toNatClampNeg)) (ol (90 + 2 * x1.toNatClampNeg) (fun q12 => obp (fX7_renew σ6 q12 x2 x3) (fun r13 σ14 => some (1, σ14))))) else (some ((-14), σ6))) else (some ((-1), σ6))))))
set_option maxHeartbeats 1000000 in
set_option maxRecDepth 100000 in
theorem fX10_sheet_ok {p : Program} {l : Launch} {e : Env} {s : State} {m : MethodId} {args : Array Value} {below : List Frame} {meth : Method} {c : Code} {dC : Nat → ClassId} {dI : Nat → Nat → Nat} {ad : Nat → Nat} {cy : Nat → ClassId} {sz : Nat} (C : Cx p s m args meth c RX10 cX10_sheet 4 (some .int) dC dI ad cy sz) {rr : Int32} {ρ : S0} (σ : S0) (x1 : Int32) (x2 : Int32) (x3 : Int32)  (hf : fX10_sheet σ x1 x2 x3 = some (rr, ρ)) : Gw p l e rm_X10_sheet s m args below meth c (MQ below (QcI dC dI ad cy sz rr ρ) args s 0 0 (AW ad sz)) dC dI ad cy 4 sz 0 0 0 [(0, .ref (ad 0)), (1, .int x1), (2, .int x2), (3, .int x3)] [] σ := by
  unfold fX10_sheet at hf
  refine g_iload_n C dX10_sheet_0 rfl 1 rfl ?_
  obtain ⟨r1, σ2, h3, hf⟩ := obp_e hf
  refine g_callSi (As := [.int x1]) (rest := []) C (c_X10_isSheet l dC dI ad cy x1) h3 hM_X10_297 cal_X10_isSheet ⟨Nat.zero_le _, Nat.zero_le _⟩ ⟨rfl, rfl⟩ ⟨Nat.le_of_ble_eq_true rfl, Nat.le_of_ble_eq_true rfl⟩ rfl rfl (Nat.le_of_ble_eq_true rfl) dX10_sheet_1 ?_
  rcases oi_e hf with ⟨c4, hf⟩ | ⟨c4, hf⟩
  · refine g_if_eq_t (tgt := 20) C dX10_sheet_4 (by decide) c4 ?_
    refine g_iconst (v := (-1)) C dX10_sheet_20 (by decide) ?_
    obtain ⟨rfl, rfl⟩ := os_e hf
    exact g_iret C rfl dX10_sheet_21
  · refine g_if_eq_f (tgt := 20) C dX10_sheet_4 (by decide) c4 ?_
    refine g_iload_n C dX10_sheet_7 rfl 2 rfl ?_
    obtain ⟨r5, σ6, h7, hf⟩ := obp_e hf
    refine g_callSi (As := [.int x2]) (rest := []) C (c_X10_isLane l dC dI ad cy x2) h7 hM_X10_300 cal_X10_isLane ⟨Nat.zero_le _, Nat.zero_le _⟩ ⟨rfl, rfl⟩ ⟨Nat.le_of_ble_eq_true rfl, Nat.le_of_ble_eq_true rfl⟩ rfl rfl (Nat.le_of_ble_eq_true rfl) dX10_sheet_8 ?_
    rcases oi_e hf with ⟨c8, hf⟩ | ⟨c8, hf⟩
    · refine g_if_eq_t (tgt := 20) C dX10_sheet_11 (by decide) c8 ?_
      refine g_iconst (v := (-1)) C dX10_sheet_20 (by decide) ?_
      obtain ⟨rfl, rfl⟩ := os_e hf
      exact g_iret C rfl dX10_sheet_21
    · refine g_if_eq_f (tgt := 20) C dX10_sheet_11 (by decide) c8 ?_
      refine g_iload_n C dX10_sheet_14 rfl 3 rfl ?_
      refine g_bipush (v := 40) C dX10_sheet_15 (by decide) ?_
      rcases oi_e hf with ⟨c9, hf⟩ | ⟨c9, hf⟩
      · refine g_icmp_le_t (tgt := 22) C dX10_sheet_17 (by decide) c9 ?_
        refine g_iload_n C dX10_sheet_22 rfl 3 rfl ?_
        rcases oi_e hf with ⟨c10, hf⟩ | ⟨c10, hf⟩
        · refine g_if_ge_t (tgt := 29) C dX10_sheet_23 (by decide) c10 ?_
          refine g_aload_n C dX10_sheet_29 rfl 0 rfl ?_
          refine g_get C (a_0 ad cy _) rfl hin_X10 11 (by decide) hF_X10_88 rfl rfl dX10_sheet_30 ?_
          refine g_iload_n C dX10_sheet_33 rfl 1 rfl ?_
          obtain ⟨h11, hf⟩ := og_e hf
          obtain ⟨q12, eq12, hf⟩ := ol_e hf
          refine g_aald C (a_73 ad cy _) rfl rfl h11 dX10_sheet_34 ?_
          refine g_nmr eq12 ?_
          have hq12 := (o_73 h11 eq12)
          refine g_iload_n C dX10_sheet_35 rfl 2 rfl ?_
          refine g_iload_n C dX10_sheet_36 rfl 3 rfl ?_
          obtain ⟨r13, σ14, h15, hf⟩ := obp_e hf
          refine g_callVv (As := [.int x2, .int x3]) (rest := []) C (s_isSheet hq12 ad cy _) rfl (c_X7_renew l dC dI ad cy q12 hq12 x2 x3) h15 hM_X10_303 cal_X7_renew ⟨Nat.zero_le _, Nat.zero_le _⟩ ⟨rfl, rfl⟩ ⟨Nat.le_of_ble_eq_true rfl, Nat.le_of_ble_eq_true rfl⟩ rfl rfl (Nat.le_of_ble_eq_true rfl) dX10_sheet_37 ?_
          refine g_iconst (v := 1) C dX10_sheet_40 (by decide) ?_
          obtain ⟨rfl, rfl⟩ := os_e hf
          exact g_iret C rfl dX10_sheet_41
        · refine g_if_ge_f (tgt := 29) C dX10_sheet_23 (by decide) c10 ?_
          refine g_bipush (v := (-14)) C dX10_sheet_26 (by decide) ?_
          obtain ⟨rfl, rfl⟩ := os_e hf
          exact g_iret C rfl dX10_sheet_28
      · refine g_icmp_le_f (tgt := 22) C dX10_sheet_17 (by decide) c9 ?_
        refine g_iconst (v := (-1)) C dX10_sheet_20 (by decide) ?_
        obtain ⟨rfl, rfl⟩ := os_e hf
        exact g_iret C rfl dX10_sheet_21
theorem c_X10_sheet (l : Launch) (dC : Nat → ClassId) (dI : Nat → Nat → Nat) (ad : Nat → Nat) (cy : Nat → ClassId) (x1 : Int32) (x2 : Int32) (x3 : Int32) : ConI l yX10_sheet cX10_sheet 4 (some .int) rm_X10_sheet dC dI ad cy [.ref (ad 0), .int x1, .int x2, .int x3] (fun σ => fX10_sheet σ x1 x2 x3) := con_i (own := RX10) (by decide) rfl (Nat.le_of_ble_eq_true rfl) (fun _ _ _ _ _ _ _ _ σ _ _ C hf => fX10_sheet_ok C σ x1 x2 x3 hf)
theorem cal_X10_sheet : CalV yX10_sheet RX10 cX10_sheet 4 (some .int) 3 := ⟨hI_X10_sheet, hS_X10_sheet, hIni_X10, hC_X10_sheet, by decide +kernel⟩
abbrev rm_X10_lay : Room := { frames := 2, cells := 0, slots := 0, locals := 42 }
def fX10_lay (σ : S0) (x1 : Int32) (x2 : Int32) (x3 : Int32) : Option (Int32 × S0) := obp (fX10_isSheet σ x1) (fun r1 σ2 => if ¬ r1 = 0 then (og (¬ (x1 < 0 ∨ 4 ≤ x1.toNatClampNeg)) (ol (90 + 2 * x1.toNatClampNeg) (fun q6 => obp (fX7_faultAt σ2 q6 (σ2 q6 0) x2) (fun r7 σ8 => if r7 = 0 then (obp (fX7_put σ8 q6 x2 x3) (fun r11 σ12 => some (1, σ12))) else (some (((-10)) - r7, σ8)))))) else (some ((-1), σ2)))
set_option maxHeartbeats 1000000 in
set_option maxRecDepth 100000 in
theorem fX10_lay_ok {p : Program} {l : Launch} {e : Env} {s : State} {m : MethodId} {args : Array Value} {below : List Frame} {meth : Method} {c : Code} {dC : Nat → ClassId} {dI : Nat → Nat → Nat} {ad : Nat → Nat} {cy : Nat → ClassId} {sz : Nat} (C : Cx p s m args meth c RX10 cX10_lay 6 (some .int) dC dI ad cy sz) {rr : Int32} {ρ : S0} (σ : S0) (x1 : Int32) (x2 : Int32) (x3 : Int32)  (hf : fX10_lay σ x1 x2 x3 = some (rr, ρ)) : Gw p l e rm_X10_lay s m args below meth c (MQ below (QcI dC dI ad cy sz rr ρ) args s 0 0 (AW ad sz)) dC dI ad cy 6 sz 0 0 0 [(0, .ref (ad 0)), (1, .int x1), (2, .int x2), (3, .int x3)] [] σ := by
  unfold fX10_lay at hf
  refine g_iload_n C dX10_lay_0 rfl 1 rfl ?_
  obtain ⟨r1, σ2, h3, hf⟩ := obp_e hf
  refine g_callSi (As := [.int x1]) (rest := []) C (c_X10_isSheet l dC dI ad cy x1) h3 hM_X10_297 cal_X10_isSheet ⟨Nat.zero_le _, Nat.zero_le _⟩ ⟨rfl, rfl⟩ ⟨Nat.le_of_ble_eq_true rfl, Nat.le_of_ble_eq_true rfl⟩ rfl rfl (Nat.le_of_ble_eq_true rfl) dX10_lay_1 ?_
  rcases oi_e hf with ⟨c4, hf⟩ | ⟨c4, hf⟩
  · refine g_if_ne_t (tgt := 9) C dX10_lay_4 (by decide) c4 ?_
    refine g_aload_n C dX10_lay_9 rfl 0 rfl ?_
    refine g_get C (a_0 ad cy _) rfl hin_X10 11 (by decide) hF_X10_88 rfl rfl dX10_lay_10 ?_
    refine g_iload_n C dX10_lay_13 rfl 1 rfl ?_
    obtain ⟨h5, hf⟩ := og_e hf
    obtain ⟨q6, eq6, hf⟩ := ol_e hf
    refine g_aald C (a_73 ad cy _) rfl rfl h5 dX10_lay_14 ?_
    refine g_nmr eq6 ?_
    have hq6 := (o_73 h5 eq6)
    refine g_astore (lv2 := [(0, .ref (ad 0)), (1, .int x1), (2, .int x2), (3, .int x3), (4, .ref (ad q6))]) C dX10_lay_15 (by decide) [1, 2, 3, 4, 0] rfl ?_
    refine g_aload C dX10_lay_17 4 rfl ?_
    refine g_aload C dX10_lay_19 4 rfl ?_
    refine g_get C (s_isSheet hq6 ad cy _) rfl hin_X7 0 (by decide) hF_X10_306 rfl rfl dX10_lay_21 ?_
    refine g_iload_n C dX10_lay_24 rfl 2 rfl ?_
    obtain ⟨r7, σ8, h9, hf⟩ := obp_e hf
    refine g_callVi (As := [.int (σ2 q6 0), .int x2]) (rest := []) C (s_isSheet hq6 ad cy _) rfl (c_X7_faultAt l dC dI ad cy q6 hq6 (σ2 q6 0) x2) h9 hM_X10_309 cal_X7_faultAt ⟨Nat.zero_le _, Nat.zero_le _⟩ ⟨rfl, rfl⟩ ⟨Nat.le_of_ble_eq_true rfl, Nat.le_of_ble_eq_true rfl⟩ rfl rfl (Nat.le_of_ble_eq_true rfl) dX10_lay_25 ?_
    refine g_istore (lv2 := [(0, .ref (ad 0)), (1, .int x1), (2, .int x2), (3, .int x3), (4, .ref (ad q6)), (5, .int r7)]) C dX10_lay_28 (by decide) [1, 2, 3, 4, 5, 0] rfl ?_
    refine g_iload C dX10_lay_30 5 rfl ?_
    rcases oi_e hf with ⟨c10, hf⟩ | ⟨c10, hf⟩
    · refine g_if_eq_t (tgt := 41) C dX10_lay_32 (by decide) c10 ?_
      refine g_aload C dX10_lay_41 4 rfl ?_
      refine g_iload_n C dX10_lay_43 rfl 2 rfl ?_
      refine g_iload_n C dX10_lay_44 rfl 3 rfl ?_
      obtain ⟨r11, σ12, h13, hf⟩ := obp_e hf
      refine g_callVv (As := [.int x2, .int x3]) (rest := []) C (s_isSheet hq6 ad cy _) rfl (c_X7_put l dC dI ad cy q6 hq6 x2 x3) h13 hM_X10_312 cal_X7_put ⟨Nat.zero_le _, Nat.zero_le _⟩ ⟨rfl, rfl⟩ ⟨Nat.le_of_ble_eq_true rfl, Nat.le_of_ble_eq_true rfl⟩ rfl rfl (Nat.le_of_ble_eq_true rfl) dX10_lay_45 ?_
      refine g_iconst (v := 1) C dX10_lay_48 (by decide) ?_
      obtain ⟨rfl, rfl⟩ := os_e hf
      exact g_iret C rfl dX10_lay_49
    · refine g_if_eq_f (tgt := 41) C dX10_lay_32 (by decide) c10 ?_
      refine g_bipush (v := (-10)) C dX10_lay_35 (by decide) ?_
      refine g_iload C dX10_lay_37 5 rfl ?_
      refine g_isub C dX10_lay_39 ?_
      obtain ⟨rfl, rfl⟩ := os_e hf
      exact g_iret C rfl dX10_lay_40
  · refine g_if_ne_f (tgt := 9) C dX10_lay_4 (by decide) (Decidable.of_not_not c4) ?_
    refine g_iconst (v := (-1)) C dX10_lay_7 (by decide) ?_
    obtain ⟨rfl, rfl⟩ := os_e hf
    exact g_iret C rfl dX10_lay_8
theorem c_X10_lay (l : Launch) (dC : Nat → ClassId) (dI : Nat → Nat → Nat) (ad : Nat → Nat) (cy : Nat → ClassId) (x1 : Int32) (x2 : Int32) (x3 : Int32) : ConI l yX10_lay cX10_lay 6 (some .int) rm_X10_lay dC dI ad cy [.ref (ad 0), .int x1, .int x2, .int x3] (fun σ => fX10_lay σ x1 x2 x3) := con_i (own := RX10) (by decide) rfl (Nat.le_of_ble_eq_true rfl) (fun _ _ _ _ _ _ _ _ σ _ _ C hf => fX10_lay_ok C σ x1 x2 x3 hf)
theorem cal_X10_lay : CalV yX10_lay RX10 cX10_lay 6 (some .int) 3 := ⟨hI_X10_lay, hS_X10_lay, hIni_X10, hC_X10_lay, by decide +kernel⟩
abbrev rm_X10_read : Room := { frames := 2, cells := 0, slots := 0, locals := 42 }
def fX10_read_b128 (sf_128 : S0 → Int32 → Nat → Int32 → Int32 → Int32 → Option (Int32 × S0)) (σ : S0) (x3 : Int32) (x5 : Nat) (x6 : Int32) (x7 : Int32) (x8 : Int32) : Option (Int32 × S0) := if x7 ≤ x8 then (ol (su σ 0 12 x6) (fun σ2 => some (x7, σ2))) else (ol (x3 + x8) (fun v3 => og (¬ (v3 < 0 ∨ 40 ≤ v3.toNatClampNeg)) (ol (σ (x5 + 1) v3.toNatClampNeg) (fun v5 => obp (fX1_addHeard σ 32 v5) (fun r6 σ7 => ol (x8 + 1) (fun v9 => sf_128 σ7 x3 x5 x6 x7 v9))))))
set_option maxHeartbeats 1000000 in
set_option maxRecDepth 100000 in
theorem fX10_read_b128_ok {p : Program} {l : Launch} {e : Env} {s : State} {m : MethodId} {args : Array Value} {below : List Frame} {meth : Method} {c : Code} {dC : Nat → ClassId} {dI : Nat → Nat → Nat} {ad : Nat → Nat} {cy : Nat → ClassId} {sz : Nat} (C : Cx p s m args meth c RX10 cX10_read 9 (some .int) dC dI ad cy sz) {rr : Int32} {ρ : S0} (sf_128 : S0 → Int32 → Nat → Int32 → Int32 → Int32 → Option (Int32 × S0)) (hs_128 : ∀ (σ : S0) (x3 : Int32) (x5 : Nat) (x6 : Int32) (x7 : Int32) (x8 : Int32) (hx5 : isSheet x5), sf_128 σ x3 x5 x6 x7 x8 = some (rr, ρ) → Gw p l e rm_X10_read s m args below meth c (MQ below (QcI dC dI ad cy sz rr ρ) args s 0 0 (AW ad sz)) dC dI ad cy 9 sz 0 0 128 [(0, .ref (ad 0)), (3, .int x3), (5, .ref (ad x5)), (6, .int x6), (7, .int x7), (8, .int x8)] [] σ) (σ : S0) (x3 : Int32) (x5 : Nat) (x6 : Int32) (x7 : Int32) (x8 : Int32) (hx5 : isSheet x5) (hf : fX10_read_b128 sf_128 σ x3 x5 x6 x7 x8 = some (rr, ρ)) : Gw p l e rm_X10_read s m args below meth c (MQ below (QcI dC dI ad cy sz rr ρ) args s 0 0 (AW ad sz)) dC dI ad cy 9 sz 0 0 128 [(0, .ref (ad 0)), (3, .int x3), (5, .ref (ad x5)), (6, .int x6), (7, .int x7), (8, .int x8)] [] σ := by
  unfold fX10_read_b128 at hf
  refine g_iload C dX10_read_128 5 rfl ?_
  refine g_iload C dX10_read_130 4 rfl ?_
  rcases oi_e hf with ⟨c1, hf⟩ | ⟨c1, hf⟩
  · refine g_icmp_ge_t (tgt := 158) C dX10_read_132 (by decide) c1 ?_
    refine g_aload_n C dX10_read_158 rfl 0 rfl ?_
    refine g_iload C dX10_read_159 3 rfl ?_
    obtain ⟨σ2, eσ2, hf⟩ := ol_e hf
    refine g_put (ty := .int) C (a_0 ad cy _) rfl hin_X10 tyX10 tyX10_ok nmX10 12 (by decide) hF_X10_318 rfl rfl (by decide +kernel) rfl rfl (Nat.le_of_ble_eq_true rfl) (p_0_12 ad cy _ _) eσ2 dX10_read_161 ?_
    refine g_iload C dX10_read_164 4 rfl ?_
    obtain ⟨rfl, rfl⟩ := os_e hf
    exact g_iret C rfl dX10_read_166
  · refine g_icmp_ge_f (tgt := 158) C dX10_read_132 (by decide) c1 ?_
    refine g_aload_n C dX10_read_135 rfl 0 rfl ?_
    refine g_get C (a_0 ad cy _) rfl hin_X10 3 (by decide) hF_X10_36 rfl rfl dX10_read_136 ?_
    refine g_aload C dX10_read_139 2 rfl ?_
    refine g_get C (s_isSheet hx5 ad cy _) rfl hin_X7 2 (by decide) hF_X10_315 rfl rfl dX10_read_141 ?_
    refine g_iload_n C dX10_read_144 rfl 1 rfl ?_
    refine g_iload C dX10_read_145 5 rfl ?_
    refine g_iadd C dX10_read_147 ?_
    obtain ⟨v3, ev3, hf⟩ := ol_e hf
    refine g_nm ev3 ?_
    obtain ⟨h4, hf⟩ := og_e hf
    refine g_iald C (s_row hx5.r1 ad cy _) h4 dX10_read_148 ?_
    obtain ⟨v5, ev5, hf⟩ := ol_e hf
    refine g_nm ev5 ?_
    obtain ⟨r6, σ7, h8, hf⟩ := obp_e hf
    refine g_callVv (As := [.int v5]) (rest := []) C (a_32 ad cy _) rfl (c_X1_addHeard l dC dI ad cy 32 k_isChimes_32 v5) h8 hM_X10_270 cal_X1_addHeard ⟨Nat.zero_le _, Nat.zero_le _⟩ ⟨rfl, rfl⟩ ⟨Nat.le_of_ble_eq_true rfl, Nat.le_of_ble_eq_true rfl⟩ rfl rfl (Nat.le_of_ble_eq_true rfl) dX10_read_149 ?_
    obtain ⟨v9, ev9, hf⟩ := ol_e hf
    refine g_iinc (j := 5) (w := 1) (lv2 := [(0, .ref (ad 0)), (3, .int x3), (5, .ref (ad x5)), (6, .int x6), (7, .int x7), (8, .int v9)]) C dX10_read_152 rfl (by decide) ev9 (by decide) [1, 2, 3, 4, 5, 0] rfl ?_
    refine g_goto (tgt := 128) C dX10_read_155 (by decide) ?_
    exact g_sub [0, 1, 2, 3, 4, 5] rfl (hs_128 σ7 x3 x5 x6 x7 v9 hx5 hf)
def fX10_read_h128  : Nat → S0 → Int32 → Nat → Int32 → Int32 → Int32 → Option (Int32 × S0)
  | 0 => fun _ _ _ _ _ _ => none
  | n + 1 => fun σ x3 x5 x6 x7 x8 => fX10_read_b128  (fX10_read_h128  n) σ x3 x5 x6 x7 x8
set_option maxHeartbeats 1000000 in
set_option maxRecDepth 100000 in
theorem fX10_read_h128_ok {p : Program} {l : Launch} {e : Env} {s : State} {m : MethodId} {args : Array Value} {below : List Frame} {meth : Method} {c : Code} {dC : Nat → ClassId} {dI : Nat → Nat → Nat} {ad : Nat → Nat} {cy : Nat → ClassId} {sz : Nat} (C : Cx p s m args meth c RX10 cX10_read 9 (some .int) dC dI ad cy sz) {rr : Int32} {ρ : S0}  : ∀ (n : Nat) (σ : S0) (x3 : Int32) (x5 : Nat) (x6 : Int32) (x7 : Int32) (x8 : Int32) (hx5 : isSheet x5) (_hf : fX10_read_h128  n σ x3 x5 x6 x7 x8 = some (rr, ρ)), Gw p l e rm_X10_read s m args below meth c (MQ below (QcI dC dI ad cy sz rr ρ) args s 0 0 (AW ad sz)) dC dI ad cy 9 sz 0 0 128 [(0, .ref (ad 0)), (3, .int x3), (5, .ref (ad x5)), (6, .int x6), (7, .int x7), (8, .int x8)] [] σ
  | 0, _, _, _, _, _, _, _, hf => by cases hf
  | n + 1, σ, x3, x5, x6, x7, x8, hx5, hf => fX10_read_b128_ok C  (fX10_read_h128  n) (fX10_read_h128_ok C  n) σ x3 x5 x6 x7 x8 hx5 hf
def fX10_read_b125  (σ : S0) (x3 : Int32) (x5 : Nat) (x6 : Int32) (x7 : Int32) : Option (Int32 × S0) := fX10_read_h128 400 σ x3 x5 x6 x7 0
set_option maxHeartbeats 1000000 in
set_option maxRecDepth 100000 in
theorem fX10_read_b125_ok {p : Program} {l : Launch} {e : Env} {s : State} {m : MethodId} {args : Array Value} {below : List Frame} {meth : Method} {c : Code} {dC : Nat → ClassId} {dI : Nat → Nat → Nat} {ad : Nat → Nat} {cy : Nat → ClassId} {sz : Nat} (C : Cx p s m args meth c RX10 cX10_read 9 (some .int) dC dI ad cy sz) {rr : Int32} {ρ : S0}  (σ : S0) (x3 : Int32) (x5 : Nat) (x6 : Int32) (x7 : Int32) (hx5 : isSheet x5) (hf : fX10_read_b125 σ x3 x5 x6 x7 = some (rr, ρ)) : Gw p l e rm_X10_read s m args below meth c (MQ below (QcI dC dI ad cy sz rr ρ) args s 0 0 (AW ad sz)) dC dI ad cy 9 sz 0 0 125 [(0, .ref (ad 0)), (3, .int x3), (5, .ref (ad x5)), (6, .int x6), (7, .int x7)] [] σ := by
  unfold fX10_read_b125 at hf
  refine g_iconst (v := 0) C dX10_read_125 (by decide) ?_
  refine g_istore (lv2 := [(0, .ref (ad 0)), (3, .int x3), (5, .ref (ad x5)), (6, .int x6), (7, .int x7), (8, .int 0)]) C dX10_read_126 (by decide) [1, 2, 3, 4, 5, 0] rfl ?_
  exact g_sub [0, 1, 2, 3, 4, 5] rfl (fX10_read_h128_ok C 400 σ x3 x5 x6 x7 0 hx5 hf)
def fX10_read_b45 (sf_45 : S0 → Int32 → Int32 → Int32 → Nat → Int32 → Int32 → Int32 → Option (Int32 × S0)) (σ : S0) (x2 : Int32) (x3 : Int32) (x4 : Int32) (x5 : Nat) (x6 : Int32) (x7 : Int32) (x8 : Int32) : Option (Int32 × S0) := if x4 ≤ x8 then (fX10_read_b125 σ x3 x5 x6 x7) else (obp (fX7_faultAt σ x5 x2 (x3 + x8)) (fun r2 σ3 => if r2 = 0 then (ol (x3 + x8) (fun v6 => og (¬ (v6 < 0 ∨ 40 ≤ v6.toNatClampNeg)) (ol (σ3 (x5 + 1) v6.toNatClampNeg) (fun v8 => obp (fX1_canBeHeard σ3 32 v8) (fun r9 σ10 => if ¬ r9 = 0 then (if ((σ10 32 7) + x8) < 12 then (ol (x7 + 1) (fun v14 => ol (x8 + 1) (fun v15 => sf_45 σ10 x2 x3 x4 x5 r2 v14 v15))) else (some ((-3), σ10))) else (some (((-20)) - x8, σ10))))))) else (fX10_read_b125 σ3 x3 x5 r2 x7)))
set_option maxHeartbeats 1000000 in
set_option maxRecDepth 100000 in
theorem fX10_read_b45_ok {p : Program} {l : Launch} {e : Env} {s : State} {m : MethodId} {args : Array Value} {below : List Frame} {meth : Method} {c : Code} {dC : Nat → ClassId} {dI : Nat → Nat → Nat} {ad : Nat → Nat} {cy : Nat → ClassId} {sz : Nat} (C : Cx p s m args meth c RX10 cX10_read 9 (some .int) dC dI ad cy sz) {rr : Int32} {ρ : S0} (sf_45 : S0 → Int32 → Int32 → Int32 → Nat → Int32 → Int32 → Int32 → Option (Int32 × S0)) (hs_45 : ∀ (σ : S0) (x2 : Int32) (x3 : Int32) (x4 : Int32) (x5 : Nat) (x6 : Int32) (x7 : Int32) (x8 : Int32) (hx5 : isSheet x5), sf_45 σ x2 x3 x4 x5 x6 x7 x8 = some (rr, ρ) → Gw p l e rm_X10_read s m args below meth c (MQ below (QcI dC dI ad cy sz rr ρ) args s 0 0 (AW ad sz)) dC dI ad cy 9 sz 0 0 45 [(0, .ref (ad 0)), (2, .int x2), (3, .int x3), (4, .int x4), (5, .ref (ad x5)), (6, .int x6), (7, .int x7), (8, .int x8)] [] σ) (σ : S0) (x2 : Int32) (x3 : Int32) (x4 : Int32) (x5 : Nat) (x6 : Int32) (x7 : Int32) (x8 : Int32) (hx5 : isSheet x5) (hf : fX10_read_b45 sf_45 σ x2 x3 x4 x5 x6 x7 x8 = some (rr, ρ)) : Gw p l e rm_X10_read s m args below meth c (MQ below (QcI dC dI ad cy sz rr ρ) args s 0 0 (AW ad sz)) dC dI ad cy 9 sz 0 0 45 [(0, .ref (ad 0)), (2, .int x2), (3, .int x3), (4, .int x4), (5, .ref (ad x5)), (6, .int x6), (7, .int x7), (8, .int x8)] [] σ := by
  unfold fX10_read_b45 at hf
  refine g_iload C dX10_read_45 7 rfl ?_
  refine g_iload C dX10_read_47 3 rfl ?_
  rcases oi_e hf with ⟨c1, hf⟩ | ⟨c1, hf⟩
  · refine g_icmp_ge_t (tgt := 125) C dX10_read_49 (by decide) c1 ?_
    exact g_sub [0, 2, 4, 5, 6] rfl (fX10_read_b125_ok C σ x3 x5 x6 x7 hx5 hf)
  · refine g_icmp_ge_f (tgt := 125) C dX10_read_49 (by decide) c1 ?_
    refine g_aload C dX10_read_52 4 rfl ?_
    refine g_iload_n C dX10_read_54 rfl 1 rfl ?_
    refine g_iload_n C dX10_read_55 rfl 2 rfl ?_
    refine g_iload C dX10_read_56 7 rfl ?_
    refine g_iadd C dX10_read_58 ?_
    obtain ⟨r2, σ3, h4, hf⟩ := obp_e hf
    refine g_callVi (As := [.int x2, .int (x3 + x8)]) (rest := []) C (s_isSheet hx5 ad cy _) rfl (c_X7_faultAt l dC dI ad cy x5 hx5 x2 (x3 + x8)) h4 hM_X10_309 cal_X7_faultAt ⟨Nat.zero_le _, Nat.zero_le _⟩ ⟨rfl, rfl⟩ ⟨Nat.le_of_ble_eq_true rfl, Nat.le_of_ble_eq_true rfl⟩ rfl rfl (Nat.le_of_ble_eq_true rfl) dX10_read_59 ?_
    refine g_istore (lv2 := [(0, .ref (ad 0)), (2, .int x2), (3, .int x3), (4, .int x4), (5, .ref (ad x5)), (6, .int r2), (7, .int x7), (8, .int x8)]) C dX10_read_62 (by decide) [1, 2, 3, 4, 5, 0, 6, 7] rfl ?_
    refine g_iload C dX10_read_64 5 rfl ?_
    rcases oi_e hf with ⟨c5, hf⟩ | ⟨c5, hf⟩
    · refine g_if_eq_t (tgt := 72) C dX10_read_66 (by decide) c5 ?_
      refine g_aload_n C dX10_read_72 rfl 0 rfl ?_
      refine g_get C (a_0 ad cy _) rfl hin_X10 3 (by decide) hF_X10_36 rfl rfl dX10_read_73 ?_
      refine g_aload C dX10_read_76 4 rfl ?_
      refine g_get C (s_isSheet hx5 ad cy _) rfl hin_X7 2 (by decide) hF_X10_315 rfl rfl dX10_read_78 ?_
      refine g_iload_n C dX10_read_81 rfl 2 rfl ?_
      refine g_iload C dX10_read_82 7 rfl ?_
      refine g_iadd C dX10_read_84 ?_
      obtain ⟨v6, ev6, hf⟩ := ol_e hf
      refine g_nm ev6 ?_
      obtain ⟨h7, hf⟩ := og_e hf
      refine g_iald C (s_row hx5.r1 ad cy _) h7 dX10_read_85 ?_
      obtain ⟨v8, ev8, hf⟩ := ol_e hf
      refine g_nm ev8 ?_
      obtain ⟨r9, σ10, h11, hf⟩ := obp_e hf
      refine g_callVi (As := [.int v8]) (rest := []) C (a_32 ad cy _) rfl (c_X1_canBeHeard l dC dI ad cy 32 k_isChimes_32 v8) h11 hM_X10_264 cal_X1_canBeHeard ⟨Nat.zero_le _, Nat.zero_le _⟩ ⟨rfl, rfl⟩ ⟨Nat.le_of_ble_eq_true rfl, Nat.le_of_ble_eq_true rfl⟩ rfl rfl (Nat.le_of_ble_eq_true rfl) dX10_read_86 ?_
      rcases oi_e hf with ⟨c12, hf⟩ | ⟨c12, hf⟩
      · refine g_if_ne_t (tgt := 98) C dX10_read_89 (by decide) c12 ?_
        refine g_aload_n C dX10_read_98 rfl 0 rfl ?_
        refine g_get C (a_0 ad cy _) rfl hin_X10 3 (by decide) hF_X10_36 rfl rfl dX10_read_99 ?_
        refine g_get C (a_32 ad cy _) rfl hin_X1 7 (by decide) hF_X10_267 rfl rfl dX10_read_102 ?_
        refine g_iload C dX10_read_105 7 rfl ?_
        refine g_iadd C dX10_read_107 ?_
        refine g_bipush (v := 12) C dX10_read_108 (by decide) ?_
        rcases oi_e hf with ⟨c13, hf⟩ | ⟨c13, hf⟩
        · refine g_icmp_lt_t (tgt := 116) C dX10_read_110 (by decide) c13 ?_
          obtain ⟨v14, ev14, hf⟩ := ol_e hf
          refine g_iinc (j := 6) (w := 1) (lv2 := [(0, .ref (ad 0)), (2, .int x2), (3, .int x3), (4, .int x4), (5, .ref (ad x5)), (6, .int r2), (7, .int v14), (8, .int x8)]) C dX10_read_116 rfl (by decide) ev14 (by decide) [1, 2, 3, 4, 5, 6, 0, 7] rfl ?_
          obtain ⟨v15, ev15, hf⟩ := ol_e hf
          refine g_iinc (j := 7) (w := 1) (lv2 := [(0, .ref (ad 0)), (2, .int x2), (3, .int x3), (4, .int x4), (5, .ref (ad x5)), (6, .int r2), (7, .int v14), (8, .int v15)]) C dX10_read_119 rfl (by decide) ev15 (by decide) [1, 2, 3, 4, 5, 6, 7, 0] rfl ?_
          refine g_goto (tgt := 45) C dX10_read_122 (by decide) ?_
          exact g_sub [0, 1, 2, 3, 4, 5, 6, 7] rfl (hs_45 σ10 x2 x3 x4 x5 r2 v14 v15 hx5 hf)
        · refine g_icmp_lt_f (tgt := 116) C dX10_read_110 (by decide) c13 ?_
          refine g_bipush (v := (-3)) C dX10_read_113 (by decide) ?_
          obtain ⟨rfl, rfl⟩ := os_e hf
          exact g_iret C rfl dX10_read_115
      · refine g_if_ne_f (tgt := 98) C dX10_read_89 (by decide) (Decidable.of_not_not c12) ?_
        refine g_bipush (v := (-20)) C dX10_read_92 (by decide) ?_
        refine g_iload C dX10_read_94 7 rfl ?_
        refine g_isub C dX10_read_96 ?_
        obtain ⟨rfl, rfl⟩ := os_e hf
        exact g_iret C rfl dX10_read_97
    · refine g_if_eq_f (tgt := 72) C dX10_read_66 (by decide) c5 ?_
      refine g_goto (tgt := 125) C dX10_read_69 (by decide) ?_
      exact g_sub [0, 2, 4, 5, 6] rfl (fX10_read_b125_ok C σ3 x3 x5 r2 x7 hx5 hf)
def fX10_read_h45  : Nat → S0 → Int32 → Int32 → Int32 → Nat → Int32 → Int32 → Int32 → Option (Int32 × S0)
  | 0 => fun _ _ _ _ _ _ _ _ => none
  | n + 1 => fun σ x2 x3 x4 x5 x6 x7 x8 => fX10_read_b45  (fX10_read_h45  n) σ x2 x3 x4 x5 x6 x7 x8
set_option maxHeartbeats 1000000 in
set_option maxRecDepth 100000 in
theorem fX10_read_h45_ok {p : Program} {l : Launch} {e : Env} {s : State} {m : MethodId} {args : Array Value} {below : List Frame} {meth : Method} {c : Code} {dC : Nat → ClassId} {dI : Nat → Nat → Nat} {ad : Nat → Nat} {cy : Nat → ClassId} {sz : Nat} (C : Cx p s m args meth c RX10 cX10_read 9 (some .int) dC dI ad cy sz) {rr : Int32} {ρ : S0}  : ∀ (n : Nat) (σ : S0) (x2 : Int32) (x3 : Int32) (x4 : Int32) (x5 : Nat) (x6 : Int32) (x7 : Int32) (x8 : Int32) (hx5 : isSheet x5) (_hf : fX10_read_h45  n σ x2 x3 x4 x5 x6 x7 x8 = some (rr, ρ)), Gw p l e rm_X10_read s m args below meth c (MQ below (QcI dC dI ad cy sz rr ρ) args s 0 0 (AW ad sz)) dC dI ad cy 9 sz 0 0 45 [(0, .ref (ad 0)), (2, .int x2), (3, .int x3), (4, .int x4), (5, .ref (ad x5)), (6, .int x6), (7, .int x7), (8, .int x8)] [] σ
  | 0, _, _, _, _, _, _, _, _, _, hf => by cases hf
  | n + 1, σ, x2, x3, x4, x5, x6, x7, x8, hx5, hf => fX10_read_b45_ok C  (fX10_read_h45  n) (fX10_read_h45_ok C  n) σ x2 x3 x4 x5 x6 x7 x8 hx5 hf
def fX10_read (σ : S0) (x1 : Int32) (x2 : Int32) (x3 : Int32) (x4 : Int32) : Option (Int32 × S0) := obp (fX10_isSheet σ x1) (fun r1 σ2 => if r1 = 0 then (some ((-1), σ2)) else (obp (fX10_isLane σ2 x2) (fun r5 σ6 => if r5 = 0 then (some ((-1), σ6)) else (if x4 < 0 then (some ((-1), σ6)) else (if x4 ≤ 12 then (og (¬ (x1 < 0 ∨ 4 ≤ x1.toNatClampNeg)) (ol (90 + 2 * x1.toNatClampNeg) (fun q12 => fX10_read_h45 400 σ6 x2 x3 x4 q12 0 0 0))) else (some ((-1), σ6)))))))
set_option maxHeartbeats 1000000 in
set_option maxRecDepth 100000 in
theorem fX10_read_ok {p : Program} {l : Launch} {e : Env} {s : State} {m : MethodId} {args : Array Value} {below : List Frame} {meth : Method} {c : Code} {dC : Nat → ClassId} {dI : Nat → Nat → Nat} {ad : Nat → Nat} {cy : Nat → ClassId} {sz : Nat} (C : Cx p s m args meth c RX10 cX10_read 9 (some .int) dC dI ad cy sz) {rr : Int32} {ρ : S0} (σ : S0) (x1 : Int32) (x2 : Int32) (x3 : Int32) (x4 : Int32)  (hf : fX10_read σ x1 x2 x3 x4 = some (rr, ρ)) : Gw p l e rm_X10_read s m args below meth c (MQ below (QcI dC dI ad cy sz rr ρ) args s 0 0 (AW ad sz)) dC dI ad cy 9 sz 0 0 0 [(0, .ref (ad 0)), (1, .int x1), (2, .int x2), (3, .int x3), (4, .int x4)] [] σ := by
  unfold fX10_read at hf
  refine g_iload_n C dX10_read_0 rfl 1 rfl ?_
  obtain ⟨r1, σ2, h3, hf⟩ := obp_e hf
  refine g_callSi (As := [.int x1]) (rest := []) C (c_X10_isSheet l dC dI ad cy x1) h3 hM_X10_297 cal_X10_isSheet ⟨Nat.zero_le _, Nat.zero_le _⟩ ⟨rfl, rfl⟩ ⟨Nat.le_of_ble_eq_true rfl, Nat.le_of_ble_eq_true rfl⟩ rfl rfl (Nat.le_of_ble_eq_true rfl) dX10_read_1 ?_
  rcases oi_e hf with ⟨c4, hf⟩ | ⟨c4, hf⟩
  · refine g_if_eq_t (tgt := 26) C dX10_read_4 (by decide) c4 ?_
    refine g_iconst (v := (-1)) C dX10_read_26 (by decide) ?_
    obtain ⟨rfl, rfl⟩ := os_e hf
    exact g_iret C rfl dX10_read_27
  · refine g_if_eq_f (tgt := 26) C dX10_read_4 (by decide) c4 ?_
    refine g_iload_n C dX10_read_7 rfl 2 rfl ?_
    obtain ⟨r5, σ6, h7, hf⟩ := obp_e hf
    refine g_callSi (As := [.int x2]) (rest := []) C (c_X10_isLane l dC dI ad cy x2) h7 hM_X10_300 cal_X10_isLane ⟨Nat.zero_le _, Nat.zero_le _⟩ ⟨rfl, rfl⟩ ⟨Nat.le_of_ble_eq_true rfl, Nat.le_of_ble_eq_true rfl⟩ rfl rfl (Nat.le_of_ble_eq_true rfl) dX10_read_8 ?_
    rcases oi_e hf with ⟨c8, hf⟩ | ⟨c8, hf⟩
    · refine g_if_eq_t (tgt := 26) C dX10_read_11 (by decide) c8 ?_
      refine g_iconst (v := (-1)) C dX10_read_26 (by decide) ?_
      obtain ⟨rfl, rfl⟩ := os_e hf
      exact g_iret C rfl dX10_read_27
    · refine g_if_eq_f (tgt := 26) C dX10_read_11 (by decide) c8 ?_
      refine g_iload C dX10_read_14 4 rfl ?_
      rcases oi_e hf with ⟨c9, hf⟩ | ⟨c9, hf⟩
      · refine g_if_lt_t (tgt := 26) C dX10_read_16 (by decide) c9 ?_
        refine g_iconst (v := (-1)) C dX10_read_26 (by decide) ?_
        obtain ⟨rfl, rfl⟩ := os_e hf
        exact g_iret C rfl dX10_read_27
      · refine g_if_lt_f (tgt := 26) C dX10_read_16 (by decide) c9 ?_
        refine g_iload C dX10_read_19 4 rfl ?_
        refine g_bipush (v := 12) C dX10_read_21 (by decide) ?_
        rcases oi_e hf with ⟨c10, hf⟩ | ⟨c10, hf⟩
        · refine g_icmp_le_t (tgt := 28) C dX10_read_23 (by decide) c10 ?_
          refine g_aload_n C dX10_read_28 rfl 0 rfl ?_
          refine g_get C (a_0 ad cy _) rfl hin_X10 11 (by decide) hF_X10_88 rfl rfl dX10_read_29 ?_
          refine g_iload_n C dX10_read_32 rfl 1 rfl ?_
          obtain ⟨h11, hf⟩ := og_e hf
          obtain ⟨q12, eq12, hf⟩ := ol_e hf
          refine g_aald C (a_73 ad cy _) rfl rfl h11 dX10_read_33 ?_
          refine g_nmr eq12 ?_
          have hq12 := (o_73 h11 eq12)
          refine g_astore (lv2 := [(0, .ref (ad 0)), (1, .int x1), (2, .int x2), (3, .int x3), (4, .int x4), (5, .ref (ad q12))]) C dX10_read_34 (by decide) [1, 2, 3, 4, 5, 0] rfl ?_
          refine g_iconst (v := 0) C dX10_read_36 (by decide) ?_
          refine g_istore (lv2 := [(0, .ref (ad 0)), (1, .int x1), (2, .int x2), (3, .int x3), (4, .int x4), (5, .ref (ad q12)), (6, .int 0)]) C dX10_read_37 (by decide) [1, 2, 3, 4, 5, 6, 0] rfl ?_
          refine g_iconst (v := 0) C dX10_read_39 (by decide) ?_
          refine g_istore (lv2 := [(0, .ref (ad 0)), (1, .int x1), (2, .int x2), (3, .int x3), (4, .int x4), (5, .ref (ad q12)), (6, .int 0), (7, .int 0)]) C dX10_read_40 (by decide) [1, 2, 3, 4, 5, 6, 7, 0] rfl ?_
          refine g_iconst (v := 0) C dX10_read_42 (by decide) ?_
          refine g_istore (lv2 := [(0, .ref (ad 0)), (1, .int x1), (2, .int x2), (3, .int x3), (4, .int x4), (5, .ref (ad q12)), (6, .int 0), (7, .int 0), (8, .int 0)]) C dX10_read_43 (by decide) [1, 2, 3, 4, 5, 6, 7, 8, 0] rfl ?_
          exact g_sub [0, 2, 3, 4, 5, 6, 7, 8] rfl (fX10_read_h45_ok C 400 σ6 x2 x3 x4 q12 0 0 0 hq12 hf)
        · refine g_icmp_le_f (tgt := 28) C dX10_read_23 (by decide) c10 ?_
          refine g_iconst (v := (-1)) C dX10_read_26 (by decide) ?_
          obtain ⟨rfl, rfl⟩ := os_e hf
          exact g_iret C rfl dX10_read_27
theorem c_X10_read (l : Launch) (dC : Nat → ClassId) (dI : Nat → Nat → Nat) (ad : Nat → Nat) (cy : Nat → ClassId) (x1 : Int32) (x2 : Int32) (x3 : Int32) (x4 : Int32) : ConI l yX10_read cX10_read 9 (some .int) rm_X10_read dC dI ad cy [.ref (ad 0), .int x1, .int x2, .int x3, .int x4] (fun σ => fX10_read σ x1 x2 x3 x4) := con_i (own := RX10) (by decide) rfl (Nat.le_of_ble_eq_true rfl) (fun _ _ _ _ _ _ _ _ σ _ _ C hf => fX10_read_ok C σ x1 x2 x3 x4 hf)
theorem cal_X10_read : CalV yX10_read RX10 cX10_read 9 (some .int) 4 := ⟨hI_X10_read, hS_X10_read, hIni_X10, hC_X10_read, by decide +kernel⟩
abbrev rm_X10_torn : Room := { frames := 0, cells := 0, slots := 0, locals := 0 }
def fX10_torn (σ : S0)  : Option (Int32 × S0) := some (σ 0 12, σ)
set_option maxHeartbeats 1000000 in
set_option maxRecDepth 100000 in
theorem fX10_torn_ok {p : Program} {l : Launch} {e : Env} {s : State} {m : MethodId} {args : Array Value} {below : List Frame} {meth : Method} {c : Code} {dC : Nat → ClassId} {dI : Nat → Nat → Nat} {ad : Nat → Nat} {cy : Nat → ClassId} {sz : Nat} (C : Cx p s m args meth c RX10 cX10_torn 1 (some .int) dC dI ad cy sz) {rr : Int32} {ρ : S0} (σ : S0)   (hf : fX10_torn σ = some (rr, ρ)) : Gw p l e rm_X10_torn s m args below meth c (MQ below (QcI dC dI ad cy sz rr ρ) args s 0 0 (AW ad sz)) dC dI ad cy 1 sz 0 0 0 [(0, .ref (ad 0))] [] σ := by
  unfold fX10_torn at hf
  refine g_aload_n C dX10_torn_0 rfl 0 rfl ?_
  refine g_get C (a_0 ad cy _) rfl hin_X10 12 (by decide) hF_X10_318 rfl rfl dX10_torn_1 ?_
  obtain ⟨rfl, rfl⟩ := os_e hf
  exact g_iret C rfl dX10_torn_4
theorem c_X10_torn (l : Launch) (dC : Nat → ClassId) (dI : Nat → Nat → Nat) (ad : Nat → Nat) (cy : Nat → ClassId)  : ConI l yX10_torn cX10_torn 1 (some .int) rm_X10_torn dC dI ad cy [.ref (ad 0)] (fun σ => fX10_torn σ) := con_i (own := RX10) (by decide) rfl (Nat.le_of_ble_eq_true rfl) (fun _ _ _ _ _ _ _ _ σ _ _ C hf => fX10_torn_ok C σ  hf)
theorem cal_X10_torn : CalV yX10_torn RX10 cX10_torn 1 (some .int) 0 := ⟨hI_X10_torn, hS_X10_torn, hIni_X10, hC_X10_torn, by decide +kernel⟩
abbrev rm_X10_count : Room := { frames := 2, cells := 0, slots := 0, locals := 42 }
def fX10_count_b90  (σ : S0) (t0 : Int32) : Option (Int32 × S0) := og (¬ (((1 : Int32)) < 0 ∨ 2 ≤ ((1 : Int32)).toNatClampNeg)) (ol (σ 72 ((1 : Int32)).toNatClampNeg) (fun v2 => if v2 = 0 then (some (t0 + 0, σ)) else (some (t0 + 1, σ))))
set_option maxHeartbeats 1000000 in
set_option maxRecDepth 100000 in
theorem fX10_count_b90_ok {p : Program} {l : Launch} {e : Env} {s : State} {m : MethodId} {args : Array Value} {below : List Frame} {meth : Method} {c : Code} {dC : Nat → ClassId} {dI : Nat → Nat → Nat} {ad : Nat → Nat} {cy : Nat → ClassId} {sz : Nat} (C : Cx p s m args meth c RX10 cX10_count 2 (some .int) dC dI ad cy sz) {rr : Int32} {ρ : S0}  (σ : S0) (t0 : Int32)  (hf : fX10_count_b90 σ t0 = some (rr, ρ)) : Gw p l e rm_X10_count s m args below meth c (MQ below (QcI dC dI ad cy sz rr ρ) args s 0 0 (AW ad sz)) dC dI ad cy 2 sz 0 0 90 [(0, .ref (ad 0))] [.int t0] σ := by
  unfold fX10_count_b90 at hf
  refine g_aload_n C dX10_count_90 rfl 0 rfl ?_
  refine g_get C (a_0 ad cy _) rfl hin_X10 10 (by decide) hF_X10_82 rfl rfl dX10_count_91 ?_
  refine g_iconst (v := 1) C dX10_count_94 (by decide) ?_
  obtain ⟨h1, hf⟩ := og_e hf
  refine g_zald C (a_72 ad cy _) h1 dX10_count_95 ?_
  obtain ⟨v2, ev2, hf⟩ := ol_e hf
  refine g_nm ev2 ?_
  rcases oi_e hf with ⟨c3, hf⟩ | ⟨c3, hf⟩
  · refine g_if_eq_t (tgt := 103) C dX10_count_96 (by decide) c3 ?_
    refine g_iconst (v := 0) C dX10_count_103 (by decide) ?_
    refine g_iadd C dX10_count_104 ?_
    obtain ⟨rfl, rfl⟩ := os_e hf
    exact g_iret C rfl dX10_count_105
  · refine g_if_eq_f (tgt := 103) C dX10_count_96 (by decide) c3 ?_
    refine g_iconst (v := 1) C dX10_count_99 (by decide) ?_
    refine g_goto (tgt := 104) C dX10_count_100 (by decide) ?_
    refine g_iadd C dX10_count_104 ?_
    obtain ⟨rfl, rfl⟩ := os_e hf
    exact g_iret C rfl dX10_count_105
def fX10_count (σ : S0) (x1 : Int32) : Option (Int32 × S0) := if x1.toInt < 0 ∨ 6 < x1.toInt then (some ((-1), σ)) else if x1 = 0 then (some (σ 32 0, σ)) else if x1 = 1 then (some (σ 22 2, σ)) else if x1 = 2 then (obp (fX1_feudPairs σ 32) (fun r5 σ6 => some (r5, σ6))) else if x1 = 3 then (some (σ 32 7, σ)) else if x1 = 4 then (og (¬ (((0 : Int32)) < 0 ∨ 2 ≤ ((0 : Int32)).toNatClampNeg)) (ol (σ 72 ((0 : Int32)).toNatClampNeg) (fun v11 => if v11 = 0 then (fX10_count_b90 σ 0) else (fX10_count_b90 σ 1)))) else if x1 = 5 then (some (σ 1 1, σ)) else if x1 = 6 then (og (¬ (((0 : Int32)) < 0 ∨ 4 ≤ ((0 : Int32)).toNatClampNeg)) (ol (90 + 2 * ((0 : Int32)).toNatClampNeg) (fun q16 => obp (fX7_isNothing σ q16) (fun r17 σ18 => if r17 = 0 then (og (¬ (((0 : Int32)) < 0 ∨ 4 ≤ ((0 : Int32)).toNatClampNeg)) (ol (90 + 2 * ((0 : Int32)).toNatClampNeg) (fun q22 => some (σ18 q22 1, σ18)))) else (some ((-4), σ18)))))) else none
set_option maxHeartbeats 1000000 in
set_option maxRecDepth 100000 in
theorem fX10_count_ok {p : Program} {l : Launch} {e : Env} {s : State} {m : MethodId} {args : Array Value} {below : List Frame} {meth : Method} {c : Code} {dC : Nat → ClassId} {dI : Nat → Nat → Nat} {ad : Nat → Nat} {cy : Nat → ClassId} {sz : Nat} (C : Cx p s m args meth c RX10 cX10_count 2 (some .int) dC dI ad cy sz) {rr : Int32} {ρ : S0} (σ : S0) (x1 : Int32)  (hf : fX10_count σ x1 = some (rr, ρ)) : Gw p l e rm_X10_count s m args below meth c (MQ below (QcI dC dI ad cy sz rr ρ) args s 0 0 (AW ad sz)) dC dI ad cy 2 sz 0 0 0 [(0, .ref (ad 0)), (1, .int x1)] [] σ := by
  unfold fX10_count at hf
  refine g_iload_n C dX10_count_0 rfl 1 rfl ?_
  rcases oi_e hf with ⟨c1, hf⟩ | ⟨c1, hf⟩
  · refine g_tout (tgt := 141) C dX10_count_1 c1 (by decide) ?_
    refine g_iconst (v := (-1)) C dX10_count_141 (by decide) ?_
    obtain ⟨rfl, rfl⟩ := os_e hf
    exact g_iret C rfl dX10_count_142
  · skip
    rcases oi_e hf with ⟨c2, hf⟩ | ⟨c2, hf⟩
    · refine g_tin (tgt := 44) C dX10_count_1 (by rw [c2]; decide) (by rw [c2]; decide) (by rw [c2]; rfl) (by decide) ?_
      refine g_aload_n C dX10_count_44 rfl 0 rfl ?_
      refine g_get C (a_0 ad cy _) rfl hin_X10 3 (by decide) hF_X10_36 rfl rfl dX10_count_45 ?_
      refine g_get C (a_32 ad cy _) rfl hin_X1 0 (by decide) hF_X10_250 rfl rfl dX10_count_48 ?_
      obtain ⟨rfl, rfl⟩ := os_e hf
      exact g_iret C rfl dX10_count_51
    · skip
      rcases oi_e hf with ⟨c3, hf⟩ | ⟨c3, hf⟩
      · refine g_tin (tgt := 52) C dX10_count_1 (by rw [c3]; decide) (by rw [c3]; decide) (by rw [c3]; rfl) (by decide) ?_
        refine g_aload_n C dX10_count_52 rfl 0 rfl ?_
        refine g_get C (a_0 ad cy _) rfl hin_X10 2 (by decide) hF_X10_28 rfl rfl dX10_count_53 ?_
        refine g_get C (a_22 ad cy _) rfl hin_X9 2 (by decide) hF_X10_321 rfl rfl dX10_count_56 ?_
        obtain ⟨rfl, rfl⟩ := os_e hf
        exact g_iret C rfl dX10_count_59
      · skip
        rcases oi_e hf with ⟨c4, hf⟩ | ⟨c4, hf⟩
        · refine g_tin (tgt := 60) C dX10_count_1 (by rw [c4]; decide) (by rw [c4]; decide) (by rw [c4]; rfl) (by decide) ?_
          refine g_aload_n C dX10_count_60 rfl 0 rfl ?_
          refine g_get C (a_0 ad cy _) rfl hin_X10 3 (by decide) hF_X10_36 rfl rfl dX10_count_61 ?_
          obtain ⟨r5, σ6, h7, hf⟩ := obp_e hf
          refine g_callVi (As := []) (rest := []) C (a_32 ad cy _) rfl (c_X1_feudPairs l dC dI ad cy 32 k_isChimes_32) h7 hM_X10_322 cal_X1_feudPairs ⟨Nat.zero_le _, Nat.zero_le _⟩ ⟨rfl, rfl⟩ ⟨Nat.le_of_ble_eq_true rfl, Nat.le_of_ble_eq_true rfl⟩ rfl rfl (Nat.le_of_ble_eq_true rfl) dX10_count_64 ?_
          obtain ⟨rfl, rfl⟩ := os_e hf
          exact g_iret C rfl dX10_count_67
        · skip
          rcases oi_e hf with ⟨c8, hf⟩ | ⟨c8, hf⟩
          · refine g_tin (tgt := 68) C dX10_count_1 (by rw [c8]; decide) (by rw [c8]; decide) (by rw [c8]; rfl) (by decide) ?_
            refine g_aload_n C dX10_count_68 rfl 0 rfl ?_
            refine g_get C (a_0 ad cy _) rfl hin_X10 3 (by decide) hF_X10_36 rfl rfl dX10_count_69 ?_
            refine g_get C (a_32 ad cy _) rfl hin_X1 7 (by decide) hF_X10_267 rfl rfl dX10_count_72 ?_
            obtain ⟨rfl, rfl⟩ := os_e hf
            exact g_iret C rfl dX10_count_75
          · skip
            rcases oi_e hf with ⟨c9, hf⟩ | ⟨c9, hf⟩
            · refine g_tin (tgt := 76) C dX10_count_1 (by rw [c9]; decide) (by rw [c9]; decide) (by rw [c9]; rfl) (by decide) ?_
              refine g_aload_n C dX10_count_76 rfl 0 rfl ?_
              refine g_get C (a_0 ad cy _) rfl hin_X10 10 (by decide) hF_X10_82 rfl rfl dX10_count_77 ?_
              refine g_iconst (v := 0) C dX10_count_80 (by decide) ?_
              obtain ⟨h10, hf⟩ := og_e hf
              refine g_zald C (a_72 ad cy _) h10 dX10_count_81 ?_
              obtain ⟨v11, ev11, hf⟩ := ol_e hf
              refine g_nm ev11 ?_
              rcases oi_e hf with ⟨c12, hf⟩ | ⟨c12, hf⟩
              · refine g_if_eq_t (tgt := 89) C dX10_count_82 (by decide) c12 ?_
                refine g_iconst (v := 0) C dX10_count_89 (by decide) ?_
                exact g_sub [0] rfl (fX10_count_b90_ok C σ 0 hf)
              · refine g_if_eq_f (tgt := 89) C dX10_count_82 (by decide) c12 ?_
                refine g_iconst (v := 1) C dX10_count_85 (by decide) ?_
                refine g_goto (tgt := 90) C dX10_count_86 (by decide) ?_
                exact g_sub [0] rfl (fX10_count_b90_ok C σ 1 hf)
            · skip
              rcases oi_e hf with ⟨c13, hf⟩ | ⟨c13, hf⟩
              · refine g_tin (tgt := 106) C dX10_count_1 (by rw [c13]; decide) (by rw [c13]; decide) (by rw [c13]; rfl) (by decide) ?_
                refine g_aload_n C dX10_count_106 rfl 0 rfl ?_
                refine g_get C (a_0 ad cy _) rfl hin_X10 0 (by decide) hF_X10_12 rfl rfl dX10_count_107 ?_
                refine g_get C (a_1 ad cy _) rfl hin_X8 1 (by decide) hF_X10_94 rfl rfl dX10_count_110 ?_
                obtain ⟨rfl, rfl⟩ := os_e hf
                exact g_iret C rfl dX10_count_113
              · skip
                rcases oi_e hf with ⟨c14, hf⟩ | ⟨c14, hf⟩
                · refine g_tin (tgt := 114) C dX10_count_1 (by rw [c14]; decide) (by rw [c14]; decide) (by rw [c14]; rfl) (by decide) ?_
                  refine g_aload_n C dX10_count_114 rfl 0 rfl ?_
                  refine g_get C (a_0 ad cy _) rfl hin_X10 11 (by decide) hF_X10_88 rfl rfl dX10_count_115 ?_
                  refine g_iconst (v := 0) C dX10_count_118 (by decide) ?_
                  obtain ⟨h15, hf⟩ := og_e hf
                  obtain ⟨q16, eq16, hf⟩ := ol_e hf
                  refine g_aald C (a_73 ad cy _) rfl rfl h15 dX10_count_119 ?_
                  refine g_nmr eq16 ?_
                  have hq16 := (o_73 h15 eq16)
                  obtain ⟨r17, σ18, h19, hf⟩ := obp_e hf
                  refine g_callVi (As := []) (rest := []) C (s_isSheet hq16 ad cy _) rfl (c_X7_isNothing l dC dI ad cy q16 hq16) h19 hM_X10_325 cal_X7_isNothing ⟨Nat.zero_le _, Nat.zero_le _⟩ ⟨rfl, rfl⟩ ⟨Nat.le_of_ble_eq_true rfl, Nat.le_of_ble_eq_true rfl⟩ rfl rfl (Nat.le_of_ble_eq_true rfl) dX10_count_120 ?_
                  rcases oi_e hf with ⟨c20, hf⟩ | ⟨c20, hf⟩
                  · refine g_if_eq_t (tgt := 131) C dX10_count_123 (by decide) c20 ?_
                    refine g_aload_n C dX10_count_131 rfl 0 rfl ?_
                    refine g_get C (a_0 ad cy _) rfl hin_X10 11 (by decide) hF_X10_88 rfl rfl dX10_count_132 ?_
                    refine g_iconst (v := 0) C dX10_count_135 (by decide) ?_
                    obtain ⟨h21, hf⟩ := og_e hf
                    obtain ⟨q22, eq22, hf⟩ := ol_e hf
                    refine g_aald C (a_73 ad cy _) rfl rfl h21 dX10_count_136 ?_
                    refine g_nmr eq22 ?_
                    have hq22 := (o_73 h21 eq22)
                    refine g_get C (s_isSheet hq22 ad cy _) rfl hin_X7 1 (by decide) hF_X10_328 rfl rfl dX10_count_137 ?_
                    obtain ⟨rfl, rfl⟩ := os_e hf
                    exact g_iret C rfl dX10_count_140
                  · refine g_if_eq_f (tgt := 131) C dX10_count_123 (by decide) c20 ?_
                    refine g_bipush (v := (-4)) C dX10_count_126 (by decide) ?_
                    refine g_goto (tgt := 140) C dX10_count_128 (by decide) ?_
                    obtain ⟨rfl, rfl⟩ := os_e hf
                    exact g_iret C rfl dX10_count_140
                · skip
                  cases hf
theorem c_X10_count (l : Launch) (dC : Nat → ClassId) (dI : Nat → Nat → Nat) (ad : Nat → Nat) (cy : Nat → ClassId) (x1 : Int32) : ConI l yX10_count cX10_count 2 (some .int) rm_X10_count dC dI ad cy [.ref (ad 0), .int x1] (fun σ => fX10_count σ x1) := con_i (own := RX10) (by decide) rfl (Nat.le_of_ble_eq_true rfl) (fun _ _ _ _ _ _ _ _ σ _ _ C hf => fX10_count_ok C σ x1 hf)
theorem cal_X10_count : CalV yX10_count RX10 cX10_count 2 (some .int) 1 := ⟨hI_X10_count, hS_X10_count, hIni_X10, hC_X10_count, by decide +kernel⟩
end
