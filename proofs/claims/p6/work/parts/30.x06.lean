abbrev rm_X10_hear : Room := { frames := 2, cells := 0, slots := 0, locals := 42 }
def fX10_hear (σ : S0) (x1 : Int32) : Option (Int32 × S0) := obp (fX1_canBeHeard σ 32 x1) (fun r1 σ2 => if ¬ r1 = 0 then (if (σ2 32 7) < 12 then (obp (fX1_addHeard σ2 32 x1) (fun r6 σ7 => some (σ7 32 7, σ7))) else (some ((-3), σ2))) else (some ((-1), σ2)))
set_option maxHeartbeats 1000000 in
set_option maxRecDepth 100000 in
theorem fX10_hear_ok {p : Program} {l : Launch} {e : Env} {s : State} {m : MethodId} {args : Array Value} {below : List Frame} {meth : Method} {c : Code} {dC : Nat → ClassId} {dI : Nat → Nat → Nat} {ad : Nat → Nat} {cy : Nat → ClassId} {sz : Nat} (C : Cx p s m args meth c RX10 cX10_hear 2 (some .int) dC dI ad cy sz) {rr : Int32} {ρ : S0} (σ : S0) (x1 : Int32)  (hf : fX10_hear σ x1 = some (rr, ρ)) : Gw p l e rm_X10_hear s m args below meth c (MQ below (QcI dC dI ad cy sz rr ρ) args s 0 0 (AW ad sz)) dC dI ad cy 2 sz 0 0 0 [(0, .ref (ad 0)), (1, .int x1)] [] σ := by
  unfold fX10_hear at hf
  refine g_aload_n C dX10_hear_0 rfl 0 rfl ?_
  refine g_get C (a_0 ad cy _) rfl hin_X10 3 (by decide) hF_X10_36 rfl rfl dX10_hear_1 ?_
  refine g_iload_n C dX10_hear_4 rfl 1 rfl ?_
  obtain ⟨r1, σ2, h3, hf⟩ := obp_e hf
  refine g_callVi (As := [.int x1]) (rest := []) C (a_32 ad cy _) rfl (c_X1_canBeHeard l dC dI ad cy 32 k_isChimes_32 x1) h3 hM_X10_264 cal_X1_canBeHeard ⟨Nat.zero_le _, Nat.zero_le _⟩ ⟨rfl, rfl⟩ ⟨Nat.le_of_ble_eq_true rfl, Nat.le_of_ble_eq_true rfl⟩ rfl rfl (Nat.le_of_ble_eq_true rfl) dX10_hear_5 ?_
  rcases oi_e hf with ⟨c4, hf⟩ | ⟨c4, hf⟩
  · refine g_if_ne_t (tgt := 13) C dX10_hear_8 (by decide) c4 ?_
    refine g_aload_n C dX10_hear_13 rfl 0 rfl ?_
    refine g_get C (a_0 ad cy _) rfl hin_X10 3 (by decide) hF_X10_36 rfl rfl dX10_hear_14 ?_
    refine g_get C (a_32 ad cy _) rfl hin_X1 7 (by decide) hF_X10_267 rfl rfl dX10_hear_17 ?_
    refine g_bipush (v := 12) C dX10_hear_20 (by decide) ?_
    rcases oi_e hf with ⟨c5, hf⟩ | ⟨c5, hf⟩
    · refine g_icmp_lt_t (tgt := 28) C dX10_hear_22 (by decide) c5 ?_
      refine g_aload_n C dX10_hear_28 rfl 0 rfl ?_
      refine g_get C (a_0 ad cy _) rfl hin_X10 3 (by decide) hF_X10_36 rfl rfl dX10_hear_29 ?_
      refine g_iload_n C dX10_hear_32 rfl 1 rfl ?_
      obtain ⟨r6, σ7, h8, hf⟩ := obp_e hf
      refine g_callVv (As := [.int x1]) (rest := []) C (a_32 ad cy _) rfl (c_X1_addHeard l dC dI ad cy 32 k_isChimes_32 x1) h8 hM_X10_270 cal_X1_addHeard ⟨Nat.zero_le _, Nat.zero_le _⟩ ⟨rfl, rfl⟩ ⟨Nat.le_of_ble_eq_true rfl, Nat.le_of_ble_eq_true rfl⟩ rfl rfl (Nat.le_of_ble_eq_true rfl) dX10_hear_33 ?_
      refine g_aload_n C dX10_hear_36 rfl 0 rfl ?_
      refine g_get C (a_0 ad cy _) rfl hin_X10 3 (by decide) hF_X10_36 rfl rfl dX10_hear_37 ?_
      refine g_get C (a_32 ad cy _) rfl hin_X1 7 (by decide) hF_X10_267 rfl rfl dX10_hear_40 ?_
      obtain ⟨rfl, rfl⟩ := os_e hf
      exact g_iret C rfl dX10_hear_43
    · refine g_icmp_lt_f (tgt := 28) C dX10_hear_22 (by decide) c5 ?_
      refine g_bipush (v := (-3)) C dX10_hear_25 (by decide) ?_
      obtain ⟨rfl, rfl⟩ := os_e hf
      exact g_iret C rfl dX10_hear_27
  · refine g_if_ne_f (tgt := 13) C dX10_hear_8 (by decide) (Decidable.of_not_not c4) ?_
    refine g_iconst (v := (-1)) C dX10_hear_11 (by decide) ?_
    obtain ⟨rfl, rfl⟩ := os_e hf
    exact g_iret C rfl dX10_hear_12
theorem c_X10_hear (l : Launch) (dC : Nat → ClassId) (dI : Nat → Nat → Nat) (ad : Nat → Nat) (cy : Nat → ClassId) (x1 : Int32) : ConI l yX10_hear cX10_hear 2 (some .int) rm_X10_hear dC dI ad cy [.ref (ad 0), .int x1] (fun σ => fX10_hear σ x1) := con_i (own := RX10) (by decide) rfl (Nat.le_of_ble_eq_true rfl) (fun _ _ _ _ _ _ _ _ σ _ _ C hf => fX10_hear_ok C σ x1 hf)
theorem cal_X10_hear : CalV yX10_hear RX10 cX10_hear 2 (some .int) 1 := ⟨hI_X10_hear, hS_X10_hear, hIni_X10, hC_X10_hear, by decide +kernel⟩
abbrev rm_X10_hush : Room := { frames := 0, cells := 0, slots := 0, locals := 0 }
def fX10_hush (σ : S0)  : Option (Int32 × S0) := ol (σ 32 7) (fun v1 => ol (su σ 32 7 0) (fun σ2 => some (v1, σ2)))
set_option maxHeartbeats 1000000 in
set_option maxRecDepth 100000 in
theorem fX10_hush_ok {p : Program} {l : Launch} {e : Env} {s : State} {m : MethodId} {args : Array Value} {below : List Frame} {meth : Method} {c : Code} {dC : Nat → ClassId} {dI : Nat → Nat → Nat} {ad : Nat → Nat} {cy : Nat → ClassId} {sz : Nat} (C : Cx p s m args meth c RX10 cX10_hush 2 (some .int) dC dI ad cy sz) {rr : Int32} {ρ : S0} (σ : S0)   (hf : fX10_hush σ = some (rr, ρ)) : Gw p l e rm_X10_hush s m args below meth c (MQ below (QcI dC dI ad cy sz rr ρ) args s 0 0 (AW ad sz)) dC dI ad cy 2 sz 0 0 0 [(0, .ref (ad 0))] [] σ := by
  unfold fX10_hush at hf
  refine g_aload_n C dX10_hush_0 rfl 0 rfl ?_
  refine g_get C (a_0 ad cy _) rfl hin_X10 3 (by decide) hF_X10_36 rfl rfl dX10_hush_1 ?_
  refine g_get C (a_32 ad cy _) rfl hin_X1 7 (by decide) hF_X10_267 rfl rfl dX10_hush_4 ?_
  obtain ⟨v1, ev1, hf⟩ := ol_e hf
  refine g_nm ev1 ?_
  refine g_istore_n (lv2 := [(0, .ref (ad 0)), (1, .int v1)]) C dX10_hush_7 rfl (by decide) [1, 0] rfl ?_
  refine g_aload_n C dX10_hush_8 rfl 0 rfl ?_
  refine g_get C (a_0 ad cy _) rfl hin_X10 3 (by decide) hF_X10_36 rfl rfl dX10_hush_9 ?_
  refine g_iconst (v := 0) C dX10_hush_12 (by decide) ?_
  obtain ⟨σ2, eσ2, hf⟩ := ol_e hf
  refine g_put (ty := .int) C (a_32 ad cy _) rfl hin_X1 tyX1 tyX1_ok nmX1 7 (by decide) hF_X10_267 rfl rfl (by decide +kernel) rfl rfl (Nat.le_of_ble_eq_true rfl) (p_32_7 ad cy _ _) eσ2 dX10_hush_13 ?_
  refine g_iload_n C dX10_hush_16 rfl 1 rfl ?_
  obtain ⟨rfl, rfl⟩ := os_e hf
  exact g_iret C rfl dX10_hush_17
theorem c_X10_hush (l : Launch) (dC : Nat → ClassId) (dI : Nat → Nat → Nat) (ad : Nat → Nat) (cy : Nat → ClassId)  : ConI l yX10_hush cX10_hush 2 (some .int) rm_X10_hush dC dI ad cy [.ref (ad 0)] (fun σ => fX10_hush σ) := con_i (own := RX10) (by decide) rfl (Nat.le_of_ble_eq_true rfl) (fun _ _ _ _ _ _ _ _ σ _ _ C hf => fX10_hush_ok C σ  hf)
theorem cal_X10_hush : CalV yX10_hush RX10 cX10_hush 2 (some .int) 0 := ⟨hI_X10_hush, hS_X10_hush, hIni_X10, hC_X10_hush, by decide +kernel⟩
abbrev rm_X10_fits : Room := { frames := 2, cells := 0, slots := 0, locals := 47 }
def fX10_fits (σ : S0) (x1 : Int32) : Option (Int32 × S0) := obp (fX9_hasTune σ 22 x1) (fun r1 σ2 => if ¬ r1 = 0 then (if ¬ (σ2 32 7) = 0 then (obp (fX3_canBe σ2 x1) (fun r6 σ7 => if r6 = 0 then (some (0, σ7)) else (some (1, σ7)))) else (some ((-2), σ2))) else (some ((-1), σ2)))
set_option maxHeartbeats 1000000 in
set_option maxRecDepth 100000 in
theorem fX10_fits_ok {p : Program} {l : Launch} {e : Env} {s : State} {m : MethodId} {args : Array Value} {below : List Frame} {meth : Method} {c : Code} {dC : Nat → ClassId} {dI : Nat → Nat → Nat} {ad : Nat → Nat} {cy : Nat → ClassId} {sz : Nat} (C : Cx p s m args meth c RX10 cX10_fits 2 (some .int) dC dI ad cy sz) {rr : Int32} {ρ : S0} (σ : S0) (x1 : Int32)  (hf : fX10_fits σ x1 = some (rr, ρ)) : Gw p l e rm_X10_fits s m args below meth c (MQ below (QcI dC dI ad cy sz rr ρ) args s 0 0 (AW ad sz)) dC dI ad cy 2 sz 0 0 0 [(0, .ref (ad 0)), (1, .int x1)] [] σ := by
  unfold fX10_fits at hf
  refine g_aload_n C dX10_fits_0 rfl 0 rfl ?_
  refine g_get C (a_0 ad cy _) rfl hin_X10 2 (by decide) hF_X10_28 rfl rfl dX10_fits_1 ?_
  refine g_iload_n C dX10_fits_4 rfl 1 rfl ?_
  obtain ⟨r1, σ2, h3, hf⟩ := obp_e hf
  refine g_callVi (As := [.int x1]) (rest := []) C (a_22 ad cy _) rfl (c_X9_hasTune l dC dI ad cy 22 k_isTown_22 x1) h3 hM_X10_147 cal_X9_hasTune ⟨Nat.zero_le _, Nat.zero_le _⟩ ⟨rfl, rfl⟩ ⟨Nat.le_of_ble_eq_true rfl, Nat.le_of_ble_eq_true rfl⟩ rfl rfl (Nat.le_of_ble_eq_true rfl) dX10_fits_5 ?_
  rcases oi_e hf with ⟨c4, hf⟩ | ⟨c4, hf⟩
  · refine g_if_ne_t (tgt := 13) C dX10_fits_8 (by decide) c4 ?_
    refine g_aload_n C dX10_fits_13 rfl 0 rfl ?_
    refine g_get C (a_0 ad cy _) rfl hin_X10 3 (by decide) hF_X10_36 rfl rfl dX10_fits_14 ?_
    refine g_get C (a_32 ad cy _) rfl hin_X1 7 (by decide) hF_X10_267 rfl rfl dX10_fits_17 ?_
    rcases oi_e hf with ⟨c5, hf⟩ | ⟨c5, hf⟩
    · refine g_if_ne_t (tgt := 26) C dX10_fits_20 (by decide) c5 ?_
      refine g_aload_n C dX10_fits_26 rfl 0 rfl ?_
      refine g_get C (a_0 ad cy _) rfl hin_X10 8 (by decide) hF_X10_72 rfl rfl dX10_fits_27 ?_
      refine g_iload_n C dX10_fits_30 rfl 1 rfl ?_
      obtain ⟨r6, σ7, h8, hf⟩ := obp_e hf
      refine g_callVi (As := [.int x1]) (rest := []) C (a_70 ad cy _) rfl (c_X3_canBe l dC dI ad cy x1) h8 hM_X10_273 cal_X3_canBe ⟨Nat.zero_le _, Nat.zero_le _⟩ ⟨rfl, rfl⟩ ⟨Nat.le_of_ble_eq_true rfl, Nat.le_of_ble_eq_true rfl⟩ rfl rfl (Nat.le_of_ble_eq_true rfl) dX10_fits_31 ?_
      rcases oi_e hf with ⟨c9, hf⟩ | ⟨c9, hf⟩
      · refine g_if_eq_t (tgt := 41) C dX10_fits_34 (by decide) c9 ?_
        refine g_iconst (v := 0) C dX10_fits_41 (by decide) ?_
        obtain ⟨rfl, rfl⟩ := os_e hf
        exact g_iret C rfl dX10_fits_42
      · refine g_if_eq_f (tgt := 41) C dX10_fits_34 (by decide) c9 ?_
        refine g_iconst (v := 1) C dX10_fits_37 (by decide) ?_
        refine g_goto (tgt := 42) C dX10_fits_38 (by decide) ?_
        obtain ⟨rfl, rfl⟩ := os_e hf
        exact g_iret C rfl dX10_fits_42
    · refine g_if_ne_f (tgt := 26) C dX10_fits_20 (by decide) (Decidable.of_not_not c5) ?_
      refine g_bipush (v := (-2)) C dX10_fits_23 (by decide) ?_
      obtain ⟨rfl, rfl⟩ := os_e hf
      exact g_iret C rfl dX10_fits_25
  · refine g_if_ne_f (tgt := 13) C dX10_fits_8 (by decide) (Decidable.of_not_not c4) ?_
    refine g_iconst (v := (-1)) C dX10_fits_11 (by decide) ?_
    obtain ⟨rfl, rfl⟩ := os_e hf
    exact g_iret C rfl dX10_fits_12
theorem c_X10_fits (l : Launch) (dC : Nat → ClassId) (dI : Nat → Nat → Nat) (ad : Nat → Nat) (cy : Nat → ClassId) (x1 : Int32) : ConI l yX10_fits cX10_fits 2 (some .int) rm_X10_fits dC dI ad cy [.ref (ad 0), .int x1] (fun σ => fX10_fits σ x1) := con_i (own := RX10) (by decide) rfl (Nat.le_of_ble_eq_true rfl) (fun _ _ _ _ _ _ _ _ σ _ _ C hf => fX10_fits_ok C σ x1 hf)
theorem cal_X10_fits : CalV yX10_fits RX10 cX10_fits 2 (some .int) 1 := ⟨hI_X10_fits, hS_X10_fits, hIni_X10, hC_X10_fits, by decide +kernel⟩
abbrev rm_X10_which : Room := { frames := 3, cells := 0, slots := 0, locals := 68 }
def fX10_which (σ : S0) (x1 : Int32) : Option (Int32 × S0) := if x1 < 0 then (some ((-1), σ)) else (if x1 ≤ 3 then (if ¬ (σ 32 7) = 0 then (obp (fX3_compareAll σ) (fun r4 σ5 => if ¬ x1 = 0 then (if ¬ (σ5 70 2) = 0 then (if ¬ x1 = 1 then (if ¬ x1 = 2 then (some (σ5 70 5, σ5)) else (some (σ5 70 4, σ5))) else (some (σ5 70 3, σ5))) else (some ((-4), σ5))) else (some (σ5 70 2, σ5)))) else (some ((-2), σ))) else (some ((-1), σ)))
set_option maxHeartbeats 1000000 in
set_option maxRecDepth 100000 in
theorem fX10_which_ok {p : Program} {l : Launch} {e : Env} {s : State} {m : MethodId} {args : Array Value} {below : List Frame} {meth : Method} {c : Code} {dC : Nat → ClassId} {dI : Nat → Nat → Nat} {ad : Nat → Nat} {cy : Nat → ClassId} {sz : Nat} (C : Cx p s m args meth c RX10 cX10_which 2 (some .int) dC dI ad cy sz) {rr : Int32} {ρ : S0} (σ : S0) (x1 : Int32)  (hf : fX10_which σ x1 = some (rr, ρ)) : Gw p l e rm_X10_which s m args below meth c (MQ below (QcI dC dI ad cy sz rr ρ) args s 0 0 (AW ad sz)) dC dI ad cy 2 sz 0 0 0 [(0, .ref (ad 0)), (1, .int x1)] [] σ := by
  unfold fX10_which at hf
  refine g_iload_n C dX10_which_0 rfl 1 rfl ?_
  rcases oi_e hf with ⟨c1, hf⟩ | ⟨c1, hf⟩
  · refine g_if_lt_t (tgt := 9) C dX10_which_1 (by decide) c1 ?_
    refine g_iconst (v := (-1)) C dX10_which_9 (by decide) ?_
    obtain ⟨rfl, rfl⟩ := os_e hf
    exact g_iret C rfl dX10_which_10
  · refine g_if_lt_f (tgt := 9) C dX10_which_1 (by decide) c1 ?_
    refine g_iload_n C dX10_which_4 rfl 1 rfl ?_
    refine g_iconst (v := 3) C dX10_which_5 (by decide) ?_
    rcases oi_e hf with ⟨c2, hf⟩ | ⟨c2, hf⟩
    · refine g_icmp_le_t (tgt := 11) C dX10_which_6 (by decide) c2 ?_
      refine g_aload_n C dX10_which_11 rfl 0 rfl ?_
      refine g_get C (a_0 ad cy _) rfl hin_X10 3 (by decide) hF_X10_36 rfl rfl dX10_which_12 ?_
      refine g_get C (a_32 ad cy _) rfl hin_X1 7 (by decide) hF_X10_267 rfl rfl dX10_which_15 ?_
      rcases oi_e hf with ⟨c3, hf⟩ | ⟨c3, hf⟩
      · refine g_if_ne_t (tgt := 24) C dX10_which_18 (by decide) c3 ?_
        refine g_aload_n C dX10_which_24 rfl 0 rfl ?_
        refine g_get C (a_0 ad cy _) rfl hin_X10 8 (by decide) hF_X10_72 rfl rfl dX10_which_25 ?_
        obtain ⟨r4, σ5, h6, hf⟩ := obp_e hf
        refine g_callVv (As := []) (rest := []) C (a_70 ad cy _) rfl (c_X3_compareAll l dC dI ad cy ) h6 hM_X10_276 cal_X3_compareAll ⟨Nat.zero_le _, Nat.zero_le _⟩ ⟨rfl, rfl⟩ ⟨Nat.le_of_ble_eq_true rfl, Nat.le_of_ble_eq_true rfl⟩ rfl rfl (Nat.le_of_ble_eq_true rfl) dX10_which_28 ?_
        refine g_iload_n C dX10_which_31 rfl 1 rfl ?_
        rcases oi_e hf with ⟨c7, hf⟩ | ⟨c7, hf⟩
        · refine g_if_ne_t (tgt := 43) C dX10_which_32 (by decide) c7 ?_
          refine g_aload_n C dX10_which_43 rfl 0 rfl ?_
          refine g_get C (a_0 ad cy _) rfl hin_X10 8 (by decide) hF_X10_72 rfl rfl dX10_which_44 ?_
          refine g_get C (a_70 ad cy _) rfl hin_X3 2 (by decide) hF_X10_279 rfl rfl dX10_which_47 ?_
          rcases oi_e hf with ⟨c8, hf⟩ | ⟨c8, hf⟩
          · refine g_if_ne_t (tgt := 56) C dX10_which_50 (by decide) c8 ?_
            refine g_iload_n C dX10_which_56 rfl 1 rfl ?_
            refine g_iconst (v := 1) C dX10_which_57 (by decide) ?_
            rcases oi_e hf with ⟨c9, hf⟩ | ⟨c9, hf⟩
            · refine g_icmp_ne_t (tgt := 69) C dX10_which_58 (by decide) c9 ?_
              refine g_iload_n C dX10_which_69 rfl 1 rfl ?_
              refine g_iconst (v := 2) C dX10_which_70 (by decide) ?_
              rcases oi_e hf with ⟨c10, hf⟩ | ⟨c10, hf⟩
              · refine g_icmp_ne_t (tgt := 84) C dX10_which_71 (by decide) c10 ?_
                refine g_aload_n C dX10_which_84 rfl 0 rfl ?_
                refine g_get C (a_0 ad cy _) rfl hin_X10 8 (by decide) hF_X10_72 rfl rfl dX10_which_85 ?_
                refine g_get C (a_70 ad cy _) rfl hin_X3 5 (by decide) hF_X10_288 rfl rfl dX10_which_88 ?_
                obtain ⟨rfl, rfl⟩ := os_e hf
                exact g_iret C rfl dX10_which_91
              · refine g_icmp_ne_f (tgt := 84) C dX10_which_71 (by decide) (Decidable.of_not_not c10) ?_
                refine g_aload_n C dX10_which_74 rfl 0 rfl ?_
                refine g_get C (a_0 ad cy _) rfl hin_X10 8 (by decide) hF_X10_72 rfl rfl dX10_which_75 ?_
                refine g_get C (a_70 ad cy _) rfl hin_X3 4 (by decide) hF_X10_285 rfl rfl dX10_which_78 ?_
                refine g_goto (tgt := 91) C dX10_which_81 (by decide) ?_
                obtain ⟨rfl, rfl⟩ := os_e hf
                exact g_iret C rfl dX10_which_91
            · refine g_icmp_ne_f (tgt := 69) C dX10_which_58 (by decide) (Decidable.of_not_not c9) ?_
              refine g_aload_n C dX10_which_61 rfl 0 rfl ?_
              refine g_get C (a_0 ad cy _) rfl hin_X10 8 (by decide) hF_X10_72 rfl rfl dX10_which_62 ?_
              refine g_get C (a_70 ad cy _) rfl hin_X3 3 (by decide) hF_X10_282 rfl rfl dX10_which_65 ?_
              obtain ⟨rfl, rfl⟩ := os_e hf
              exact g_iret C rfl dX10_which_68
          · refine g_if_ne_f (tgt := 56) C dX10_which_50 (by decide) (Decidable.of_not_not c8) ?_
            refine g_bipush (v := (-4)) C dX10_which_53 (by decide) ?_
            obtain ⟨rfl, rfl⟩ := os_e hf
            exact g_iret C rfl dX10_which_55
        · refine g_if_ne_f (tgt := 43) C dX10_which_32 (by decide) (Decidable.of_not_not c7) ?_
          refine g_aload_n C dX10_which_35 rfl 0 rfl ?_
          refine g_get C (a_0 ad cy _) rfl hin_X10 8 (by decide) hF_X10_72 rfl rfl dX10_which_36 ?_
          refine g_get C (a_70 ad cy _) rfl hin_X3 2 (by decide) hF_X10_279 rfl rfl dX10_which_39 ?_
          obtain ⟨rfl, rfl⟩ := os_e hf
          exact g_iret C rfl dX10_which_42
      · refine g_if_ne_f (tgt := 24) C dX10_which_18 (by decide) (Decidable.of_not_not c3) ?_
        refine g_bipush (v := (-2)) C dX10_which_21 (by decide) ?_
        obtain ⟨rfl, rfl⟩ := os_e hf
        exact g_iret C rfl dX10_which_23
    · refine g_icmp_le_f (tgt := 11) C dX10_which_6 (by decide) c2 ?_
      refine g_iconst (v := (-1)) C dX10_which_9 (by decide) ?_
      obtain ⟨rfl, rfl⟩ := os_e hf
      exact g_iret C rfl dX10_which_10
theorem c_X10_which (l : Launch) (dC : Nat → ClassId) (dI : Nat → Nat → Nat) (ad : Nat → Nat) (cy : Nat → ClassId) (x1 : Int32) : ConI l yX10_which cX10_which 2 (some .int) rm_X10_which dC dI ad cy [.ref (ad 0), .int x1] (fun σ => fX10_which σ x1) := con_i (own := RX10) (by decide) rfl (Nat.le_of_ble_eq_true rfl) (fun _ _ _ _ _ _ _ _ σ _ _ C hf => fX10_which_ok C σ x1 hf)
theorem cal_X10_which : CalV yX10_which RX10 cX10_which 2 (some .int) 1 := ⟨hI_X10_which, hS_X10_which, hIni_X10, hC_X10_which, by decide +kernel⟩
abbrev rm_X10_isImage : Room := { frames := 0, cells := 0, slots := 0, locals := 0 }
def fX10_isImage (σ : S0) (x0 : Int32) : Option (Int32 × S0) := if x0 < 0 then (some (0, σ)) else (if (2 : Int32) ≤ x0 then (some (0, σ)) else (some (1, σ)))
set_option maxHeartbeats 1000000 in
set_option maxRecDepth 100000 in
theorem fX10_isImage_ok {p : Program} {l : Launch} {e : Env} {s : State} {m : MethodId} {args : Array Value} {below : List Frame} {meth : Method} {c : Code} {dC : Nat → ClassId} {dI : Nat → Nat → Nat} {ad : Nat → Nat} {cy : Nat → ClassId} {sz : Nat} (C : Cx p s m args meth c RX10 cX10_isImage 1 (some .boolean) dC dI ad cy sz) {rr : Int32} {ρ : S0} (σ : S0) (x0 : Int32)  (hf : fX10_isImage σ x0 = some (rr, ρ)) : Gw p l e rm_X10_isImage s m args below meth c (MQ below (QcI dC dI ad cy sz rr ρ) args s 0 0 (AW ad sz)) dC dI ad cy 1 sz 0 0 0 [(0, .int x0)] [] σ := by
  unfold fX10_isImage at hf
  refine g_iload_n C dX10_isImage_0 rfl 0 rfl ?_
  rcases oi_e hf with ⟨c1, hf⟩ | ⟨c1, hf⟩
  · refine g_if_lt_t (tgt := 13) C dX10_isImage_1 (by decide) c1 ?_
    refine g_iconst (v := 0) C dX10_isImage_13 (by decide) ?_
    obtain ⟨rfl, rfl⟩ := os_e hf
    exact g_zret C rfl (by decide) dX10_isImage_14
  · refine g_if_lt_f (tgt := 13) C dX10_isImage_1 (by decide) c1 ?_
    refine g_iload_n C dX10_isImage_4 rfl 0 rfl ?_
    refine g_iconst (v := 2) C dX10_isImage_5 (by decide) ?_
    rcases oi_e hf with ⟨c2, hf⟩ | ⟨c2, hf⟩
    · refine g_icmp_ge_t (tgt := 13) C dX10_isImage_6 (by decide) c2 ?_
      refine g_iconst (v := 0) C dX10_isImage_13 (by decide) ?_
      obtain ⟨rfl, rfl⟩ := os_e hf
      exact g_zret C rfl (by decide) dX10_isImage_14
    · refine g_icmp_ge_f (tgt := 13) C dX10_isImage_6 (by decide) c2 ?_
      refine g_iconst (v := 1) C dX10_isImage_9 (by decide) ?_
      refine g_goto (tgt := 14) C dX10_isImage_10 (by decide) ?_
      obtain ⟨rfl, rfl⟩ := os_e hf
      exact g_zret C rfl (by decide) dX10_isImage_14
theorem c_X10_isImage (l : Launch) (dC : Nat → ClassId) (dI : Nat → Nat → Nat) (ad : Nat → Nat) (cy : Nat → ClassId) (x0 : Int32) : ConI l yX10_isImage cX10_isImage 1 (some .boolean) rm_X10_isImage dC dI ad cy [.int x0] (fun σ => fX10_isImage σ x0) := con_i (own := RX10) (by decide) rfl (Nat.le_of_ble_eq_true rfl) (fun _ _ _ _ _ _ _ _ σ _ _ C hf => fX10_isImage_ok C σ x0 hf)
theorem cal_X10_isImage : CalS yX10_isImage cX10_isImage 1 (some .boolean) 1 := ⟨hSt_X10_isImage, hIni_X10, hC_X10_isImage, by decide +kernel⟩
abbrev rm_X10_keep : Room := { frames := 2, cells := 0, slots := 0, locals := 39 }
def fX10_keep_b23  (σ : S0) (x1 : Int32) (t0 : Int32) : Option (Int32 × S0) := og (¬ (x1 < 0 ∨ 2 ≤ x1.toNatClampNeg)) (ol (74 + 8 * x1.toNatClampNeg) (fun q2 => obp (fX1_copyFrom σ q2 32) (fun r3 σ4 => og (¬ (x1 < 0 ∨ 2 ≤ x1.toNatClampNeg)) (ol (su σ4 72 x1.toNatClampNeg (vp_nar .boolean 1)) (fun σ7 => some (t0, σ7))))))
set_option maxHeartbeats 1000000 in
set_option maxRecDepth 100000 in
theorem fX10_keep_b23_ok {p : Program} {l : Launch} {e : Env} {s : State} {m : MethodId} {args : Array Value} {below : List Frame} {meth : Method} {c : Code} {dC : Nat → ClassId} {dI : Nat → Nat → Nat} {ad : Nat → Nat} {cy : Nat → ClassId} {sz : Nat} (C : Cx p s m args meth c RX10 cX10_keep 3 (some .int) dC dI ad cy sz) {rr : Int32} {ρ : S0}  (σ : S0) (x1 : Int32) (t0 : Int32)  (hf : fX10_keep_b23 σ x1 t0 = some (rr, ρ)) : Gw p l e rm_X10_keep s m args below meth c (MQ below (QcI dC dI ad cy sz rr ρ) args s 0 0 (AW ad sz)) dC dI ad cy 3 sz 0 0 23 [(0, .ref (ad 0)), (1, .int x1)] [.int t0] σ := by
  unfold fX10_keep_b23 at hf
  refine g_istore_n (lv2 := [(0, .ref (ad 0)), (1, .int x1), (2, .int t0)]) C dX10_keep_23 rfl (by decide) [1, 2, 0] rfl ?_
  refine g_aload_n C dX10_keep_24 rfl 0 rfl ?_
  refine g_get C (a_0 ad cy _) rfl hin_X10 9 (by decide) hF_X10_78 rfl rfl dX10_keep_25 ?_
  refine g_iload_n C dX10_keep_28 rfl 1 rfl ?_
  obtain ⟨h1, hf⟩ := og_e hf
  obtain ⟨q2, eq2, hf⟩ := ol_e hf
  refine g_aald C (a_71 ad cy _) rfl rfl h1 dX10_keep_29 ?_
  refine g_nmr eq2 ?_
  have hq2 := (o_71 h1 eq2)
  refine g_aload_n C dX10_keep_30 rfl 0 rfl ?_
  refine g_get C (a_0 ad cy _) rfl hin_X10 3 (by decide) hF_X10_36 rfl rfl dX10_keep_31 ?_
  obtain ⟨r3, σ4, h5, hf⟩ := obp_e hf
  refine g_callVv (As := [.ref (ad 32)]) (rest := []) C (s_isChimes hq2 ad cy _) rfl (c_X1_copyFrom l dC dI ad cy q2 hq2 32 k_isChimes_32) h5 hM_X10_294 cal_X1_copyFrom ⟨Nat.zero_le _, Nat.zero_le _⟩ ⟨rfl, rfl⟩ ⟨Nat.le_of_ble_eq_true rfl, Nat.le_of_ble_eq_true rfl⟩ rfl rfl (Nat.le_of_ble_eq_true rfl) dX10_keep_34 ?_
  refine g_aload_n C dX10_keep_37 rfl 0 rfl ?_
  refine g_get C (a_0 ad cy _) rfl hin_X10 10 (by decide) hF_X10_82 rfl rfl dX10_keep_38 ?_
  refine g_iload_n C dX10_keep_41 rfl 1 rfl ?_
  refine g_iconst (v := 1) C dX10_keep_42 (by decide) ?_
  obtain ⟨h6, hf⟩ := og_e hf
  obtain ⟨σ7, eσ7, hf⟩ := ol_e hf
  refine g_zast C (a_72 ad cy _) h6 (w_72 ad cy _) eσ7 dX10_keep_43 ?_
  refine g_iload_n C dX10_keep_44 rfl 2 rfl ?_
  obtain ⟨rfl, rfl⟩ := os_e hf
  exact g_iret C rfl dX10_keep_45
def fX10_keep (σ : S0) (x1 : Int32) : Option (Int32 × S0) := obp (fX10_isImage σ x1) (fun r1 σ2 => if ¬ r1 = 0 then (og (¬ (x1 < 0 ∨ 2 ≤ x1.toNatClampNeg)) (ol (σ2 72 x1.toNatClampNeg) (fun v6 => if v6 = 0 then (fX10_keep_b23 σ2 x1 0) else (fX10_keep_b23 σ2 x1 1)))) else (some ((-1), σ2)))
set_option maxHeartbeats 1000000 in
set_option maxRecDepth 100000 in
theorem fX10_keep_ok {p : Program} {l : Launch} {e : Env} {s : State} {m : MethodId} {args : Array Value} {below : List Frame} {meth : Method} {c : Code} {dC : Nat → ClassId} {dI : Nat → Nat → Nat} {ad : Nat → Nat} {cy : Nat → ClassId} {sz : Nat} (C : Cx p s m args meth c RX10 cX10_keep 3 (some .int) dC dI ad cy sz) {rr : Int32} {ρ : S0} (σ : S0) (x1 : Int32)  (hf : fX10_keep σ x1 = some (rr, ρ)) : Gw p l e rm_X10_keep s m args below meth c (MQ below (QcI dC dI ad cy sz rr ρ) args s 0 0 (AW ad sz)) dC dI ad cy 3 sz 0 0 0 [(0, .ref (ad 0)), (1, .int x1)] [] σ := by
  unfold fX10_keep at hf
  refine g_iload_n C dX10_keep_0 rfl 1 rfl ?_
  obtain ⟨r1, σ2, h3, hf⟩ := obp_e hf
  refine g_callSi (As := [.int x1]) (rest := []) C (c_X10_isImage l dC dI ad cy x1) h3 hM_X10_291 cal_X10_isImage ⟨Nat.zero_le _, Nat.zero_le _⟩ ⟨rfl, rfl⟩ ⟨Nat.le_of_ble_eq_true rfl, Nat.le_of_ble_eq_true rfl⟩ rfl rfl (Nat.le_of_ble_eq_true rfl) dX10_keep_1 ?_
  rcases oi_e hf with ⟨c4, hf⟩ | ⟨c4, hf⟩
  · refine g_if_ne_t (tgt := 9) C dX10_keep_4 (by decide) c4 ?_
    refine g_aload_n C dX10_keep_9 rfl 0 rfl ?_
    refine g_get C (a_0 ad cy _) rfl hin_X10 10 (by decide) hF_X10_82 rfl rfl dX10_keep_10 ?_
    refine g_iload_n C dX10_keep_13 rfl 1 rfl ?_
    obtain ⟨h5, hf⟩ := og_e hf
    refine g_zald C (a_72 ad cy _) h5 dX10_keep_14 ?_
    obtain ⟨v6, ev6, hf⟩ := ol_e hf
    refine g_nm ev6 ?_
    rcases oi_e hf with ⟨c7, hf⟩ | ⟨c7, hf⟩
    · refine g_if_eq_t (tgt := 22) C dX10_keep_15 (by decide) c7 ?_
      refine g_iconst (v := 0) C dX10_keep_22 (by decide) ?_
      exact g_sub [0, 1] rfl (fX10_keep_b23_ok C σ2 x1 0 hf)
    · refine g_if_eq_f (tgt := 22) C dX10_keep_15 (by decide) c7 ?_
      refine g_iconst (v := 1) C dX10_keep_18 (by decide) ?_
      refine g_goto (tgt := 23) C dX10_keep_19 (by decide) ?_
      exact g_sub [0, 1] rfl (fX10_keep_b23_ok C σ2 x1 1 hf)
  · refine g_if_ne_f (tgt := 9) C dX10_keep_4 (by decide) (Decidable.of_not_not c4) ?_
    refine g_iconst (v := (-1)) C dX10_keep_7 (by decide) ?_
    obtain ⟨rfl, rfl⟩ := os_e hf
    exact g_iret C rfl dX10_keep_8
theorem c_X10_keep (l : Launch) (dC : Nat → ClassId) (dI : Nat → Nat → Nat) (ad : Nat → Nat) (cy : Nat → ClassId) (x1 : Int32) : ConI l yX10_keep cX10_keep 3 (some .int) rm_X10_keep dC dI ad cy [.ref (ad 0), .int x1] (fun σ => fX10_keep σ x1) := con_i (own := RX10) (by decide) rfl (Nat.le_of_ble_eq_true rfl) (fun _ _ _ _ _ _ _ _ σ _ _ C hf => fX10_keep_ok C σ x1 hf)
theorem cal_X10_keep : CalV yX10_keep RX10 cX10_keep 3 (some .int) 1 := ⟨hI_X10_keep, hS_X10_keep, hIni_X10, hC_X10_keep, by decide +kernel⟩
abbrev rm_X10_back : Room := { frames := 2, cells := 0, slots := 0, locals := 49 }
def fX10_back (σ : S0) (x1 : Int32) : Option (Int32 × S0) := obp (fX10_isImage σ x1) (fun r1 σ2 => if ¬ r1 = 0 then (og (¬ (x1 < 0 ∨ 2 ≤ x1.toNatClampNeg)) (ol (σ2 72 x1.toNatClampNeg) (fun v6 => if ¬ v6 = 0 then (og (¬ (x1 < 0 ∨ 2 ≤ x1.toNatClampNeg)) (ol (74 + 8 * x1.toNatClampNeg) (fun q9 => obp (fX1_copyFrom σ2 32 q9) (fun r10 σ11 => obp (fX6_tuneTaken σ11) (fun r13 σ14 => some (r13, σ14)))))) else (some ((-2), σ2))))) else (some ((-1), σ2)))
set_option maxHeartbeats 1000000 in
set_option maxRecDepth 100000 in
theorem fX10_back_ok {p : Program} {l : Launch} {e : Env} {s : State} {m : MethodId} {args : Array Value} {below : List Frame} {meth : Method} {c : Code} {dC : Nat → ClassId} {dI : Nat → Nat → Nat} {ad : Nat → Nat} {cy : Nat → ClassId} {sz : Nat} (C : Cx p s m args meth c RX10 cX10_back 2 (some .int) dC dI ad cy sz) {rr : Int32} {ρ : S0} (σ : S0) (x1 : Int32)  (hf : fX10_back σ x1 = some (rr, ρ)) : Gw p l e rm_X10_back s m args below meth c (MQ below (QcI dC dI ad cy sz rr ρ) args s 0 0 (AW ad sz)) dC dI ad cy 2 sz 0 0 0 [(0, .ref (ad 0)), (1, .int x1)] [] σ := by
  unfold fX10_back at hf
  refine g_iload_n C dX10_back_0 rfl 1 rfl ?_
  obtain ⟨r1, σ2, h3, hf⟩ := obp_e hf
  refine g_callSi (As := [.int x1]) (rest := []) C (c_X10_isImage l dC dI ad cy x1) h3 hM_X10_291 cal_X10_isImage ⟨Nat.zero_le _, Nat.zero_le _⟩ ⟨rfl, rfl⟩ ⟨Nat.le_of_ble_eq_true rfl, Nat.le_of_ble_eq_true rfl⟩ rfl rfl (Nat.le_of_ble_eq_true rfl) dX10_back_1 ?_
  rcases oi_e hf with ⟨c4, hf⟩ | ⟨c4, hf⟩
  · refine g_if_ne_t (tgt := 9) C dX10_back_4 (by decide) c4 ?_
    refine g_aload_n C dX10_back_9 rfl 0 rfl ?_
    refine g_get C (a_0 ad cy _) rfl hin_X10 10 (by decide) hF_X10_82 rfl rfl dX10_back_10 ?_
    refine g_iload_n C dX10_back_13 rfl 1 rfl ?_
    obtain ⟨h5, hf⟩ := og_e hf
    refine g_zald C (a_72 ad cy _) h5 dX10_back_14 ?_
    obtain ⟨v6, ev6, hf⟩ := ol_e hf
    refine g_nm ev6 ?_
    rcases oi_e hf with ⟨c7, hf⟩ | ⟨c7, hf⟩
    · refine g_if_ne_t (tgt := 21) C dX10_back_15 (by decide) c7 ?_
      refine g_aload_n C dX10_back_21 rfl 0 rfl ?_
      refine g_get C (a_0 ad cy _) rfl hin_X10 3 (by decide) hF_X10_36 rfl rfl dX10_back_22 ?_
      refine g_aload_n C dX10_back_25 rfl 0 rfl ?_
      refine g_get C (a_0 ad cy _) rfl hin_X10 9 (by decide) hF_X10_78 rfl rfl dX10_back_26 ?_
      refine g_iload_n C dX10_back_29 rfl 1 rfl ?_
      obtain ⟨h8, hf⟩ := og_e hf
      obtain ⟨q9, eq9, hf⟩ := ol_e hf
      refine g_aald C (a_71 ad cy _) rfl rfl h8 dX10_back_30 ?_
      refine g_nmr eq9 ?_
      have hq9 := (o_71 h8 eq9)
      obtain ⟨r10, σ11, h12, hf⟩ := obp_e hf
      refine g_callVv (As := [.ref (ad q9)]) (rest := []) C (a_32 ad cy _) rfl (c_X1_copyFrom l dC dI ad cy 32 k_isChimes_32 q9 hq9) h12 hM_X10_294 cal_X1_copyFrom ⟨Nat.zero_le _, Nat.zero_le _⟩ ⟨rfl, rfl⟩ ⟨Nat.le_of_ble_eq_true rfl, Nat.le_of_ble_eq_true rfl⟩ rfl rfl (Nat.le_of_ble_eq_true rfl) dX10_back_31 ?_
      refine g_aload_n C dX10_back_34 rfl 0 rfl ?_
      refine g_get C (a_0 ad cy _) rfl hin_X10 4 (by decide) hF_X10_42 rfl rfl dX10_back_35 ?_
      obtain ⟨r13, σ14, h15, hf⟩ := obp_e hf
      refine g_callVi (As := []) (rest := []) C (a_40 ad cy _) rfl (c_X6_tuneTaken l dC dI ad cy ) h15 hM_X10_196 cal_X6_tuneTaken ⟨Nat.zero_le _, Nat.zero_le _⟩ ⟨rfl, rfl⟩ ⟨Nat.le_of_ble_eq_true rfl, Nat.le_of_ble_eq_true rfl⟩ rfl rfl (Nat.le_of_ble_eq_true rfl) dX10_back_38 ?_
      obtain ⟨rfl, rfl⟩ := os_e hf
      exact g_iret C rfl dX10_back_41
    · refine g_if_ne_f (tgt := 21) C dX10_back_15 (by decide) (Decidable.of_not_not c7) ?_
      refine g_bipush (v := (-2)) C dX10_back_18 (by decide) ?_
      obtain ⟨rfl, rfl⟩ := os_e hf
      exact g_iret C rfl dX10_back_20
  · refine g_if_ne_f (tgt := 9) C dX10_back_4 (by decide) (Decidable.of_not_not c4) ?_
    refine g_iconst (v := (-1)) C dX10_back_7 (by decide) ?_
    obtain ⟨rfl, rfl⟩ := os_e hf
    exact g_iret C rfl dX10_back_8
theorem c_X10_back (l : Launch) (dC : Nat → ClassId) (dI : Nat → Nat → Nat) (ad : Nat → Nat) (cy : Nat → ClassId) (x1 : Int32) : ConI l yX10_back cX10_back 2 (some .int) rm_X10_back dC dI ad cy [.ref (ad 0), .int x1] (fun σ => fX10_back σ x1) := con_i (own := RX10) (by decide) rfl (Nat.le_of_ble_eq_true rfl) (fun _ _ _ _ _ _ _ _ σ _ _ C hf => fX10_back_ok C σ x1 hf)
theorem cal_X10_back : CalV yX10_back RX10 cX10_back 2 (some .int) 1 := ⟨hI_X10_back, hS_X10_back, hIni_X10, hC_X10_back, by decide +kernel⟩
abbrev rm_X10_isSheet : Room := { frames := 0, cells := 0, slots := 0, locals := 0 }
def fX10_isSheet (σ : S0) (x0 : Int32) : Option (Int32 × S0) := if x0 < 0 then (some (0, σ)) else (if (4 : Int32) ≤ x0 then (some (0, σ)) else (some (1, σ)))
set_option maxHeartbeats 1000000 in
set_option maxRecDepth 100000 in
theorem fX10_isSheet_ok {p : Program} {l : Launch} {e : Env} {s : State} {m : MethodId} {args : Array Value} {below : List Frame} {meth : Method} {c : Code} {dC : Nat → ClassId} {dI : Nat → Nat → Nat} {ad : Nat → Nat} {cy : Nat → ClassId} {sz : Nat} (C : Cx p s m args meth c RX10 cX10_isSheet 1 (some .boolean) dC dI ad cy sz) {rr : Int32} {ρ : S0} (σ : S0) (x0 : Int32)  (hf : fX10_isSheet σ x0 = some (rr, ρ)) : Gw p l e rm_X10_isSheet s m args below meth c (MQ below (QcI dC dI ad cy sz rr ρ) args s 0 0 (AW ad sz)) dC dI ad cy 1 sz 0 0 0 [(0, .int x0)] [] σ := by
  unfold fX10_isSheet at hf
  refine g_iload_n C dX10_isSheet_0 rfl 0 rfl ?_
  rcases oi_e hf with ⟨c1, hf⟩ | ⟨c1, hf⟩
  · refine g_if_lt_t (tgt := 13) C dX10_isSheet_1 (by decide) c1 ?_
    refine g_iconst (v := 0) C dX10_isSheet_13 (by decide) ?_
    obtain ⟨rfl, rfl⟩ := os_e hf
    exact g_zret C rfl (by decide) dX10_isSheet_14
  · refine g_if_lt_f (tgt := 13) C dX10_isSheet_1 (by decide) c1 ?_
    refine g_iload_n C dX10_isSheet_4 rfl 0 rfl ?_
    refine g_iconst (v := 4) C dX10_isSheet_5 (by decide) ?_
    rcases oi_e hf with ⟨c2, hf⟩ | ⟨c2, hf⟩
    · refine g_icmp_ge_t (tgt := 13) C dX10_isSheet_6 (by decide) c2 ?_
      refine g_iconst (v := 0) C dX10_isSheet_13 (by decide) ?_
      obtain ⟨rfl, rfl⟩ := os_e hf
      exact g_zret C rfl (by decide) dX10_isSheet_14
    · refine g_icmp_ge_f (tgt := 13) C dX10_isSheet_6 (by decide) c2 ?_
      refine g_iconst (v := 1) C dX10_isSheet_9 (by decide) ?_
      refine g_goto (tgt := 14) C dX10_isSheet_10 (by decide) ?_
      obtain ⟨rfl, rfl⟩ := os_e hf
      exact g_zret C rfl (by decide) dX10_isSheet_14
theorem c_X10_isSheet (l : Launch) (dC : Nat → ClassId) (dI : Nat → Nat → Nat) (ad : Nat → Nat) (cy : Nat → ClassId) (x0 : Int32) : ConI l yX10_isSheet cX10_isSheet 1 (some .boolean) rm_X10_isSheet dC dI ad cy [.int x0] (fun σ => fX10_isSheet σ x0) := con_i (own := RX10) (by decide) rfl (Nat.le_of_ble_eq_true rfl) (fun _ _ _ _ _ _ _ _ σ _ _ C hf => fX10_isSheet_ok C σ x0 hf)
theorem cal_X10_isSheet : CalS yX10_isSheet cX10_isSheet 1 (some .boolean) 1 := ⟨hSt_X10_isSheet, hIni_X10, hC_X10_isSheet, by decide +kernel⟩
abbrev rm_X10_isLane : Room := { frames := 0, cells := 0, slots := 0, locals := 0 }
def fX10_isLane (σ : S0) (x0 : Int32) : Option (Int32 × S0) := if x0 < 0 then (some (0, σ)) else (if (3 : Int32) ≤ x0 then (some (0, σ)) else (some (1, σ)))
set_option maxHeartbeats 1000000 in
set_option maxRecDepth 100000 in
theorem fX10_isLane_ok {p : Program} {l : Launch} {e : Env} {s : State} {m : MethodId} {args : Array Value} {below : List Frame} {meth : Method} {c : Code} {dC : Nat → ClassId} {dI : Nat → Nat → Nat} {ad : Nat → Nat} {cy : Nat → ClassId} {sz : Nat} (C : Cx p s m args meth c RX10 cX10_isLane 1 (some .boolean) dC dI ad cy sz) {rr : Int32} {ρ : S0} (σ : S0) (x0 : Int32)  (hf : fX10_isLane σ x0 = some (rr, ρ)) : Gw p l e rm_X10_isLane s m args below meth c (MQ below (QcI dC dI ad cy sz rr ρ) args s 0 0 (AW ad sz)) dC dI ad cy 1 sz 0 0 0 [(0, .int x0)] [] σ := by
  unfold fX10_isLane at hf
  refine g_iload_n C dX10_isLane_0 rfl 0 rfl ?_
  rcases oi_e hf with ⟨c1, hf⟩ | ⟨c1, hf⟩
  · refine g_if_lt_t (tgt := 13) C dX10_isLane_1 (by decide) c1 ?_
    refine g_iconst (v := 0) C dX10_isLane_13 (by decide) ?_
    obtain ⟨rfl, rfl⟩ := os_e hf
    exact g_zret C rfl (by decide) dX10_isLane_14
  · refine g_if_lt_f (tgt := 13) C dX10_isLane_1 (by decide) c1 ?_
    refine g_iload_n C dX10_isLane_4 rfl 0 rfl ?_
    refine g_iconst (v := 3) C dX10_isLane_5 (by decide) ?_
    rcases oi_e hf with ⟨c2, hf⟩ | ⟨c2, hf⟩
    · refine g_icmp_ge_t (tgt := 13) C dX10_isLane_6 (by decide) c2 ?_
      refine g_iconst (v := 0) C dX10_isLane_13 (by decide) ?_
      obtain ⟨rfl, rfl⟩ := os_e hf
      exact g_zret C rfl (by decide) dX10_isLane_14
    · refine g_icmp_ge_f (tgt := 13) C dX10_isLane_6 (by decide) c2 ?_
      refine g_iconst (v := 1) C dX10_isLane_9 (by decide) ?_
      refine g_goto (tgt := 14) C dX10_isLane_10 (by decide) ?_
      obtain ⟨rfl, rfl⟩ := os_e hf
      exact g_zret C rfl (by decide) dX10_isLane_14
theorem c_X10_isLane (l : Launch) (dC : Nat → ClassId) (dI : Nat → Nat → Nat) (ad : Nat → Nat) (cy : Nat → ClassId) (x0 : Int32) : ConI l yX10_isLane cX10_isLane 1 (some .boolean) rm_X10_isLane dC dI ad cy [.int x0] (fun σ => fX10_isLane σ x0) := con_i (own := RX10) (by decide) rfl (Nat.le_of_ble_eq_true rfl) (fun _ _ _ _ _ _ _ _ σ _ _ C hf => fX10_isLane_ok C σ x0 hf)
theorem cal_X10_isLane : CalS yX10_isLane cX10_isLane 1 (some .boolean) 1 := ⟨hSt_X10_isLane, hIni_X10, hC_X10_isLane, by decide +kernel⟩
abbrev rm_X10_sheet : Room := { frames := 2, cells := 0, slots := 0, locals := 45 }
def fX10_sheet (σ : S0) (x1 : Int32) (x2 : Int32) (x3 : Int32) : Option (Int32 × S0) := obp (fX10_isSheet σ x1) (fun r1 σ2 => if r1 = 0 then (some ((-1), σ2)) else (obp (fX10_isLane σ2 x2) (fun r5 σ6 => if r5 = 0 then (some ((-1), σ6)) else (if x3 ≤ 40 then (if 0 ≤ x3 then (og (¬ (x1 < 0 ∨ 4 ≤ x1.toNatClampNeg)) (ol (90 + 2 * x1.toNatClampNeg) (fun q12 => obp (fX7_renew σ6 q12 x2 x3) (fun r13 σ14 => some (1, σ14))))) else (some ((-14), σ6))) else (some ((-1), σ6))))))
set_option maxHeartbeats 1000000 in
set_option maxRecDepth 100000 in
theorem fX10_sheet_ok {p : Program} {l : Launch} {e : Env} {s : State} {m : MethodId} {args : Array Value} {below : List Frame} {meth : Method} {c : Code} {dC : Nat → ClassId} {dI : Nat → Nat → Nat} {ad : Nat → Nat} {cy : Nat → ClassId} {sz : Nat} (C : Cx p s m args meth c RX10 cX10_sheet 4 (some .int) dC dI ad cy sz) {rr : Int32} {ρ : S0} (σ : S0) (x1 : Int32) (x2 : Int32) (x3 : Int32)  (hf : fX10_sheet σ x1 x2 x3 = some (rr, ρ)) : Gw p l e rm_X10_sheet s m args below meth c (MQ below (QcI dC dI ad cy sz rr ρ) args s 0 0 (AW ad sz)) dC dI ad cy 4 sz 0 0 0 [(0, .ref (ad 0)), (1, .int x1), (2, .int x2), (3, .int x3)] [] σ := by
  unfold fX10_sheet at hf
  refine g_iload_n C dX10_sheet_0 rfl 1 rfl ?_
  obtain ⟨r1, σ2, h3, hf⟩ := obp_e hf
  refine g_callSi (As := [.int x1]) (rest := []) C (c_X10_isSheet l dC dI ad cy x1) h3 hM_X10_297 cal_X10_isSheet ⟨Nat.zero_le _, Nat.zero_le _⟩ ⟨rfl, rfl⟩ ⟨Nat.le_of_ble_eq_true rfl, Nat.le_of_ble_eq_true rfl⟩ rfl rfl (Nat.le_of_ble_eq_true rfl) dX10_sheet_1 ?_
  rcases oi_e hf with ⟨c4, hf⟩ | ⟨c4, hf⟩
  · refine g_if_eq_t (tgt := 20) C dX10_sheet_4 (by decide) c4 ?_
    refine g_iconst (v := (-1)) C dX10_sheet_20 (by decide) ?_
    obtain ⟨rfl, rfl⟩ := os_e hf
    exact g_iret C rfl dX10_sheet_21
  · refine g_if_eq_f (tgt := 20) C dX10_sheet_4 (by decide) c4 ?_
    refine g_iload_n C dX10_sheet_7 rfl 2 rfl ?_
    obtain ⟨r5, σ6, h7, hf⟩ := obp_e hf
    refine g_callSi (As := [.int x2]) (rest := []) C (c_X10_isLane l dC dI ad cy x2) h7 hM_X10_300 cal_X10_isLane ⟨Nat.zero_le _, Nat.zero_le _⟩ ⟨rfl, rfl⟩ ⟨Nat.le_of_ble_eq_true rfl, Nat.le_of_ble_eq_true rfl⟩ rfl rfl (Nat.le_of_ble_eq_true rfl) dX10_sheet_8 ?_
    rcases oi_e hf with ⟨c8, hf⟩ | ⟨c8, hf⟩
    · refine g_if_eq_t (tgt := 20) C dX10_sheet_11 (by decide) c8 ?_
      refine g_iconst (v := (-1)) C dX10_sheet_20 (by decide) ?_
      obtain ⟨rfl, rfl⟩ := os_e hf
      exact g_iret C rfl dX10_sheet_21
    · refine g_if_eq_f (tgt := 20) C dX10_sheet_11 (by decide) c8 ?_
      refine g_iload_n C dX10_sheet_14 rfl 3 rfl ?_
      refine g_bipush (v := 40) C dX10_sheet_15 (by decide) ?_
      rcases oi_e hf with ⟨c9, hf⟩ | ⟨c9, hf⟩
      · refine g_icmp_le_t (tgt := 22) C dX10_sheet_17 (by decide) c9 ?_
        refine g_iload_n C dX10_sheet_22 rfl 3 rfl ?_
        rcases oi_e hf with ⟨c10, hf⟩ | ⟨c10, hf⟩
        · refine g_if_ge_t (tgt := 29) C dX10_sheet_23 (by decide) c10 ?_
          refine g_aload_n C dX10_sheet_29 rfl 0 rfl ?_
          refine g_get C (a_0 ad cy _) rfl hin_X10 11 (by decide) hF_X10_88 rfl rfl dX10_sheet_30 ?_
          refine g_iload_n C dX10_sheet_33 rfl 1 rfl ?_
          obtain ⟨h11, hf⟩ := og_e hf
          obtain ⟨q12, eq12, hf⟩ := ol_e hf
          refine g_aald C (a_73 ad cy _) rfl rfl h11 dX10_sheet_34 ?_
          refine g_nmr eq12 ?_
          have hq12 := (o_73 h11 eq12)
          refine g_iload_n C dX10_sheet_35 rfl 2 rfl ?_
          refine g_iload_n C dX10_sheet_36 rfl 3 rfl ?_
          obtain ⟨r13, σ14, h15, hf⟩ := obp_e hf
          refine g_callVv (As := [.int x2, .int x3]) (rest := []) C (s_isSheet hq12 ad cy _) rfl (c_X7_renew l dC dI ad cy q12 hq12 x2 x3) h15 hM_X10_303 cal_X7_renew ⟨Nat.zero_le _, Nat.zero_le _⟩ ⟨rfl, rfl⟩ ⟨Nat.le_of_ble_eq_true rfl, Nat.le_of_ble_eq_true rfl⟩ rfl rfl (Nat.le_of_ble_eq_true rfl) dX10_sheet_37 ?_
          refine g_iconst (v := 1) C dX10_sheet_40 (by decide) ?_
          obtain ⟨rfl, rfl⟩ := os_e hf
          exact g_iret C rfl dX10_sheet_41
        · refine g_if_ge_f (tgt := 29) C dX10_sheet_23 (by decide) c10 ?_
          refine g_bipush (v := (-14)) C dX10_sheet_26 (by decide) ?_
          obtain ⟨rfl, rfl⟩ := os_e hf
          exact g_iret C rfl dX10_sheet_28
      · refine g_icmp_le_f (tgt := 22) C dX10_sheet_17 (by decide) c9 ?_
        refine g_iconst (v := (-1)) C dX10_sheet_20 (by decide) ?_
        obtain ⟨rfl, rfl⟩ := os_e hf
        exact g_iret C rfl dX10_sheet_21
theorem c_X10_sheet (l : Launch) (dC : Nat → ClassId) (dI : Nat → Nat → Nat) (ad : Nat → Nat) (cy : Nat → ClassId) (x1 : Int32) (x2 : Int32) (x3 : Int32) : ConI l yX10_sheet cX10_sheet 4 (some .int) rm_X10_sheet dC dI ad cy [.ref (ad 0), .int x1, .int x2, .int x3] (fun σ => fX10_sheet σ x1 x2 x3) := con_i (own := RX10) (by decide) rfl (Nat.le_of_ble_eq_true rfl) (fun _ _ _ _ _ _ _ _ σ _ _ C hf => fX10_sheet_ok C σ x1 x2 x3 hf)
theorem cal_X10_sheet : CalV yX10_sheet RX10 cX10_sheet 4 (some .int) 3 := ⟨hI_X10_sheet, hS_X10_sheet, hIni_X10, hC_X10_sheet, by decide +kernel⟩
abbrev rm_X10_lay : Room := { frames := 2, cells := 0, slots := 0, locals := 42 }
def fX10_lay (σ : S0) (x1 : Int32) (x2 : Int32) (x3 : Int32) : Option (Int32 × S0) := obp (fX10_isSheet σ x1) (fun r1 σ2 => if ¬ r1 = 0 then (og (¬ (x1 < 0 ∨ 4 ≤ x1.toNatClampNeg)) (ol (90 + 2 * x1.toNatClampNeg) (fun q6 => obp (fX7_faultAt σ2 q6 (σ2 q6 0) x2) (fun r7 σ8 => if r7 = 0 then (obp (fX7_put σ8 q6 x2 x3) (fun r11 σ12 => some (1, σ12))) else (some (((-10)) - r7, σ8)))))) else (some ((-1), σ2)))
set_option maxHeartbeats 1000000 in
set_option maxRecDepth 100000 in
theorem fX10_lay_ok {p : Program} {l : Launch} {e : Env} {s : State} {m : MethodId} {args : Array Value} {below : List Frame} {meth : Method} {c : Code} {dC : Nat → ClassId} {dI : Nat → Nat → Nat} {ad : Nat → Nat} {cy : Nat → ClassId} {sz : Nat} (C : Cx p s m args meth c RX10 cX10_lay 6 (some .int) dC dI ad cy sz) {rr : Int32} {ρ : S0} (σ : S0) (x1 : Int32) (x2 : Int32) (x3 : Int32)  (hf : fX10_lay σ x1 x2 x3 = some (rr, ρ)) : Gw p l e rm_X10_lay s m args below meth c (MQ below (QcI dC dI ad cy sz rr ρ) args s 0 0 (AW ad sz)) dC dI ad cy 6 sz 0 0 0 [(0, .ref (ad 0)), (1, .int x1), (2, .int x2), (3, .int x3)] [] σ := by
  unfold fX10_lay at hf
  refine g_iload_n C dX10_lay_0 rfl 1 rfl ?_
  obtain ⟨r1, σ2, h3, hf⟩ := obp_e hf
  refine g_callSi (As := [.int x1]) (rest := []) C (c_X10_isSheet l dC dI ad cy x1) h3 hM_X10_297 cal_X10_isSheet ⟨Nat.zero_le _, Nat.zero_le _⟩ ⟨rfl, rfl⟩ ⟨Nat.le_of_ble_eq_true rfl, Nat.le_of_ble_eq_true rfl⟩ rfl rfl (Nat.le_of_ble_eq_true rfl) dX10_lay_1 ?_
  rcases oi_e hf with ⟨c4, hf⟩ | ⟨c4, hf⟩
  · refine g_if_ne_t (tgt := 9) C dX10_lay_4 (by decide) c4 ?_
    refine g_aload_n C dX10_lay_9 rfl 0 rfl ?_
    refine g_get C (a_0 ad cy _) rfl hin_X10 11 (by decide) hF_X10_88 rfl rfl dX10_lay_10 ?_
    refine g_iload_n C dX10_lay_13 rfl 1 rfl ?_
    obtain ⟨h5, hf⟩ := og_e hf
    obtain ⟨q6, eq6, hf⟩ := ol_e hf
    refine g_aald C (a_73 ad cy _) rfl rfl h5 dX10_lay_14 ?_
    refine g_nmr eq6 ?_
    have hq6 := (o_73 h5 eq6)
    refine g_astore (lv2 := [(0, .ref (ad 0)), (1, .int x1), (2, .int x2), (3, .int x3), (4, .ref (ad q6))]) C dX10_lay_15 (by decide) [1, 2, 3, 4, 0] rfl ?_
    refine g_aload C dX10_lay_17 4 rfl ?_
    refine g_aload C dX10_lay_19 4 rfl ?_
    refine g_get C (s_isSheet hq6 ad cy _) rfl hin_X7 0 (by decide) hF_X10_306 rfl rfl dX10_lay_21 ?_
    refine g_iload_n C dX10_lay_24 rfl 2 rfl ?_
    obtain ⟨r7, σ8, h9, hf⟩ := obp_e hf
    refine g_callVi (As := [.int (σ2 q6 0), .int x2]) (rest := []) C (s_isSheet hq6 ad cy _) rfl (c_X7_faultAt l dC dI ad cy q6 hq6 (σ2 q6 0) x2) h9 hM_X10_309 cal_X7_faultAt ⟨Nat.zero_le _, Nat.zero_le _⟩ ⟨rfl, rfl⟩ ⟨Nat.le_of_ble_eq_true rfl, Nat.le_of_ble_eq_true rfl⟩ rfl rfl (Nat.le_of_ble_eq_true rfl) dX10_lay_25 ?_
    refine g_istore (lv2 := [(0, .ref (ad 0)), (1, .int x1), (2, .int x2), (3, .int x3), (4, .ref (ad q6)), (5, .int r7)]) C dX10_lay_28 (by decide) [1, 2, 3, 4, 5, 0] rfl ?_
    refine g_iload C dX10_lay_30 5 rfl ?_
    rcases oi_e hf with ⟨c10, hf⟩ | ⟨c10, hf⟩
    · refine g_if_eq_t (tgt := 41) C dX10_lay_32 (by decide) c10 ?_
      refine g_aload C dX10_lay_41 4 rfl ?_
      refine g_iload_n C dX10_lay_43 rfl 2 rfl ?_
      refine g_iload_n C dX10_lay_44 rfl 3 rfl ?_
      obtain ⟨r11, σ12, h13, hf⟩ := obp_e hf
      refine g_callVv (As := [.int x2, .int x3]) (rest := []) C (s_isSheet hq6 ad cy _) rfl (c_X7_put l dC dI ad cy q6 hq6 x2 x3) h13 hM_X10_312 cal_X7_put ⟨Nat.zero_le _, Nat.zero_le _⟩ ⟨rfl, rfl⟩ ⟨Nat.le_of_ble_eq_true rfl, Nat.le_of_ble_eq_true rfl⟩ rfl rfl (Nat.le_of_ble_eq_true rfl) dX10_lay_45 ?_
      refine g_iconst (v := 1) C dX10_lay_48 (by decide) ?_
      obtain ⟨rfl, rfl⟩ := os_e hf
      exact g_iret C rfl dX10_lay_49
    · refine g_if_eq_f (tgt := 41) C dX10_lay_32 (by decide) c10 ?_
      refine g_bipush (v := (-10)) C dX10_lay_35 (by decide) ?_
      refine g_iload C dX10_lay_37 5 rfl ?_
      refine g_isub C dX10_lay_39 ?_
      obtain ⟨rfl, rfl⟩ := os_e hf
      exact g_iret C rfl dX10_lay_40
  · refine g_if_ne_f (tgt := 9) C dX10_lay_4 (by decide) (Decidable.of_not_not c4) ?_
    refine g_iconst (v := (-1)) C dX10_lay_7 (by decide) ?_
    obtain ⟨rfl, rfl⟩ := os_e hf
    exact g_iret C rfl dX10_lay_8
theorem c_X10_lay (l : Launch) (dC : Nat → ClassId) (dI : Nat → Nat → Nat) (ad : Nat → Nat) (cy : Nat → ClassId) (x1 : Int32) (x2 : Int32) (x3 : Int32) : ConI l yX10_lay cX10_lay 6 (some .int) rm_X10_lay dC dI ad cy [.ref (ad 0), .int x1, .int x2, .int x3] (fun σ => fX10_lay σ x1 x2 x3) := con_i (own := RX10) (by decide) rfl (Nat.le_of_ble_eq_true rfl) (fun _ _ _ _ _ _ _ _ σ _ _ C hf => fX10_lay_ok C σ x1 x2 x3 hf)
theorem cal_X10_lay : CalV yX10_lay RX10 cX10_lay 6 (some .int) 3 := ⟨hI_X10_lay, hS_X10_lay, hIni_X10, hC_X10_lay, by decide +kernel⟩
abbrev rm_X10_read : Room := { frames := 2, cells := 0, slots := 0, locals := 42 }
def fX10_read_b128 (sf_128 : S0 → Int32 → Nat → Int32 → Int32 → Int32 → Option (Int32 × S0)) (σ : S0) (x3 : Int32) (x5 : Nat) (x6 : Int32) (x7 : Int32) (x8 : Int32) : Option (Int32 × S0) := if x7 ≤ x8 then (ol (su σ 0 12 x6) (fun σ2 => some (x7, σ2))) else (ol (x3 + x8) (fun v3 => og (¬ (v3 < 0 ∨ 40 ≤ v3.toNatClampNeg)) (ol (σ (x5 + 1) v3.toNatClampNeg) (fun v5 => obp (fX1_addHeard σ 32 v5) (fun r6 σ7 => ol (x8 + 1) (fun v9 => sf_128 σ7 x3 x5 x6 x7 v9))))))
set_option maxHeartbeats 1000000 in
set_option maxRecDepth 100000 in
theorem fX10_read_b128_ok {p : Program} {l : Launch} {e : Env} {s : State} {m : MethodId} {args : Array Value} {below : List Frame} {meth : Method} {c : Code} {dC : Nat → ClassId} {dI : Nat → Nat → Nat} {ad : Nat → Nat} {cy : Nat → ClassId} {sz : Nat} (C : Cx p s m args meth c RX10 cX10_read 9 (some .int) dC dI ad cy sz) {rr : Int32} {ρ : S0} (sf_128 : S0 → Int32 → Nat → Int32 → Int32 → Int32 → Option (Int32 × S0)) (hs_128 : ∀ (σ : S0) (x3 : Int32) (x5 : Nat) (x6 : Int32) (x7 : Int32) (x8 : Int32) (hx5 : isSheet x5), sf_128 σ x3 x5 x6 x7 x8 = some (rr, ρ) → Gw p l e rm_X10_read s m args below meth c (MQ below (QcI dC dI ad cy sz rr ρ) args s 0 0 (AW ad sz)) dC dI ad cy 9 sz 0 0 128 [(0, .ref (ad 0)), (3, .int x3), (5, .ref (ad x5)), (6, .int x6), (7, .int x7), (8, .int x8)] [] σ) (σ : S0) (x3 : Int32) (x5 : Nat) (x6 : Int32) (x7 : Int32) (x8 : Int32) (hx5 : isSheet x5) (hf : fX10_read_b128 sf_128 σ x3 x5 x6 x7 x8 = some (rr, ρ)) : Gw p l e rm_X10_read s m args below meth c (MQ below (QcI dC dI ad cy sz rr ρ) args s 0 0 (AW ad sz)) dC dI ad cy 9 sz 0 0 128 [(0, .ref (ad 0)), (3, .int x3), (5, .ref (ad x5)), (6, .int x6), (7, .int x7), (8, .int x8)] [] σ := by
  unfold fX10_read_b128 at hf
  refine g_iload C dX10_read_128 5 rfl ?_
  refine g_iload C dX10_read_130 4 rfl ?_
  rcases oi_e hf with ⟨c1, hf⟩ | ⟨c1, hf⟩
  · refine g_icmp_ge_t (tgt := 158) C dX10_read_132 (by decide) c1 ?_
    refine g_aload_n C dX10_read_158 rfl 0 rfl ?_
    refine g_iload C dX10_read_159 3 rfl ?_
    obtain ⟨σ2, eσ2, hf⟩ := ol_e hf
    refine g_put (ty := .int) C (a_0 ad cy _) rfl hin_X10 tyX10 tyX10_ok nmX10 12 (by decide) hF_X10_318 rfl rfl (by decide +kernel) rfl rfl (Nat.le_of_ble_eq_true rfl) (p_0_12 ad cy _ _) eσ2 dX10_read_161 ?_
    refine g_iload C dX10_read_164 4 rfl ?_
    obtain ⟨rfl, rfl⟩ := os_e hf
    exact g_iret C rfl dX10_read_166
  · refine g_icmp_ge_f (tgt := 158) C dX10_read_132 (by decide) c1 ?_
    refine g_aload_n C dX10_read_135 rfl 0 rfl ?_
    refine g_get C (a_0 ad cy _) rfl hin_X10 3 (by decide) hF_X10_36 rfl rfl dX10_read_136 ?_
    refine g_aload C dX10_read_139 2 rfl ?_
    refine g_get C (s_isSheet hx5 ad cy _) rfl hin_X7 2 (by decide) hF_X10_315 rfl rfl dX10_read_141 ?_
    refine g_iload_n C dX10_read_144 rfl 1 rfl ?_
    refine g_iload C dX10_read_145 5 rfl ?_
    refine g_iadd C dX10_read_147 ?_
    obtain ⟨v3, ev3, hf⟩ := ol_e hf
    refine g_nm ev3 ?_
    obtain ⟨h4, hf⟩ := og_e hf
    refine g_iald C (s_row hx5.r1 ad cy _) h4 dX10_read_148 ?_
    obtain ⟨v5, ev5, hf⟩ := ol_e hf
    refine g_nm ev5 ?_
    obtain ⟨r6, σ7, h8, hf⟩ := obp_e hf
    refine g_callVv (As := [.int v5]) (rest := []) C (a_32 ad cy _) rfl (c_X1_addHeard l dC dI ad cy 32 k_isChimes_32 v5) h8 hM_X10_270 cal_X1_addHeard ⟨Nat.zero_le _, Nat.zero_le _⟩ ⟨rfl, rfl⟩ ⟨Nat.le_of_ble_eq_true rfl, Nat.le_of_ble_eq_true rfl⟩ rfl rfl (Nat.le_of_ble_eq_true rfl) dX10_read_149 ?_
    obtain ⟨v9, ev9, hf⟩ := ol_e hf
    refine g_iinc (j := 5) (w := 1) (lv2 := [(0, .ref (ad 0)), (3, .int x3), (5, .ref (ad x5)), (6, .int x6), (7, .int x7), (8, .int v9)]) C dX10_read_152 rfl (by decide) ev9 (by decide) [1, 2, 3, 4, 5, 0] rfl ?_
    refine g_goto (tgt := 128) C dX10_read_155 (by decide) ?_
    exact g_sub [0, 1, 2, 3, 4, 5] rfl (hs_128 σ7 x3 x5 x6 x7 v9 hx5 hf)
def fX10_read_h128  : Nat → S0 → Int32 → Nat → Int32 → Int32 → Int32 → Option (Int32 × S0)
  | 0 => fun _ _ _ _ _ _ => none
  | n + 1 => fun σ x3 x5 x6 x7 x8 => fX10_read_b128  (fX10_read_h128  n) σ x3 x5 x6 x7 x8
set_option maxHeartbeats 1000000 in
set_option maxRecDepth 100000 in
theorem fX10_read_h128_ok {p : Program} {l : Launch} {e : Env} {s : State} {m : MethodId} {args : Array Value} {below : List Frame} {meth : Method} {c : Code} {dC : Nat → ClassId} {dI : Nat → Nat → Nat} {ad : Nat → Nat} {cy : Nat → ClassId} {sz : Nat} (C : Cx p s m args meth c RX10 cX10_read 9 (some .int) dC dI ad cy sz) {rr : Int32} {ρ : S0}  : ∀ (n : Nat) (σ : S0) (x3 : Int32) (x5 : Nat) (x6 : Int32) (x7 : Int32) (x8 : Int32) (hx5 : isSheet x5) (_hf : fX10_read_h128  n σ x3 x5 x6 x7 x8 = some (rr, ρ)), Gw p l e rm_X10_read s m args below meth c (MQ below (QcI dC dI ad cy sz rr ρ) args s 0 0 (AW ad sz)) dC dI ad cy 9 sz 0 0 128 [(0, .ref (ad 0)), (3, .int x3), (5, .ref (ad x5)), (6, .int x6), (7, .int x7), (8, .int x8)] [] σ
  | 0, _, _, _, _, _, _, _, hf => by cases hf
  | n + 1, σ, x3, x5, x6, x7, x8, hx5, hf => fX10_read_b128_ok C  (fX10_read_h128  n) (fX10_read_h128_ok C  n) σ x3 x5 x6 x7 x8 hx5 hf
def fX10_read_b125  (σ : S0) (x3 : Int32) (x5 : Nat) (x6 : Int32) (x7 : Int32) : Option (Int32 × S0) := fX10_read_h128 400 σ x3 x5 x6 x7 0
set_option maxHeartbeats 1000000 in
set_option maxRecDepth 100000 in
theorem fX10_read_b125_ok {p : Program} {l : Launch} {e : Env} {s : State} {m : MethodId} {args : Array Value} {below : List Frame} {meth : Method} {c : Code} {dC : Nat → ClassId} {dI : Nat → Nat → Nat} {ad : Nat → Nat} {cy : Nat → ClassId} {sz : Nat} (C : Cx p s m args meth c RX10 cX10_read 9 (some .int) dC dI ad cy sz) {rr : Int32} {ρ : S0}  (σ : S0) (x3 : Int32) (x5 : Nat) (x6 : Int32) (x7 : Int32) (hx5 : isSheet x5) (hf : fX10_read_b125 σ x3 x5 x6 x7 = some (rr, ρ)) : Gw p l e rm_X10_read s m args below meth c (MQ below (QcI dC dI ad cy sz rr ρ) args s 0 0 (AW ad sz)) dC dI ad cy 9 sz 0 0 125 [(0, .ref (ad 0)), (3, .int x3), (5, .ref (ad x5)), (6, .int x6), (7, .int x7)] [] σ := by
  unfold fX10_read_b125 at hf
  refine g_iconst (v := 0) C dX10_read_125 (by decide) ?_
  refine g_istore (lv2 := [(0, .ref (ad 0)), (3, .int x3), (5, .ref (ad x5)), (6, .int x6), (7, .int x7), (8, .int 0)]) C dX10_read_126 (by decide) [1, 2, 3, 4, 5, 0] rfl ?_
  exact g_sub [0, 1, 2, 3, 4, 5] rfl (fX10_read_h128_ok C 400 σ x3 x5 x6 x7 0 hx5 hf)
def fX10_read_b45 (sf_45 : S0 → Int32 → Int32 → Int32 → Nat → Int32 → Int32 → Int32 → Option (Int32 × S0)) (σ : S0) (x2 : Int32) (x3 : Int32) (x4 : Int32) (x5 : Nat) (x6 : Int32) (x7 : Int32) (x8 : Int32) : Option (Int32 × S0) := if x4 ≤ x8 then (fX10_read_b125 σ x3 x5 x6 x7) else (obp (fX7_faultAt σ x5 x2 (x3 + x8)) (fun r2 σ3 => if r2 = 0 then (ol (x3 + x8) (fun v6 => og (¬ (v6 < 0 ∨ 40 ≤ v6.toNatClampNeg)) (ol (σ3 (x5 + 1) v6.toNatClampNeg) (fun v8 => obp (fX1_canBeHeard σ3 32 v8) (fun r9 σ10 => if ¬ r9 = 0 then (if ((σ10 32 7) + x8) < 12 then (ol (x7 + 1) (fun v14 => ol (x8 + 1) (fun v15 => sf_45 σ10 x2 x3 x4 x5 r2 v14 v15))) else (some ((-3), σ10))) else (some (((-20)) - x8, σ10))))))) else (fX10_read_b125 σ3 x3 x5 r2 x7)))
set_option maxHeartbeats 1000000 in
set_option maxRecDepth 100000 in
theorem fX10_read_b45_ok {p : Program} {l : Launch} {e : Env} {s : State} {m : MethodId} {args : Array Value} {below : List Frame} {meth : Method} {c : Code} {dC : Nat → ClassId} {dI : Nat → Nat → Nat} {ad : Nat → Nat} {cy : Nat → ClassId} {sz : Nat} (C : Cx p s m args meth c RX10 cX10_read 9 (some .int) dC dI ad cy sz) {rr : Int32} {ρ : S0} (sf_45 : S0 → Int32 → Int32 → Int32 → Nat → Int32 → Int32 → Int32 → Option (Int32 × S0)) (hs_45 : ∀ (σ : S0) (x2 : Int32) (x3 : Int32) (x4 : Int32) (x5 : Nat) (x6 : Int32) (x7 : Int32) (x8 : Int32) (hx5 : isSheet x5), sf_45 σ x2 x3 x4 x5 x6 x7 x8 = some (rr, ρ) → Gw p l e rm_X10_read s m args below meth c (MQ below (QcI dC dI ad cy sz rr ρ) args s 0 0 (AW ad sz)) dC dI ad cy 9 sz 0 0 45 [(0, .ref (ad 0)), (2, .int x2), (3, .int x3), (4, .int x4), (5, .ref (ad x5)), (6, .int x6), (7, .int x7), (8, .int x8)] [] σ) (σ : S0) (x2 : Int32) (x3 : Int32) (x4 : Int32) (x5 : Nat) (x6 : Int32) (x7 : Int32) (x8 : Int32) (hx5 : isSheet x5) (hf : fX10_read_b45 sf_45 σ x2 x3 x4 x5 x6 x7 x8 = some (rr, ρ)) : Gw p l e rm_X10_read s m args below meth c (MQ below (QcI dC dI ad cy sz rr ρ) args s 0 0 (AW ad sz)) dC dI ad cy 9 sz 0 0 45 [(0, .ref (ad 0)), (2, .int x2), (3, .int x3), (4, .int x4), (5, .ref (ad x5)), (6, .int x6), (7, .int x7), (8, .int x8)] [] σ := by
  unfold fX10_read_b45 at hf
  refine g_iload C dX10_read_45 7 rfl ?_
  refine g_iload C dX10_read_47 3 rfl ?_
  rcases oi_e hf with ⟨c1, hf⟩ | ⟨c1, hf⟩
  · refine g_icmp_ge_t (tgt := 125) C dX10_read_49 (by decide) c1 ?_
    exact g_sub [0, 2, 4, 5, 6] rfl (fX10_read_b125_ok C σ x3 x5 x6 x7 hx5 hf)
  · refine g_icmp_ge_f (tgt := 125) C dX10_read_49 (by decide) c1 ?_
    refine g_aload C dX10_read_52 4 rfl ?_
    refine g_iload_n C dX10_read_54 rfl 1 rfl ?_
    refine g_iload_n C dX10_read_55 rfl 2 rfl ?_
    refine g_iload C dX10_read_56 7 rfl ?_
    refine g_iadd C dX10_read_58 ?_
    obtain ⟨r2, σ3, h4, hf⟩ := obp_e hf
    refine g_callVi (As := [.int x2, .int (x3 + x8)]) (rest := []) C (s_isSheet hx5 ad cy _) rfl (c_X7_faultAt l dC dI ad cy x5 hx5 x2 (x3 + x8)) h4 hM_X10_309 cal_X7_faultAt ⟨Nat.zero_le _, Nat.zero_le _⟩ ⟨rfl, rfl⟩ ⟨Nat.le_of_ble_eq_true rfl, Nat.le_of_ble_eq_true rfl⟩ rfl rfl (Nat.le_of_ble_eq_true rfl) dX10_read_59 ?_
    refine g_istore (lv2 := [(0, .ref (ad 0)), (2, .int x2), (3, .int x3), (4, .int x4), (5, .ref (ad x5)), (6, .int r2), (7, .int x7), (8, .int x8)]) C dX10_read_62 (by decide) [1, 2, 3, 4, 5, 0, 6, 7] rfl ?_
    refine g_iload C dX10_read_64 5 rfl ?_
    rcases oi_e hf with ⟨c5, hf⟩ | ⟨c5, hf⟩
    · refine g_if_eq_t (tgt := 72) C dX10_read_66 (by decide) c5 ?_
      refine g_aload_n C dX10_read_72 rfl 0 rfl ?_
      refine g_get C (a_0 ad cy _) rfl hin_X10 3 (by decide) hF_X10_36 rfl rfl dX10_read_73 ?_
      refine g_aload C dX10_read_76 4 rfl ?_
      refine g_get C (s_isSheet hx5 ad cy _) rfl hin_X7 2 (by decide) hF_X10_315 rfl rfl dX10_read_78 ?_
      refine g_iload_n C dX10_read_81 rfl 2 rfl ?_
      refine g_iload C dX10_read_82 7 rfl ?_
      refine g_iadd C dX10_read_84 ?_
      obtain ⟨v6, ev6, hf⟩ := ol_e hf
      refine g_nm ev6 ?_
      obtain ⟨h7, hf⟩ := og_e hf
      refine g_iald C (s_row hx5.r1 ad cy _) h7 dX10_read_85 ?_
      obtain ⟨v8, ev8, hf⟩ := ol_e hf
      refine g_nm ev8 ?_
      obtain ⟨r9, σ10, h11, hf⟩ := obp_e hf
      refine g_callVi (As := [.int v8]) (rest := []) C (a_32 ad cy _) rfl (c_X1_canBeHeard l dC dI ad cy 32 k_isChimes_32 v8) h11 hM_X10_264 cal_X1_canBeHeard ⟨Nat.zero_le _, Nat.zero_le _⟩ ⟨rfl, rfl⟩ ⟨Nat.le_of_ble_eq_true rfl, Nat.le_of_ble_eq_true rfl⟩ rfl rfl (Nat.le_of_ble_eq_true rfl) dX10_read_86 ?_
      rcases oi_e hf with ⟨c12, hf⟩ | ⟨c12, hf⟩
      · refine g_if_ne_t (tgt := 98) C dX10_read_89 (by decide) c12 ?_
        refine g_aload_n C dX10_read_98 rfl 0 rfl ?_
        refine g_get C (a_0 ad cy _) rfl hin_X10 3 (by decide) hF_X10_36 rfl rfl dX10_read_99 ?_
        refine g_get C (a_32 ad cy _) rfl hin_X1 7 (by decide) hF_X10_267 rfl rfl dX10_read_102 ?_
        refine g_iload C dX10_read_105 7 rfl ?_
        refine g_iadd C dX10_read_107 ?_
        refine g_bipush (v := 12) C dX10_read_108 (by decide) ?_
        rcases oi_e hf with ⟨c13, hf⟩ | ⟨c13, hf⟩
        · refine g_icmp_lt_t (tgt := 116) C dX10_read_110 (by decide) c13 ?_
          obtain ⟨v14, ev14, hf⟩ := ol_e hf
          refine g_iinc (j := 6) (w := 1) (lv2 := [(0, .ref (ad 0)), (2, .int x2), (3, .int x3), (4, .int x4), (5, .ref (ad x5)), (6, .int r2), (7, .int v14), (8, .int x8)]) C dX10_read_116 rfl (by decide) ev14 (by decide) [1, 2, 3, 4, 5, 6, 0, 7] rfl ?_
          obtain ⟨v15, ev15, hf⟩ := ol_e hf
          refine g_iinc (j := 7) (w := 1) (lv2 := [(0, .ref (ad 0)), (2, .int x2), (3, .int x3), (4, .int x4), (5, .ref (ad x5)), (6, .int r2), (7, .int v14), (8, .int v15)]) C dX10_read_119 rfl (by decide) ev15 (by decide) [1, 2, 3, 4, 5, 6, 7, 0] rfl ?_
          refine g_goto (tgt := 45) C dX10_read_122 (by decide) ?_
          exact g_sub [0, 1, 2, 3, 4, 5, 6, 7] rfl (hs_45 σ10 x2 x3 x4 x5 r2 v14 v15 hx5 hf)
        · refine g_icmp_lt_f (tgt := 116) C dX10_read_110 (by decide) c13 ?_
          refine g_bipush (v := (-3)) C dX10_read_113 (by decide) ?_
          obtain ⟨rfl, rfl⟩ := os_e hf
          exact g_iret C rfl dX10_read_115
      · refine g_if_ne_f (tgt := 98) C dX10_read_89 (by decide) (Decidable.of_not_not c12) ?_
        refine g_bipush (v := (-20)) C dX10_read_92 (by decide) ?_
        refine g_iload C dX10_read_94 7 rfl ?_
        refine g_isub C dX10_read_96 ?_
        obtain ⟨rfl, rfl⟩ := os_e hf
        exact g_iret C rfl dX10_read_97
    · refine g_if_eq_f (tgt := 72) C dX10_read_66 (by decide) c5 ?_
      refine g_goto (tgt := 125) C dX10_read_69 (by decide) ?_
      exact g_sub [0, 2, 4, 5, 6] rfl (fX10_read_b125_ok C σ3 x3 x5 r2 x7 hx5 hf)
def fX10_read_h45  : Nat → S0 → Int32 → Int32 → Int32 → Nat → Int32 → Int32 → Int32 → Option (Int32 × S0)
  | 0 => fun _ _ _ _ _ _ _ _ => none
  | n + 1 => fun σ x2 x3 x4 x5 x6 x7 x8 => fX10_read_b45  (fX10_read_h45  n) σ x2 x3 x4 x5 x6 x7 x8
set_option maxHeartbeats 1000000 in
set_option maxRecDepth 100000 in
theorem fX10_read_h45_ok {p : Program} {l : Launch} {e : Env} {s : State} {m : MethodId} {args : Array Value} {below : List Frame} {meth : Method} {c : Code} {dC : Nat → ClassId} {dI : Nat → Nat → Nat} {ad : Nat → Nat} {cy : Nat → ClassId} {sz : Nat} (C : Cx p s m args meth c RX10 cX10_read 9 (some .int) dC dI ad cy sz) {rr : Int32} {ρ : S0}  : ∀ (n : Nat) (σ : S0) (x2 : Int32) (x3 : Int32) (x4 : Int32) (x5 : Nat) (x6 : Int32) (x7 : Int32) (x8 : Int32) (hx5 : isSheet x5) (_hf : fX10_read_h45  n σ x2 x3 x4 x5 x6 x7 x8 = some (rr, ρ)), Gw p l e rm_X10_read s m args below meth c (MQ below (QcI dC dI ad cy sz rr ρ) args s 0 0 (AW ad sz)) dC dI ad cy 9 sz 0 0 45 [(0, .ref (ad 0)), (2, .int x2), (3, .int x3), (4, .int x4), (5, .ref (ad x5)), (6, .int x6), (7, .int x7), (8, .int x8)] [] σ
  | 0, _, _, _, _, _, _, _, _, _, hf => by cases hf
  | n + 1, σ, x2, x3, x4, x5, x6, x7, x8, hx5, hf => fX10_read_b45_ok C  (fX10_read_h45  n) (fX10_read_h45_ok C  n) σ x2 x3 x4 x5 x6 x7 x8 hx5 hf
def fX10_read (σ : S0) (x1 : Int32) (x2 : Int32) (x3 : Int32) (x4 : Int32) : Option (Int32 × S0) := obp (fX10_isSheet σ x1) (fun r1 σ2 => if r1 = 0 then (some ((-1), σ2)) else (obp (fX10_isLane σ2 x2) (fun r5 σ6 => if r5 = 0 then (some ((-1), σ6)) else (if x4 < 0 then (some ((-1), σ6)) else (if x4 ≤ 12 then (og (¬ (x1 < 0 ∨ 4 ≤ x1.toNatClampNeg)) (ol (90 + 2 * x1.toNatClampNeg) (fun q12 => fX10_read_h45 400 σ6 x2 x3 x4 q12 0 0 0))) else (some ((-1), σ6)))))))
set_option maxHeartbeats 1000000 in
set_option maxRecDepth 100000 in
theorem fX10_read_ok {p : Program} {l : Launch} {e : Env} {s : State} {m : MethodId} {args : Array Value} {below : List Frame} {meth : Method} {c : Code} {dC : Nat → ClassId} {dI : Nat → Nat → Nat} {ad : Nat → Nat} {cy : Nat → ClassId} {sz : Nat} (C : Cx p s m args meth c RX10 cX10_read 9 (some .int) dC dI ad cy sz) {rr : Int32} {ρ : S0} (σ : S0) (x1 : Int32) (x2 : Int32) (x3 : Int32) (x4 : Int32)  (hf : fX10_read σ x1 x2 x3 x4 = some (rr, ρ)) : Gw p l e rm_X10_read s m args below meth c (MQ below (QcI dC dI ad cy sz rr ρ) args s 0 0 (AW ad sz)) dC dI ad cy 9 sz 0 0 0 [(0, .ref (ad 0)), (1, .int x1), (2, .int x2), (3, .int x3), (4, .int x4)] [] σ := by
  unfold fX10_read at hf
  refine g_iload_n C dX10_read_0 rfl 1 rfl ?_
  obtain ⟨r1, σ2, h3, hf⟩ := obp_e hf
  refine g_callSi (As := [.int x1]) (rest := []) C (c_X10_isSheet l dC dI ad cy x1) h3 hM_X10_297 cal_X10_isSheet ⟨Nat.zero_le _, Nat.zero_le _⟩ ⟨rfl, rfl⟩ ⟨Nat.le_of_ble_eq_true rfl, Nat.le_of_ble_eq_true rfl⟩ rfl rfl (Nat.le_of_ble_eq_true rfl) dX10_read_1 ?_
  rcases oi_e hf with ⟨c4, hf⟩ | ⟨c4, hf⟩
  · refine g_if_eq_t (tgt := 26) C dX10_read_4 (by decide) c4 ?_
    refine g_iconst (v := (-1)) C dX10_read_26 (by decide) ?_
    obtain ⟨rfl, rfl⟩ := os_e hf
    exact g_iret C rfl dX10_read_27
  · refine g_if_eq_f (tgt := 26) C dX10_read_4 (by decide) c4 ?_
    refine g_iload_n C dX10_read_7 rfl 2 rfl ?_
    obtain ⟨r5, σ6, h7, hf⟩ := obp_e hf
    refine g_callSi (As := [.int x2]) (rest := []) C (c_X10_isLane l dC dI ad cy x2) h7 hM_X10_300 cal_X10_isLane ⟨Nat.zero_le _, Nat.zero_le _⟩ ⟨rfl, rfl⟩ ⟨Nat.le_of_ble_eq_true rfl, Nat.le_of_ble_eq_true rfl⟩ rfl rfl (Nat.le_of_ble_eq_true rfl) dX10_read_8 ?_
    rcases oi_e hf with ⟨c8, hf⟩ | ⟨c8, hf⟩
    · refine g_if_eq_t (tgt := 26) C dX10_read_11 (by decide) c8 ?_
      refine g_iconst (v := (-1)) C dX10_read_26 (by decide) ?_
      obtain ⟨rfl, rfl⟩ := os_e hf
      exact g_iret C rfl dX10_read_27
    · refine g_if_eq_f (tgt := 26) C dX10_read_11 (by decide) c8 ?_
      refine g_iload C dX10_read_14 4 rfl ?_
      rcases oi_e hf with ⟨c9, hf⟩ | ⟨c9, hf⟩
      · refine g_if_lt_t (tgt := 26) C dX10_read_16 (by decide) c9 ?_
        refine g_iconst (v := (-1)) C dX10_read_26 (by decide) ?_
        obtain ⟨rfl, rfl⟩ := os_e hf
        exact g_iret C rfl dX10_read_27
      · refine g_if_lt_f (tgt := 26) C dX10_read_16 (by decide) c9 ?_
        refine g_iload C dX10_read_19 4 rfl ?_
        refine g_bipush (v := 12) C dX10_read_21 (by decide) ?_
        rcases oi_e hf with ⟨c10, hf⟩ | ⟨c10, hf⟩
        · refine g_icmp_le_t (tgt := 28) C dX10_read_23 (by decide) c10 ?_
          refine g_aload_n C dX10_read_28 rfl 0 rfl ?_
          refine g_get C (a_0 ad cy _) rfl hin_X10 11 (by decide) hF_X10_88 rfl rfl dX10_read_29 ?_
          refine g_iload_n C dX10_read_32 rfl 1 rfl ?_
          obtain ⟨h11, hf⟩ := og_e hf
          obtain ⟨q12, eq12, hf⟩ := ol_e hf
          refine g_aald C (a_73 ad cy _) rfl rfl h11 dX10_read_33 ?_
          refine g_nmr eq12 ?_
          have hq12 := (o_73 h11 eq12)
          refine g_astore (lv2 := [(0, .ref (ad 0)), (1, .int x1), (2, .int x2), (3, .int x3), (4, .int x4), (5, .ref (ad q12))]) C dX10_read_34 (by decide) [1, 2, 3, 4, 5, 0] rfl ?_
          refine g_iconst (v := 0) C dX10_read_36 (by decide) ?_
          refine g_istore (lv2 := [(0, .ref (ad 0)), (1, .int x1), (2, .int x2), (3, .int x3), (4, .int x4), (5, .ref (ad q12)), (6, .int 0)]) C dX10_read_37 (by decide) [1, 2, 3, 4, 5, 6, 0] rfl ?_
          refine g_iconst (v := 0) C dX10_read_39 (by decide) ?_
          refine g_istore (lv2 := [(0, .ref (ad 0)), (1, .int x1), (2, .int x2), (3, .int x3), (4, .int x4), (5, .ref (ad q12)), (6, .int 0), (7, .int 0)]) C dX10_read_40 (by decide) [1, 2, 3, 4, 5, 6, 7, 0] rfl ?_
          refine g_iconst (v := 0) C dX10_read_42 (by decide) ?_
          refine g_istore (lv2 := [(0, .ref (ad 0)), (1, .int x1), (2, .int x2), (3, .int x3), (4, .int x4), (5, .ref (ad q12)), (6, .int 0), (7, .int 0), (8, .int 0)]) C dX10_read_43 (by decide) [1, 2, 3, 4, 5, 6, 7, 8, 0] rfl ?_
          exact g_sub [0, 2, 3, 4, 5, 6, 7, 8] rfl (fX10_read_h45_ok C 400 σ6 x2 x3 x4 q12 0 0 0 hq12 hf)
        · refine g_icmp_le_f (tgt := 28) C dX10_read_23 (by decide) c10 ?_
          refine g_iconst (v := (-1)) C dX10_read_26 (by decide) ?_
          obtain ⟨rfl, rfl⟩ := os_e hf
          exact g_iret C rfl dX10_read_27
theorem c_X10_read (l : Launch) (dC : Nat → ClassId) (dI : Nat → Nat → Nat) (ad : Nat → Nat) (cy : Nat → ClassId) (x1 : Int32) (x2 : Int32) (x3 : Int32) (x4 : Int32) : ConI l yX10_read cX10_read 9 (some .int) rm_X10_read dC dI ad cy [.ref (ad 0), .int x1, .int x2, .int x3, .int x4] (fun σ => fX10_read σ x1 x2 x3 x4) := con_i (own := RX10) (by decide) rfl (Nat.le_of_ble_eq_true rfl) (fun _ _ _ _ _ _ _ _ σ _ _ C hf => fX10_read_ok C σ x1 x2 x3 x4 hf)
theorem cal_X10_read : CalV yX10_read RX10 cX10_read 9 (some .int) 4 := ⟨hI_X10_read, hS_X10_read, hIni_X10, hC_X10_read, by decide +kernel⟩
abbrev rm_X10_torn : Room := { frames := 0, cells := 0, slots := 0, locals := 0 }
def fX10_torn (σ : S0)  : Option (Int32 × S0) := some (σ 0 12, σ)
set_option maxHeartbeats 1000000 in
set_option maxRecDepth 100000 in
theorem fX10_torn_ok {p : Program} {l : Launch} {e : Env} {s : State} {m : MethodId} {args : Array Value} {below : List Frame} {meth : Method} {c : Code} {dC : Nat → ClassId} {dI : Nat → Nat → Nat} {ad : Nat → Nat} {cy : Nat → ClassId} {sz : Nat} (C : Cx p s m args meth c RX10 cX10_torn 1 (some .int) dC dI ad cy sz) {rr : Int32} {ρ : S0} (σ : S0)   (hf : fX10_torn σ = some (rr, ρ)) : Gw p l e rm_X10_torn s m args below meth c (MQ below (QcI dC dI ad cy sz rr ρ) args s 0 0 (AW ad sz)) dC dI ad cy 1 sz 0 0 0 [(0, .ref (ad 0))] [] σ := by
  unfold fX10_torn at hf
  refine g_aload_n C dX10_torn_0 rfl 0 rfl ?_
  refine g_get C (a_0 ad cy _) rfl hin_X10 12 (by decide) hF_X10_318 rfl rfl dX10_torn_1 ?_
  obtain ⟨rfl, rfl⟩ := os_e hf
  exact g_iret C rfl dX10_torn_4
theorem c_X10_torn (l : Launch) (dC : Nat → ClassId) (dI : Nat → Nat → Nat) (ad : Nat → Nat) (cy : Nat → ClassId)  : ConI l yX10_torn cX10_torn 1 (some .int) rm_X10_torn dC dI ad cy [.ref (ad 0)] (fun σ => fX10_torn σ) := con_i (own := RX10) (by decide) rfl (Nat.le_of_ble_eq_true rfl) (fun _ _ _ _ _ _ _ _ σ _ _ C hf => fX10_torn_ok C σ  hf)
theorem cal_X10_torn : CalV yX10_torn RX10 cX10_torn 1 (some .int) 0 := ⟨hI_X10_torn, hS_X10_torn, hIni_X10, hC_X10_torn, by decide +kernel⟩
abbrev rm_X10_count : Room := { frames := 2, cells := 0, slots := 0, locals := 42 }
def fX10_count_b90  (σ : S0) (t0 : Int32) : Option (Int32 × S0) := og (¬ (((1 : Int32)) < 0 ∨ 2 ≤ ((1 : Int32)).toNatClampNeg)) (ol (σ 72 ((1 : Int32)).toNatClampNeg) (fun v2 => if v2 = 0 then (some (t0 + 0, σ)) else (some (t0 + 1, σ))))
set_option maxHeartbeats 1000000 in
set_option maxRecDepth 100000 in
theorem fX10_count_b90_ok {p : Program} {l : Launch} {e : Env} {s : State} {m : MethodId} {args : Array Value} {below : List Frame} {meth : Method} {c : Code} {dC : Nat → ClassId} {dI : Nat → Nat → Nat} {ad : Nat → Nat} {cy : Nat → ClassId} {sz : Nat} (C : Cx p s m args meth c RX10 cX10_count 2 (some .int) dC dI ad cy sz) {rr : Int32} {ρ : S0}  (σ : S0) (t0 : Int32)  (hf : fX10_count_b90 σ t0 = some (rr, ρ)) : Gw p l e rm_X10_count s m args below meth c (MQ below (QcI dC dI ad cy sz rr ρ) args s 0 0 (AW ad sz)) dC dI ad cy 2 sz 0 0 90 [(0, .ref (ad 0))] [.int t0] σ := by
  unfold fX10_count_b90 at hf
  refine g_aload_n C dX10_count_90 rfl 0 rfl ?_
  refine g_get C (a_0 ad cy _) rfl hin_X10 10 (by decide) hF_X10_82 rfl rfl dX10_count_91 ?_
  refine g_iconst (v := 1) C dX10_count_94 (by decide) ?_
  obtain ⟨h1, hf⟩ := og_e hf
  refine g_zald C (a_72 ad cy _) h1 dX10_count_95 ?_
  obtain ⟨v2, ev2, hf⟩ := ol_e hf
  refine g_nm ev2 ?_
  rcases oi_e hf with ⟨c3, hf⟩ | ⟨c3, hf⟩
  · refine g_if_eq_t (tgt := 103) C dX10_count_96 (by decide) c3 ?_
    refine g_iconst (v := 0) C dX10_count_103 (by decide) ?_
    refine g_iadd C dX10_count_104 ?_
    obtain ⟨rfl, rfl⟩ := os_e hf
    exact g_iret C rfl dX10_count_105
  · refine g_if_eq_f (tgt := 103) C dX10_count_96 (by decide) c3 ?_
    refine g_iconst (v := 1) C dX10_count_99 (by decide) ?_
    refine g_goto (tgt := 104) C dX10_count_100 (by decide) ?_
    refine g_iadd C dX10_count_104 ?_
    obtain ⟨rfl, rfl⟩ := os_e hf
    exact g_iret C rfl dX10_count_105
def fX10_count (σ : S0) (x1 : Int32) : Option (Int32 × S0) := if x1.toInt < 0 ∨ 6 < x1.toInt then (some ((-1), σ)) else if x1 = 0 then (some (σ 32 0, σ)) else if x1 = 1 then (some (σ 22 2, σ)) else if x1 = 2 then (obp (fX1_feudPairs σ 32) (fun r5 σ6 => some (r5, σ6))) else if x1 = 3 then (some (σ 32 7, σ)) else if x1 = 4 then (og (¬ (((0 : Int32)) < 0 ∨ 2 ≤ ((0 : Int32)).toNatClampNeg)) (ol (σ 72 ((0 : Int32)).toNatClampNeg) (fun v11 => if v11 = 0 then (fX10_count_b90 σ 0) else (fX10_count_b90 σ 1)))) else if x1 = 5 then (some (σ 1 1, σ)) else if x1 = 6 then (og (¬ (((0 : Int32)) < 0 ∨ 4 ≤ ((0 : Int32)).toNatClampNeg)) (ol (90 + 2 * ((0 : Int32)).toNatClampNeg) (fun q16 => obp (fX7_isNothing σ q16) (fun r17 σ18 => if r17 = 0 then (og (¬ (((0 : Int32)) < 0 ∨ 4 ≤ ((0 : Int32)).toNatClampNeg)) (ol (90 + 2 * ((0 : Int32)).toNatClampNeg) (fun q22 => some (σ18 q22 1, σ18)))) else (some ((-4), σ18)))))) else none
set_option maxHeartbeats 1000000 in
set_option maxRecDepth 100000 in
theorem fX10_count_ok {p : Program} {l : Launch} {e : Env} {s : State} {m : MethodId} {args : Array Value} {below : List Frame} {meth : Method} {c : Code} {dC : Nat → ClassId} {dI : Nat → Nat → Nat} {ad : Nat → Nat} {cy : Nat → ClassId} {sz : Nat} (C : Cx p s m args meth c RX10 cX10_count 2 (some .int) dC dI ad cy sz) {rr : Int32} {ρ : S0} (σ : S0) (x1 : Int32)  (hf : fX10_count σ x1 = some (rr, ρ)) : Gw p l e rm_X10_count s m args below meth c (MQ below (QcI dC dI ad cy sz rr ρ) args s 0 0 (AW ad sz)) dC dI ad cy 2 sz 0 0 0 [(0, .ref (ad 0)), (1, .int x1)] [] σ := by
  unfold fX10_count at hf
  refine g_iload_n C dX10_count_0 rfl 1 rfl ?_
  rcases oi_e hf with ⟨c1, hf⟩ | ⟨c1, hf⟩
  · refine g_tout (tgt := 141) C dX10_count_1 c1 (by decide) ?_
    refine g_iconst (v := (-1)) C dX10_count_141 (by decide) ?_
    obtain ⟨rfl, rfl⟩ := os_e hf
    exact g_iret C rfl dX10_count_142
  · skip
    rcases oi_e hf with ⟨c2, hf⟩ | ⟨c2, hf⟩
    · refine g_tin (tgt := 44) C dX10_count_1 (by rw [c2]; decide) (by rw [c2]; decide) (by rw [c2]; rfl) (by decide) ?_
      refine g_aload_n C dX10_count_44 rfl 0 rfl ?_
      refine g_get C (a_0 ad cy _) rfl hin_X10 3 (by decide) hF_X10_36 rfl rfl dX10_count_45 ?_
      refine g_get C (a_32 ad cy _) rfl hin_X1 0 (by decide) hF_X10_250 rfl rfl dX10_count_48 ?_
      obtain ⟨rfl, rfl⟩ := os_e hf
      exact g_iret C rfl dX10_count_51
    · skip
      rcases oi_e hf with ⟨c3, hf⟩ | ⟨c3, hf⟩
      · refine g_tin (tgt := 52) C dX10_count_1 (by rw [c3]; decide) (by rw [c3]; decide) (by rw [c3]; rfl) (by decide) ?_
        refine g_aload_n C dX10_count_52 rfl 0 rfl ?_
        refine g_get C (a_0 ad cy _) rfl hin_X10 2 (by decide) hF_X10_28 rfl rfl dX10_count_53 ?_
        refine g_get C (a_22 ad cy _) rfl hin_X9 2 (by decide) hF_X10_321 rfl rfl dX10_count_56 ?_
        obtain ⟨rfl, rfl⟩ := os_e hf
        exact g_iret C rfl dX10_count_59
      · skip
        rcases oi_e hf with ⟨c4, hf⟩ | ⟨c4, hf⟩
        · refine g_tin (tgt := 60) C dX10_count_1 (by rw [c4]; decide) (by rw [c4]; decide) (by rw [c4]; rfl) (by decide) ?_
          refine g_aload_n C dX10_count_60 rfl 0 rfl ?_
          refine g_get C (a_0 ad cy _) rfl hin_X10 3 (by decide) hF_X10_36 rfl rfl dX10_count_61 ?_
          obtain ⟨r5, σ6, h7, hf⟩ := obp_e hf
          refine g_callVi (As := []) (rest := []) C (a_32 ad cy _) rfl (c_X1_feudPairs l dC dI ad cy 32 k_isChimes_32) h7 hM_X10_322 cal_X1_feudPairs ⟨Nat.zero_le _, Nat.zero_le _⟩ ⟨rfl, rfl⟩ ⟨Nat.le_of_ble_eq_true rfl, Nat.le_of_ble_eq_true rfl⟩ rfl rfl (Nat.le_of_ble_eq_true rfl) dX10_count_64 ?_
          obtain ⟨rfl, rfl⟩ := os_e hf
          exact g_iret C rfl dX10_count_67
        · skip
          rcases oi_e hf with ⟨c8, hf⟩ | ⟨c8, hf⟩
          · refine g_tin (tgt := 68) C dX10_count_1 (by rw [c8]; decide) (by rw [c8]; decide) (by rw [c8]; rfl) (by decide) ?_
            refine g_aload_n C dX10_count_68 rfl 0 rfl ?_
            refine g_get C (a_0 ad cy _) rfl hin_X10 3 (by decide) hF_X10_36 rfl rfl dX10_count_69 ?_
            refine g_get C (a_32 ad cy _) rfl hin_X1 7 (by decide) hF_X10_267 rfl rfl dX10_count_72 ?_
            obtain ⟨rfl, rfl⟩ := os_e hf
            exact g_iret C rfl dX10_count_75
          · skip
            rcases oi_e hf with ⟨c9, hf⟩ | ⟨c9, hf⟩
            · refine g_tin (tgt := 76) C dX10_count_1 (by rw [c9]; decide) (by rw [c9]; decide) (by rw [c9]; rfl) (by decide) ?_
              refine g_aload_n C dX10_count_76 rfl 0 rfl ?_
              refine g_get C (a_0 ad cy _) rfl hin_X10 10 (by decide) hF_X10_82 rfl rfl dX10_count_77 ?_
              refine g_iconst (v := 0) C dX10_count_80 (by decide) ?_
              obtain ⟨h10, hf⟩ := og_e hf
              refine g_zald C (a_72 ad cy _) h10 dX10_count_81 ?_
              obtain ⟨v11, ev11, hf⟩ := ol_e hf
              refine g_nm ev11 ?_
              rcases oi_e hf with ⟨c12, hf⟩ | ⟨c12, hf⟩
              · refine g_if_eq_t (tgt := 89) C dX10_count_82 (by decide) c12 ?_
                refine g_iconst (v := 0) C dX10_count_89 (by decide) ?_
                exact g_sub [0] rfl (fX10_count_b90_ok C σ 0 hf)
              · refine g_if_eq_f (tgt := 89) C dX10_count_82 (by decide) c12 ?_
                refine g_iconst (v := 1) C dX10_count_85 (by decide) ?_
                refine g_goto (tgt := 90) C dX10_count_86 (by decide) ?_
                exact g_sub [0] rfl (fX10_count_b90_ok C σ 1 hf)
            · skip
              rcases oi_e hf with ⟨c13, hf⟩ | ⟨c13, hf⟩
              · refine g_tin (tgt := 106) C dX10_count_1 (by rw [c13]; decide) (by rw [c13]; decide) (by rw [c13]; rfl) (by decide) ?_
                refine g_aload_n C dX10_count_106 rfl 0 rfl ?_
                refine g_get C (a_0 ad cy _) rfl hin_X10 0 (by decide) hF_X10_12 rfl rfl dX10_count_107 ?_
                refine g_get C (a_1 ad cy _) rfl hin_X8 1 (by decide) hF_X10_94 rfl rfl dX10_count_110 ?_
                obtain ⟨rfl, rfl⟩ := os_e hf
                exact g_iret C rfl dX10_count_113
              · skip
                rcases oi_e hf with ⟨c14, hf⟩ | ⟨c14, hf⟩
                · refine g_tin (tgt := 114) C dX10_count_1 (by rw [c14]; decide) (by rw [c14]; decide) (by rw [c14]; rfl) (by decide) ?_
                  refine g_aload_n C dX10_count_114 rfl 0 rfl ?_
                  refine g_get C (a_0 ad cy _) rfl hin_X10 11 (by decide) hF_X10_88 rfl rfl dX10_count_115 ?_
                  refine g_iconst (v := 0) C dX10_count_118 (by decide) ?_
                  obtain ⟨h15, hf⟩ := og_e hf
                  obtain ⟨q16, eq16, hf⟩ := ol_e hf
                  refine g_aald C (a_73 ad cy _) rfl rfl h15 dX10_count_119 ?_
                  refine g_nmr eq16 ?_
                  have hq16 := (o_73 h15 eq16)
                  obtain ⟨r17, σ18, h19, hf⟩ := obp_e hf
                  refine g_callVi (As := []) (rest := []) C (s_isSheet hq16 ad cy _) rfl (c_X7_isNothing l dC dI ad cy q16 hq16) h19 hM_X10_325 cal_X7_isNothing ⟨Nat.zero_le _, Nat.zero_le _⟩ ⟨rfl, rfl⟩ ⟨Nat.le_of_ble_eq_true rfl, Nat.le_of_ble_eq_true rfl⟩ rfl rfl (Nat.le_of_ble_eq_true rfl) dX10_count_120 ?_
                  rcases oi_e hf with ⟨c20, hf⟩ | ⟨c20, hf⟩
                  · refine g_if_eq_t (tgt := 131) C dX10_count_123 (by decide) c20 ?_
                    refine g_aload_n C dX10_count_131 rfl 0 rfl ?_
                    refine g_get C (a_0 ad cy _) rfl hin_X10 11 (by decide) hF_X10_88 rfl rfl dX10_count_132 ?_
                    refine g_iconst (v := 0) C dX10_count_135 (by decide) ?_
                    obtain ⟨h21, hf⟩ := og_e hf
                    obtain ⟨q22, eq22, hf⟩ := ol_e hf
                    refine g_aald C (a_73 ad cy _) rfl rfl h21 dX10_count_136 ?_
                    refine g_nmr eq22 ?_
                    have hq22 := (o_73 h21 eq22)
                    refine g_get C (s_isSheet hq22 ad cy _) rfl hin_X7 1 (by decide) hF_X10_328 rfl rfl dX10_count_137 ?_
                    obtain ⟨rfl, rfl⟩ := os_e hf
                    exact g_iret C rfl dX10_count_140
                  · refine g_if_eq_f (tgt := 131) C dX10_count_123 (by decide) c20 ?_
                    refine g_bipush (v := (-4)) C dX10_count_126 (by decide) ?_
                    refine g_goto (tgt := 140) C dX10_count_128 (by decide) ?_
                    obtain ⟨rfl, rfl⟩ := os_e hf
                    exact g_iret C rfl dX10_count_140
                · skip
                  cases hf
theorem c_X10_count (l : Launch) (dC : Nat → ClassId) (dI : Nat → Nat → Nat) (ad : Nat → Nat) (cy : Nat → ClassId) (x1 : Int32) : ConI l yX10_count cX10_count 2 (some .int) rm_X10_count dC dI ad cy [.ref (ad 0), .int x1] (fun σ => fX10_count σ x1) := con_i (own := RX10) (by decide) rfl (Nat.le_of_ble_eq_true rfl) (fun _ _ _ _ _ _ _ _ σ _ _ C hf => fX10_count_ok C σ x1 hf)
theorem cal_X10_count : CalV yX10_count RX10 cX10_count 2 (some .int) 1 := ⟨hI_X10_count, hS_X10_count, hIni_X10, hC_X10_count, by decide +kernel⟩
