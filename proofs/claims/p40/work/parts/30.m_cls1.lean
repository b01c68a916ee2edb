section
abbrev rm_X1_empty : Room := { frames := 1, cells := 0, slots := 0, locals := 23 }
def fX1_empty (σ : S0) (k : Nat) : Option (Int32 × S0) := ol (su σ k 0 0) (fun σ1 => ol (su σ1 k 7 0) (fun σ2 => obp (fJ7_fill_53178 σ2 6 (k + 6) ((0 : Int32))) (fun r3 σ4 => some (0, σ4))))
set_option maxHeartbeats 1000000 in
set_option maxRecDepth 100000 in
theorem fX1_empty_ok {p : Program} {l : Launch} {e : Env} {s : State} {m : MethodId} {args : Array Value} {below : List Frame} {meth : Method} {c : Code} {dC : Nat → ClassId} {dI : Nat → Nat → Nat} {ad : Nat → Nat} {cy : Nat → ClassId} {sz : Nat} (C : Cx p s m args meth c RX1 cX1_empty 1 none dC dI ad cy sz) {rr : Int32} {ρ : S0} (σ : S0) (k : Nat) (hk : isChimes k) (hf : fX1_empty σ k = some (rr, ρ)) : Gw p l e rm_X1_empty s m args below meth c (MQ below (QcV dC dI ad cy sz ρ) args s 0 0 (AW ad sz)) dC dI ad cy 1 sz 0 0 0 [(0, .ref (ad k))] [] σ := by
  unfold fX1_empty at hf
  refine g_aload_n C dX1_empty_0 rfl 0 rfl ?_
  refine g_iconst (v := 0) C dX1_empty_1 (by decide) ?_
  obtain ⟨σ1, eσ1, hf⟩ := ol_e hf
  refine g_put (ty := .int) C (s_isChimes hk ad cy _) rfl hin_X1 tyX1 tyX1_ok nmX1 0 (by decide) hF_X1_33 rfl rfl (by decide +kernel) rfl rfl (Nat.le_of_ble_eq_true rfl) (ps_isChimes_0 hk ad cy _ _) eσ1 dX1_empty_2 ?_
  refine g_aload_n C dX1_empty_5 rfl 0 rfl ?_
  refine g_iconst (v := 0) C dX1_empty_6 (by decide) ?_
  obtain ⟨σ2, eσ2, hf⟩ := ol_e hf
  refine g_put (ty := .int) C (s_isChimes hk ad cy _) rfl hin_X1 tyX1 tyX1_ok nmX1 7 (by decide) hF_X1_37 rfl rfl (by decide +kernel) rfl rfl (Nat.le_of_ble_eq_true rfl) (ps_isChimes_7 hk ad cy _ _) eσ2 dX1_empty_7 ?_
  refine g_aload_n C dX1_empty_10 rfl 0 rfl ?_
  refine g_get C (s_isChimes hk ad cy _) rfl hin_X1 6 (by decide) hF_X1_27 rfl rfl dX1_empty_11 ?_
  refine g_iconst (v := 0) C dX1_empty_14 (by decide) ?_
  obtain ⟨r3, σ4, h5, hf⟩ := obp_e hf
  refine g_callSv (As := [.ref (ad (k + 6)), .int 0]) (rest := []) C (c_J7_fill_53178 l dC dI ad cy 6 (k + 6) hk.r6 ((0 : Int32))) h5 hM_X1_40 cal_J7_fill_53178 ⟨Nat.zero_le _, Nat.zero_le _⟩ ⟨rfl, rfl⟩ ⟨Nat.le_of_ble_eq_true rfl, Nat.le_of_ble_eq_true rfl⟩ rfl rfl (Nat.le_of_ble_eq_true rfl) dX1_empty_15 ?_
  obtain ⟨rfl, rfl⟩ := os_e hf
  exact g_vret C rfl dX1_empty_18
theorem c_X1_empty (l : Launch) (dC : Nat → ClassId) (dI : Nat → Nat → Nat) (ad : Nat → Nat) (cy : Nat → ClassId) (k : Nat) (hk : isChimes k) : ConV l yX1_empty cX1_empty 1 none rm_X1_empty dC dI ad cy [.ref (ad k)] (fun σ => fX1_empty σ k) := con_v (own := RX1) (by decide) rfl (Nat.le_of_ble_eq_true rfl) (fun _ _ _ _ _ _ _ _ σ _ _ C hf => fX1_empty_ok C σ k hk hf)
theorem cal_X1_empty : CalV yX1_empty RX1 cX1_empty 1 none 0 := ⟨hI_X1_empty, hS_X1_empty, hIni_X1, hC_X1_empty, by decide +kernel⟩
abbrev rm_X1_copyFrom : Room := { frames := 1, cells := 0, slots := 0, locals := 18 }
def fX1_copyFrom (σ : S0) (k : Nat) (k1 : Nat) : Option (Int32 × S0) := ol (σ k1 0) (fun v1 => ol (su σ k 0 v1) (fun σ2 => ol (va_up σ2 (k + 1) (va_cpy (σ2 (k1 + 1)) (σ2 (k + 1)) 0 0 (12 : Int32).toNatClampNeg)) (fun σ3 => ol (va_up σ3 (k + 2) (va_cpy (σ3 (k1 + 2)) (σ3 (k + 2)) 0 0 (12 : Int32).toNatClampNeg)) (fun σ4 => ol (va_up σ4 (k + 3) (va_cpy (σ4 (k1 + 3)) (σ4 (k + 3)) 0 0 (12 : Int32).toNatClampNeg)) (fun σ5 => ol (va_up σ5 (k + 4) (va_cpy (σ5 (k1 + 4)) (σ5 (k + 4)) 0 0 (12 : Int32).toNatClampNeg)) (fun σ6 => ol (va_up σ6 (k + 5) (va_cpy (σ6 (k1 + 5)) (σ6 (k + 5)) 0 0 (12 : Int32).toNatClampNeg)) (fun σ7 => ol (va_up σ7 (k + 6) (va_cpy (σ7 (k1 + 6)) (σ7 (k + 6)) 0 0 (6 : Int32).toNatClampNeg)) (fun σ8 => ol (σ8 k1 7) (fun v9 => ol (su σ8 k 7 v9) (fun σ10 => ol (va_up σ10 (k + 7) (va_cpy (σ10 (k1 + 7)) (σ10 (k + 7)) 0 0 (12 : Int32).toNatClampNeg)) (fun σ11 => some (0, σ11))))))))))))
set_option maxHeartbeats 1000000 in
set_option maxRecDepth 100000 in
theorem fX1_copyFrom_ok {p : Program} {l : Launch} {e : Env} {s : State} {m : MethodId} {args : Array Value} {below : List Frame} {meth : Method} {c : Code} {dC : Nat → ClassId} {dI : Nat → Nat → Nat} {ad : Nat → Nat} {cy : Nat → ClassId} {sz : Nat} (C : Cx p s m args meth c RX1 cX1_copyFrom 2 none dC dI ad cy sz) {rr : Int32} {ρ : S0} (σ : S0) (k : Nat) (k1 : Nat) (hk : isChimes k) (hk1 : isChimes k1) (hf : fX1_copyFrom σ k k1 = some (rr, ρ)) : Gw p l e rm_X1_copyFrom s m args below meth c (MQ below (QcV dC dI ad cy sz ρ) args s 0 0 (AW ad sz)) dC dI ad cy 2 sz 0 0 0 [(0, .ref (ad k)), (1, .ref (ad k1))] [] σ := by
  unfold fX1_copyFrom at hf
  refine g_aload_n C dX1_copyFrom_0 rfl 0 rfl ?_
  refine g_aload_n C dX1_copyFrom_1 rfl 1 rfl ?_
  refine g_get C (s_isChimes hk1 ad cy _) rfl hin_X1 0 (by decide) hF_X1_33 rfl rfl dX1_copyFrom_2 ?_
  obtain ⟨v1, ev1, hf⟩ := ol_e hf
  refine g_nm ev1 ?_
  obtain ⟨σ2, eσ2, hf⟩ := ol_e hf
  refine g_put (ty := .int) C (s_isChimes hk ad cy _) rfl hin_X1 tyX1 tyX1_ok nmX1 0 (by decide) hF_X1_33 rfl rfl (by decide +kernel) rfl rfl (Nat.le_of_ble_eq_true rfl) (ps_isChimes_0 hk ad cy _ _) eσ2 dX1_copyFrom_5 ?_
  refine g_aload_n C dX1_copyFrom_8 rfl 1 rfl ?_
  refine g_get C (s_isChimes hk1 ad cy _) rfl hin_X1 1 (by decide) hF_X1_9 rfl rfl dX1_copyFrom_9 ?_
  refine g_iconst (v := 0) C dX1_copyFrom_12 (by decide) ?_
  refine g_aload_n C dX1_copyFrom_13 rfl 0 rfl ?_
  refine g_get C (s_isChimes hk ad cy _) rfl hin_X1 1 (by decide) hF_X1_9 rfl rfl dX1_copyFrom_14 ?_
  refine g_iconst (v := 0) C dX1_copyFrom_17 (by decide) ?_
  refine g_bipush (v := 12) C dX1_copyFrom_18 (by decide) ?_
  obtain ⟨σ3, eσ3, hf⟩ := ol_e hf
  refine g_copy C hM_X1_46 (s_row hk1.r1 ad cy _) (s_row hk.r1 ad cy _) (by decide) (by decide) (by decide) ⟨Nat.le_of_ble_eq_true rfl, Nat.le_of_ble_eq_true rfl⟩ (fun f => ws_row hk.r1 ad cy f) eσ3 dX1_copyFrom_20 ?_
  refine g_aload_n C dX1_copyFrom_23 rfl 1 rfl ?_
  refine g_get C (s_isChimes hk1 ad cy _) rfl hin_X1 2 (by decide) hF_X1_15 rfl rfl dX1_copyFrom_24 ?_
  refine g_iconst (v := 0) C dX1_copyFrom_27 (by decide) ?_
  refine g_aload_n C dX1_copyFrom_28 rfl 0 rfl ?_
  refine g_get C (s_isChimes hk ad cy _) rfl hin_X1 2 (by decide) hF_X1_15 rfl rfl dX1_copyFrom_29 ?_
  refine g_iconst (v := 0) C dX1_copyFrom_32 (by decide) ?_
  refine g_bipush (v := 12) C dX1_copyFrom_33 (by decide) ?_
  obtain ⟨σ4, eσ4, hf⟩ := ol_e hf
  refine g_copy C hM_X1_46 (s_row hk1.r2 ad cy _) (s_row hk.r2 ad cy _) (by decide) (by decide) (by decide) ⟨Nat.le_of_ble_eq_true rfl, Nat.le_of_ble_eq_true rfl⟩ (fun f => ws_row hk.r2 ad cy f) eσ4 dX1_copyFrom_35 ?_
  refine g_aload_n C dX1_copyFrom_38 rfl 1 rfl ?_
  refine g_get C (s_isChimes hk1 ad cy _) rfl hin_X1 3 (by decide) hF_X1_18 rfl rfl dX1_copyFrom_39 ?_
  refine g_iconst (v := 0) C dX1_copyFrom_42 (by decide) ?_
  refine g_aload_n C dX1_copyFrom_43 rfl 0 rfl ?_
  refine g_get C (s_isChimes hk ad cy _) rfl hin_X1 3 (by decide) hF_X1_18 rfl rfl dX1_copyFrom_44 ?_
  refine g_iconst (v := 0) C dX1_copyFrom_47 (by decide) ?_
  refine g_bipush (v := 12) C dX1_copyFrom_48 (by decide) ?_
  obtain ⟨σ5, eσ5, hf⟩ := ol_e hf
  refine g_copy C hM_X1_46 (s_row hk1.r3 ad cy _) (s_row hk.r3 ad cy _) (by decide) (by decide) (by decide) ⟨Nat.le_of_ble_eq_true rfl, Nat.le_of_ble_eq_true rfl⟩ (fun f => ws_row hk.r3 ad cy f) eσ5 dX1_copyFrom_50 ?_
  refine g_aload_n C dX1_copyFrom_53 rfl 1 rfl ?_
  refine g_get C (s_isChimes hk1 ad cy _) rfl hin_X1 4 (by decide) hF_X1_21 rfl rfl dX1_copyFrom_54 ?_
  refine g_iconst (v := 0) C dX1_copyFrom_57 (by decide) ?_
  refine g_aload_n C dX1_copyFrom_58 rfl 0 rfl ?_
  refine g_get C (s_isChimes hk ad cy _) rfl hin_X1 4 (by decide) hF_X1_21 rfl rfl dX1_copyFrom_59 ?_
  refine g_iconst (v := 0) C dX1_copyFrom_62 (by decide) ?_
  refine g_bipush (v := 12) C dX1_copyFrom_63 (by decide) ?_
  obtain ⟨σ6, eσ6, hf⟩ := ol_e hf
  refine g_copy C hM_X1_46 (s_row hk1.r4 ad cy _) (s_row hk.r4 ad cy _) (by decide) (by decide) (by decide) ⟨Nat.le_of_ble_eq_true rfl, Nat.le_of_ble_eq_true rfl⟩ (fun f => ws_row hk.r4 ad cy f) eσ6 dX1_copyFrom_65 ?_
  refine g_aload_n C dX1_copyFrom_68 rfl 1 rfl ?_
  refine g_get C (s_isChimes hk1 ad cy _) rfl hin_X1 5 (by decide) hF_X1_24 rfl rfl dX1_copyFrom_69 ?_
  refine g_iconst (v := 0) C dX1_copyFrom_72 (by decide) ?_
  refine g_aload_n C dX1_copyFrom_73 rfl 0 rfl ?_
  refine g_get C (s_isChimes hk ad cy _) rfl hin_X1 5 (by decide) hF_X1_24 rfl rfl dX1_copyFrom_74 ?_
  refine g_iconst (v := 0) C dX1_copyFrom_77 (by decide) ?_
  refine g_bipush (v := 12) C dX1_copyFrom_78 (by decide) ?_
  obtain ⟨σ7, eσ7, hf⟩ := ol_e hf
  refine g_copy C hM_X1_46 (s_row hk1.r5 ad cy _) (s_row hk.r5 ad cy _) (by decide) (by decide) (by decide) ⟨Nat.le_of_ble_eq_true rfl, Nat.le_of_ble_eq_true rfl⟩ (fun f => ws_row hk.r5 ad cy f) eσ7 dX1_copyFrom_80 ?_
  refine g_aload_n C dX1_copyFrom_83 rfl 1 rfl ?_
  refine g_get C (s_isChimes hk1 ad cy _) rfl hin_X1 6 (by decide) hF_X1_27 rfl rfl dX1_copyFrom_84 ?_
  refine g_iconst (v := 0) C dX1_copyFrom_87 (by decide) ?_
  refine g_aload_n C dX1_copyFrom_88 rfl 0 rfl ?_
  refine g_get C (s_isChimes hk ad cy _) rfl hin_X1 6 (by decide) hF_X1_27 rfl rfl dX1_copyFrom_89 ?_
  refine g_iconst (v := 0) C dX1_copyFrom_92 (by decide) ?_
  refine g_bipush (v := 6) C dX1_copyFrom_93 (by decide) ?_
  obtain ⟨σ8, eσ8, hf⟩ := ol_e hf
  refine g_copy C hM_X1_46 (s_row hk1.r6 ad cy _) (s_row hk.r6 ad cy _) (by decide) (by decide) (by decide) ⟨Nat.le_of_ble_eq_true rfl, Nat.le_of_ble_eq_true rfl⟩ (fun f => ws_row hk.r6 ad cy f) eσ8 dX1_copyFrom_95 ?_
  refine g_aload_n C dX1_copyFrom_98 rfl 0 rfl ?_
  refine g_aload_n C dX1_copyFrom_99 rfl 1 rfl ?_
  refine g_get C (s_isChimes hk1 ad cy _) rfl hin_X1 7 (by decide) hF_X1_37 rfl rfl dX1_copyFrom_100 ?_
  obtain ⟨v9, ev9, hf⟩ := ol_e hf
  refine g_nm ev9 ?_
  obtain ⟨σ10, eσ10, hf⟩ := ol_e hf
  refine g_put (ty := .int) C (s_isChimes hk ad cy _) rfl hin_X1 tyX1 tyX1_ok nmX1 7 (by decide) hF_X1_37 rfl rfl (by decide +kernel) rfl rfl (Nat.le_of_ble_eq_true rfl) (ps_isChimes_7 hk ad cy _ _) eσ10 dX1_copyFrom_103 ?_
  refine g_aload_n C dX1_copyFrom_106 rfl 1 rfl ?_
  refine g_get C (s_isChimes hk1 ad cy _) rfl hin_X1 8 (by decide) hF_X1_30 rfl rfl dX1_copyFrom_107 ?_
  refine g_iconst (v := 0) C dX1_copyFrom_110 (by decide) ?_
  refine g_aload_n C dX1_copyFrom_111 rfl 0 rfl ?_
  refine g_get C (s_isChimes hk ad cy _) rfl hin_X1 8 (by decide) hF_X1_30 rfl rfl dX1_copyFrom_112 ?_
  refine g_iconst (v := 0) C dX1_copyFrom_115 (by decide) ?_
  refine g_bipush (v := 12) C dX1_copyFrom_116 (by decide) ?_
  obtain ⟨σ11, eσ11, hf⟩ := ol_e hf
  refine g_copy C hM_X1_46 (s_row hk1.r7 ad cy _) (s_row hk.r7 ad cy _) (by decide) (by decide) (by decide) ⟨Nat.le_of_ble_eq_true rfl, Nat.le_of_ble_eq_true rfl⟩ (fun f => ws_row hk.r7 ad cy f) eσ11 dX1_copyFrom_118 ?_
  obtain ⟨rfl, rfl⟩ := os_e hf
  exact g_vret C rfl dX1_copyFrom_121
theorem c_X1_copyFrom (l : Launch) (dC : Nat → ClassId) (dI : Nat → Nat → Nat) (ad : Nat → Nat) (cy : Nat → ClassId) (k : Nat) (hk : isChimes k) (k1 : Nat) (hk1 : isChimes k1) : ConV l yX1_copyFrom cX1_copyFrom 2 none rm_X1_copyFrom dC dI ad cy [.ref (ad k), .ref (ad k1)] (fun σ => fX1_copyFrom σ k k1) := con_v (own := RX1) (by decide) rfl (Nat.le_of_ble_eq_true rfl) (fun _ _ _ _ _ _ _ _ σ _ _ C hf => fX1_copyFrom_ok C σ k k1 hk hk1 hf)
theorem cal_X1_copyFrom : CalV yX1_copyFrom RX1 cX1_copyFrom 2 none 1 := ⟨hI_X1_copyFrom, hS_X1_copyFrom, hIni_X1, hC_X1_copyFrom, by decide +kernel⟩
abbrev rm_X1_hasBell : Room := { frames := 0, cells := 0, slots := 0, locals := 0 }
def fX1_hasBell (σ : S0) (k : Nat) (x1 : Int32) : Option (Int32 × S0) := if x1 < 0 then (some (0, σ)) else (if (σ k 0) ≤ x1 then (some (0, σ)) else (some (1, σ)))
set_option maxHeartbeats 1000000 in
set_option maxRecDepth 100000 in
theorem fX1_hasBell_ok {p : Program} {l : Launch} {e : Env} {s : State} {m : MethodId} {args : Array Value} {below : List Frame} {meth : Method} {c : Code} {dC : Nat → ClassId} {dI : Nat → Nat → Nat} {ad : Nat → Nat} {cy : Nat → ClassId} {sz : Nat} (C : Cx p s m args meth c RX1 cX1_hasBell 2 (some .boolean) dC dI ad cy sz) {rr : Int32} {ρ : S0} (σ : S0) (k : Nat) (x1 : Int32) (hk : isChimes k) (hf : fX1_hasBell σ k x1 = some (rr, ρ)) : Gw p l e rm_X1_hasBell s m args below meth c (MQ below (QcI dC dI ad cy sz rr ρ) args s 0 0 (AW ad sz)) dC dI ad cy 2 sz 0 0 0 [(0, .ref (ad k)), (1, .int x1)] [] σ := by
  unfold fX1_hasBell at hf
  refine g_iload_n C dX1_hasBell_0 rfl 1 rfl ?_
  rcases oi_e hf with ⟨c1, hf⟩ | ⟨c1, hf⟩
  · refine g_if_lt_t (tgt := 16) C dX1_hasBell_1 (by decide) c1 ?_
    refine g_iconst (v := 0) C dX1_hasBell_16 (by decide) ?_
    obtain ⟨rfl, rfl⟩ := os_e hf
    exact g_zret C rfl (by decide) dX1_hasBell_17
  · refine g_if_lt_f (tgt := 16) C dX1_hasBell_1 (by decide) c1 ?_
    refine g_iload_n C dX1_hasBell_4 rfl 1 rfl ?_
    refine g_aload_n C dX1_hasBell_5 rfl 0 rfl ?_
    refine g_get C (s_isChimes hk ad cy _) rfl hin_X1 0 (by decide) hF_X1_33 rfl rfl dX1_hasBell_6 ?_
    rcases oi_e hf with ⟨c2, hf⟩ | ⟨c2, hf⟩
    · refine g_icmp_ge_t (tgt := 16) C dX1_hasBell_9 (by decide) c2 ?_
      refine g_iconst (v := 0) C dX1_hasBell_16 (by decide) ?_
      obtain ⟨rfl, rfl⟩ := os_e hf
      exact g_zret C rfl (by decide) dX1_hasBell_17
    · refine g_icmp_ge_f (tgt := 16) C dX1_hasBell_9 (by decide) c2 ?_
      refine g_iconst (v := 1) C dX1_hasBell_12 (by decide) ?_
      refine g_goto (tgt := 17) C dX1_hasBell_13 (by decide) ?_
      obtain ⟨rfl, rfl⟩ := os_e hf
      exact g_zret C rfl (by decide) dX1_hasBell_17
theorem c_X1_hasBell (l : Launch) (dC : Nat → ClassId) (dI : Nat → Nat → Nat) (ad : Nat → Nat) (cy : Nat → ClassId) (k : Nat) (hk : isChimes k) (x1 : Int32) : ConI l yX1_hasBell cX1_hasBell 2 (some .boolean) rm_X1_hasBell dC dI ad cy [.ref (ad k), .int x1] (fun σ => fX1_hasBell σ k x1) := con_i (own := RX1) (by decide) rfl (Nat.le_of_ble_eq_true rfl) (fun _ _ _ _ _ _ _ _ σ _ _ C hf => fX1_hasBell_ok C σ k x1 hk hf)
theorem cal_X1_hasBell : CalV yX1_hasBell RX1 cX1_hasBell 2 (some .boolean) 1 := ⟨hI_X1_hasBell, hS_X1_hasBell, hIni_X1, hC_X1_hasBell, by decide +kernel⟩
abbrev rm_X1_areFoes : Room := { frames := 0, cells := 0, slots := 0, locals := 0 }
def fX1_areFoes (σ : S0) (k : Nat) (x1 : Int32) (x2 : Int32) : Option (Int32 × S0) := og (¬ (x1 < 0 ∨ 6 ≤ x1.toNatClampNeg)) (ol (σ (k + 6) x1.toNatClampNeg) (fun v2 => if (v2 &&& ((1 : Int32) <<< (x2 &&& 31))) = 0 then (some (0, σ)) else (some (1, σ))))
set_option maxHeartbeats 1000000 in
set_option maxRecDepth 100000 in
theorem fX1_areFoes_ok {p : Program} {l : Launch} {e : Env} {s : State} {m : MethodId} {args : Array Value} {below : List Frame} {meth : Method} {c : Code} {dC : Nat → ClassId} {dI : Nat → Nat → Nat} {ad : Nat → Nat} {cy : Nat → ClassId} {sz : Nat} (C : Cx p s m args meth c RX1 cX1_areFoes 3 (some .boolean) dC dI ad cy sz) {rr : Int32} {ρ : S0} (σ : S0) (k : Nat) (x1 : Int32) (x2 : Int32) (hk : isChimes k) (hf : fX1_areFoes σ k x1 x2 = some (rr, ρ)) : Gw p l e rm_X1_areFoes s m args below meth c (MQ below (QcI dC dI ad cy sz rr ρ) args s 0 0 (AW ad sz)) dC dI ad cy 3 sz 0 0 0 [(0, .ref (ad k)), (1, .int x1), (2, .int x2)] [] σ := by
  unfold fX1_areFoes at hf
  refine g_aload_n C dX1_areFoes_0 rfl 0 rfl ?_
  refine g_get C (s_isChimes hk ad cy _) rfl hin_X1 6 (by decide) hF_X1_27 rfl rfl dX1_areFoes_1 ?_
  refine g_iload_n C dX1_areFoes_4 rfl 1 rfl ?_
  obtain ⟨h1, hf⟩ := og_e hf
  refine g_iald C (s_row hk.r6 ad cy _) h1 dX1_areFoes_5 ?_
  obtain ⟨v2, ev2, hf⟩ := ol_e hf
  refine g_nm ev2 ?_
  refine g_iconst (v := 1) C dX1_areFoes_6 (by decide) ?_
  refine g_iload_n C dX1_areFoes_7 rfl 2 rfl ?_
  refine g_ishl C dX1_areFoes_8 ?_
  refine g_iand C dX1_areFoes_9 ?_
  rcases oi_e hf with ⟨c3, hf⟩ | ⟨c3, hf⟩
  · refine g_if_eq_t (tgt := 17) C dX1_areFoes_10 (by decide) c3 ?_
    refine g_iconst (v := 0) C dX1_areFoes_17 (by decide) ?_
    obtain ⟨rfl, rfl⟩ := os_e hf
    exact g_zret C rfl (by decide) dX1_areFoes_18
  · refine g_if_eq_f (tgt := 17) C dX1_areFoes_10 (by decide) c3 ?_
    refine g_iconst (v := 1) C dX1_areFoes_13 (by decide) ?_
    refine g_goto (tgt := 18) C dX1_areFoes_14 (by decide) ?_
    obtain ⟨rfl, rfl⟩ := os_e hf
    exact g_zret C rfl (by decide) dX1_areFoes_18
theorem c_X1_areFoes (l : Launch) (dC : Nat → ClassId) (dI : Nat → Nat → Nat) (ad : Nat → Nat) (cy : Nat → ClassId) (k : Nat) (hk : isChimes k) (x1 : Int32) (x2 : Int32) : ConI l yX1_areFoes cX1_areFoes 3 (some .boolean) rm_X1_areFoes dC dI ad cy [.ref (ad k), .int x1, .int x2] (fun σ => fX1_areFoes σ k x1 x2) := con_i (own := RX1) (by decide) rfl (Nat.le_of_ble_eq_true rfl) (fun _ _ _ _ _ _ _ _ σ _ _ C hf => fX1_areFoes_ok C σ k x1 x2 hk hf)
theorem cal_X1_areFoes : CalV yX1_areFoes RX1 cX1_areFoes 3 (some .boolean) 2 := ⟨hI_X1_areFoes, hS_X1_areFoes, hIni_X1, hC_X1_areFoes, by decide +kernel⟩
abbrev rm_X1_setFoes : Room := { frames := 0, cells := 0, slots := 0, locals := 0 }
def fX1_setFoes_b69  (σ : S0) (t0 : Int32) (t1 : Int32) (t2 : Nat) : Option (Int32 × S0) := og (¬ (t1 < 0 ∨ 6 ≤ t1.toNatClampNeg)) (ol (su σ t2 t1.toNatClampNeg t0) (fun σ2 => some (0, σ2)))
set_option maxHeartbeats 1000000 in
set_option maxRecDepth 100000 in
theorem fX1_setFoes_b69_ok {p : Program} {l : Launch} {e : Env} {s : State} {m : MethodId} {args : Array Value} {below : List Frame} {meth : Method} {c : Code} {dC : Nat → ClassId} {dI : Nat → Nat → Nat} {ad : Nat → Nat} {cy : Nat → ClassId} {sz : Nat} (C : Cx p s m args meth c RX1 cX1_setFoes 4 none dC dI ad cy sz) {rr : Int32} {ρ : S0}  (σ : S0) (t0 : Int32) (t1 : Int32) (t2 : Nat) (ht2 : isRow 6 t2) (hf : fX1_setFoes_b69 σ t0 t1 t2 = some (rr, ρ)) : Gw p l e rm_X1_setFoes s m args below meth c (MQ below (QcV dC dI ad cy sz ρ) args s 0 0 (AW ad sz)) dC dI ad cy 4 sz 0 0 69 [] [.int t0, .int t1, .ref (ad t2)] σ := by
  unfold fX1_setFoes_b69 at hf
  obtain ⟨h1, hf⟩ := og_e hf
  obtain ⟨σ2, eσ2, hf⟩ := ol_e hf
  refine g_iast C (s_row ht2 ad cy _) h1 (ws_row ht2 ad cy _) eσ2 dX1_setFoes_69 ?_
  obtain ⟨rfl, rfl⟩ := os_e hf
  exact g_vret C rfl dX1_setFoes_70
def fX1_setFoes_b34  (σ : S0) (k : Nat) (x1 : Int32) (x2 : Int32) (x3 : Int32) (t0 : Int32) (t1 : Int32) (t2 : Nat) : Option (Int32 × S0) := og (¬ (t1 < 0 ∨ 6 ≤ t1.toNatClampNeg)) (ol (su σ t2 t1.toNatClampNeg t0) (fun σ2 => if x3 = 0 then (og (¬ (x2 < 0 ∨ 6 ≤ x2.toNatClampNeg)) (ol (σ2 (k + 6) x2.toNatClampNeg) (fun v5 => fX1_setFoes_b69 σ2 (v5 &&& (((1 : Int32) <<< (x1 &&& 31)) ^^^ ((-1)))) x2 (k + 6)))) else (og (¬ (x2 < 0 ∨ 6 ≤ x2.toNatClampNeg)) (ol (σ2 (k + 6) x2.toNatClampNeg) (fun v7 => fX1_setFoes_b69 σ2 (v7 ||| ((1 : Int32) <<< (x1 &&& 31))) x2 (k + 6))))))
set_option maxHeartbeats 1000000 in
set_option maxRecDepth 100000 in
theorem fX1_setFoes_b34_ok {p : Program} {l : Launch} {e : Env} {s : State} {m : MethodId} {args : Array Value} {below : List Frame} {meth : Method} {c : Code} {dC : Nat → ClassId} {dI : Nat → Nat → Nat} {ad : Nat → Nat} {cy : Nat → ClassId} {sz : Nat} (C : Cx p s m args meth c RX1 cX1_setFoes 4 none dC dI ad cy sz) {rr : Int32} {ρ : S0}  (σ : S0) (k : Nat) (x1 : Int32) (x2 : Int32) (x3 : Int32) (t0 : Int32) (t1 : Int32) (t2 : Nat) (hk : isChimes k) (ht2 : isRow 6 t2) (hf : fX1_setFoes_b34 σ k x1 x2 x3 t0 t1 t2 = some (rr, ρ)) : Gw p l e rm_X1_setFoes s m args below meth c (MQ below (QcV dC dI ad cy sz ρ) args s 0 0 (AW ad sz)) dC dI ad cy 4 sz 0 0 34 [(0, .ref (ad k)), (1, .int x1), (2, .int x2), (3, .int x3)] [.int t0, .int t1, .ref (ad t2)] σ := by
  unfold fX1_setFoes_b34 at hf
  obtain ⟨h1, hf⟩ := og_e hf
  obtain ⟨σ2, eσ2, hf⟩ := ol_e hf
  refine g_iast C (s_row ht2 ad cy _) h1 (ws_row ht2 ad cy _) eσ2 dX1_setFoes_34 ?_
  refine g_aload_n C dX1_setFoes_35 rfl 0 rfl ?_
  refine g_get C (s_isChimes hk ad cy _) rfl hin_X1 6 (by decide) hF_X1_27 rfl rfl dX1_setFoes_36 ?_
  refine g_iload_n C dX1_setFoes_39 rfl 2 rfl ?_
  refine g_iload_n C dX1_setFoes_40 rfl 3 rfl ?_
  rcases oi_e hf with ⟨c3, hf⟩ | ⟨c3, hf⟩
  · refine g_if_eq_t (tgt := 57) C dX1_setFoes_41 (by decide) c3 ?_
    refine g_aload_n C dX1_setFoes_57 rfl 0 rfl ?_
    refine g_get C (s_isChimes hk ad cy _) rfl hin_X1 6 (by decide) hF_X1_27 rfl rfl dX1_setFoes_58 ?_
    refine g_iload_n C dX1_setFoes_61 rfl 2 rfl ?_
    obtain ⟨h4, hf⟩ := og_e hf
    refine g_iald C (s_row hk.r6 ad cy _) h4 dX1_setFoes_62 ?_
    obtain ⟨v5, ev5, hf⟩ := ol_e hf
    refine g_nm ev5 ?_
    refine g_iconst (v := 1) C dX1_setFoes_63 (by decide) ?_
    refine g_iload_n C dX1_setFoes_64 rfl 1 rfl ?_
    refine g_ishl C dX1_setFoes_65 ?_
    refine g_iconst (v := (-1)) C dX1_setFoes_66 (by decide) ?_
    refine g_ixor C dX1_setFoes_67 ?_
    refine g_iand C dX1_setFoes_68 ?_
    exact g_sub [] rfl (fX1_setFoes_b69_ok C σ2 (v5 &&& (((1 : Int32) <<< (x1 &&& 31)) ^^^ ((-1)))) x2 (k + 6) hk.r6 hf)
  · refine g_if_eq_f (tgt := 57) C dX1_setFoes_41 (by decide) c3 ?_
    refine g_aload_n C dX1_setFoes_44 rfl 0 rfl ?_
    refine g_get C (s_isChimes hk ad cy _) rfl hin_X1 6 (by decide) hF_X1_27 rfl rfl dX1_setFoes_45 ?_
    refine g_iload_n C dX1_setFoes_48 rfl 2 rfl ?_
    obtain ⟨h6, hf⟩ := og_e hf
    refine g_iald C (s_row hk.r6 ad cy _) h6 dX1_setFoes_49 ?_
    obtain ⟨v7, ev7, hf⟩ := ol_e hf
    refine g_nm ev7 ?_
    refine g_iconst (v := 1) C dX1_setFoes_50 (by decide) ?_
    refine g_iload_n C dX1_setFoes_51 rfl 1 rfl ?_
    refine g_ishl C dX1_setFoes_52 ?_
    refine g_ior C dX1_setFoes_53 ?_
    refine g_goto (tgt := 69) C dX1_setFoes_54 (by decide) ?_
    exact g_sub [] rfl (fX1_setFoes_b69_ok C σ2 (v7 ||| ((1 : Int32) <<< (x1 &&& 31))) x2 (k + 6) hk.r6 hf)
def fX1_setFoes (σ : S0) (k : Nat) (x1 : Int32) (x2 : Int32) (x3 : Int32) : Option (Int32 × S0) := if x3 = 0 then (og (¬ (x1 < 0 ∨ 6 ≤ x1.toNatClampNeg)) (ol (σ (k + 6) x1.toNatClampNeg) (fun v3 => fX1_setFoes_b34 σ k x1 x2 x3 (v3 &&& (((1 : Int32) <<< (x2 &&& 31)) ^^^ ((-1)))) x1 (k + 6)))) else (og (¬ (x1 < 0 ∨ 6 ≤ x1.toNatClampNeg)) (ol (σ (k + 6) x1.toNatClampNeg) (fun v5 => fX1_setFoes_b34 σ k x1 x2 x3 (v5 ||| ((1 : Int32) <<< (x2 &&& 31))) x1 (k + 6))))
set_option maxHeartbeats 1000000 in
set_option maxRecDepth 100000 in
theorem fX1_setFoes_ok {p : Program} {l : Launch} {e : Env} {s : State} {m : MethodId} {args : Array Value} {below : List Frame} {meth : Method} {c : Code} {dC : Nat → ClassId} {dI : Nat → Nat → Nat} {ad : Nat → Nat} {cy : Nat → ClassId} {sz : Nat} (C : Cx p s m args meth c RX1 cX1_setFoes 4 none dC dI ad cy sz) {rr : Int32} {ρ : S0} (σ : S0) (k : Nat) (x1 : Int32) (x2 : Int32) (x3 : Int32) (hk : isChimes k) (hf : fX1_setFoes σ k x1 x2 x3 = some (rr, ρ)) : Gw p l e rm_X1_setFoes s m args below meth c (MQ below (QcV dC dI ad cy sz ρ) args s 0 0 (AW ad sz)) dC dI ad cy 4 sz 0 0 0 [(0, .ref (ad k)), (1, .int x1), (2, .int x2), (3, .int x3)] [] σ := by
  unfold fX1_setFoes at hf
  refine g_aload_n C dX1_setFoes_0 rfl 0 rfl ?_
  refine g_get C (s_isChimes hk ad cy _) rfl hin_X1 6 (by decide) hF_X1_27 rfl rfl dX1_setFoes_1 ?_
  refine g_iload_n C dX1_setFoes_4 rfl 1 rfl ?_
  refine g_iload_n C dX1_setFoes_5 rfl 3 rfl ?_
  rcases oi_e hf with ⟨c1, hf⟩ | ⟨c1, hf⟩
  · refine g_if_eq_t (tgt := 22) C dX1_setFoes_6 (by decide) c1 ?_
    refine g_aload_n C dX1_setFoes_22 rfl 0 rfl ?_
    refine g_get C (s_isChimes hk ad cy _) rfl hin_X1 6 (by decide) hF_X1_27 rfl rfl dX1_setFoes_23 ?_
    refine g_iload_n C dX1_setFoes_26 rfl 1 rfl ?_
    obtain ⟨h2, hf⟩ := og_e hf
    refine g_iald C (s_row hk.r6 ad cy _) h2 dX1_setFoes_27 ?_
    obtain ⟨v3, ev3, hf⟩ := ol_e hf
    refine g_nm ev3 ?_
    refine g_iconst (v := 1) C dX1_setFoes_28 (by decide) ?_
    refine g_iload_n C dX1_setFoes_29 rfl 2 rfl ?_
    refine g_ishl C dX1_setFoes_30 ?_
    refine g_iconst (v := (-1)) C dX1_setFoes_31 (by decide) ?_
    refine g_ixor C dX1_setFoes_32 ?_
    refine g_iand C dX1_setFoes_33 ?_
    exact g_sub [0, 1, 2, 3] rfl (fX1_setFoes_b34_ok C σ k x1 x2 x3 (v3 &&& (((1 : Int32) <<< (x2 &&& 31)) ^^^ ((-1)))) x1 (k + 6) hk hk.r6 hf)
  · refine g_if_eq_f (tgt := 22) C dX1_setFoes_6 (by decide) c1 ?_
    refine g_aload_n C dX1_setFoes_9 rfl 0 rfl ?_
    refine g_get C (s_isChimes hk ad cy _) rfl hin_X1 6 (by decide) hF_X1_27 rfl rfl dX1_setFoes_10 ?_
    refine g_iload_n C dX1_setFoes_13 rfl 1 rfl ?_
    obtain ⟨h4, hf⟩ := og_e hf
    refine g_iald C (s_row hk.r6 ad cy _) h4 dX1_setFoes_14 ?_
    obtain ⟨v5, ev5, hf⟩ := ol_e hf
    refine g_nm ev5 ?_
    refine g_iconst (v := 1) C dX1_setFoes_15 (by decide) ?_
    refine g_iload_n C dX1_setFoes_16 rfl 2 rfl ?_
    refine g_ishl C dX1_setFoes_17 ?_
    refine g_ior C dX1_setFoes_18 ?_
    refine g_goto (tgt := 34) C dX1_setFoes_19 (by decide) ?_
    exact g_sub [0, 1, 2, 3] rfl (fX1_setFoes_b34_ok C σ k x1 x2 x3 (v5 ||| ((1 : Int32) <<< (x2 &&& 31))) x1 (k + 6) hk hk.r6 hf)
theorem c_X1_setFoes (l : Launch) (dC : Nat → ClassId) (dI : Nat → Nat → Nat) (ad : Nat → Nat) (cy : Nat → ClassId) (k : Nat) (hk : isChimes k) (x1 : Int32) (x2 : Int32) (x3 : Int32) : ConV l yX1_setFoes cX1_setFoes 4 none rm_X1_setFoes dC dI ad cy [.ref (ad k), .int x1, .int x2, .int x3] (fun σ => fX1_setFoes σ k x1 x2 x3) := con_v (own := RX1) (by decide) rfl (Nat.le_of_ble_eq_true rfl) (fun _ _ _ _ _ _ _ _ σ _ _ C hf => fX1_setFoes_ok C σ k x1 x2 x3 hk hf)
theorem cal_X1_setFoes : CalV yX1_setFoes RX1 cX1_setFoes 4 none 3 := ⟨hI_X1_setFoes, hS_X1_setFoes, hIni_X1, hC_X1_setFoes, by decide +kernel⟩
abbrev rm_X1_feudPairs : Room := { frames := 1, cells := 0, slots := 0, locals := 20 }
def fX1_feudPairs_b4 (sf_4 : S0 → Nat → Int32 → Int32 → Option (Int32 × S0)) (σ : S0) (k : Nat) (x1 : Int32) (x2 : Int32) : Option (Int32 × S0) := if (6 : Int32) ≤ x2 then (og (¬ ((2 : Int32)) = 0) (ol (x1 / 2) (fun v3 => some (v3, σ)))) else (og (¬ (x2 < 0 ∨ 6 ≤ x2.toNatClampNeg)) (ol (σ (k + 6) x2.toNatClampNeg) (fun v5 => obp (fJ6_bitCount_0f7a4 σ v5) (fun r6 σ7 => ol (x1 + r6) (fun v9 => ol (x2 + 1) (fun v10 => sf_4 σ7 k v9 v10))))))
set_option maxHeartbeats 1000000 in
set_option maxRecDepth 100000 in
theorem fX1_feudPairs_b4_ok {p : Program} {l : Launch} {e : Env} {s : State} {m : MethodId} {args : Array Value} {below : List Frame} {meth : Method} {c : Code} {dC : Nat → ClassId} {dI : Nat → Nat → Nat} {ad : Nat → Nat} {cy : Nat → ClassId} {sz : Nat} (C : Cx p s m args meth c RX1 cX1_feudPairs 3 (some .int) dC dI ad cy sz) {rr : Int32} {ρ : S0} (sf_4 : S0 → Nat → Int32 → Int32 → Option (Int32 × S0)) (hs_4 : ∀ (σ : S0) (k : Nat) (x1 : Int32) (x2 : Int32) (hk : isChimes k), sf_4 σ k x1 x2 = some (rr, ρ) → Gw p l e rm_X1_feudPairs s m args below meth c (MQ below (QcI dC dI ad cy sz rr ρ) args s 0 0 (AW ad sz)) dC dI ad cy 3 sz 0 0 4 [(0, .ref (ad k)), (1, .int x1), (2, .int x2)] [] σ) (σ : S0) (k : Nat) (x1 : Int32) (x2 : Int32) (hk : isChimes k) (hf : fX1_feudPairs_b4 sf_4 σ k x1 x2 = some (rr, ρ)) : Gw p l e rm_X1_feudPairs s m args below meth c (MQ below (QcI dC dI ad cy sz rr ρ) args s 0 0 (AW ad sz)) dC dI ad cy 3 sz 0 0 4 [(0, .ref (ad k)), (1, .int x1), (2, .int x2)] [] σ := by
  unfold fX1_feudPairs_b4 at hf
  refine g_iload_n C dX1_feudPairs_4 rfl 2 rfl ?_
  refine g_bipush (v := 6) C dX1_feudPairs_5 (by decide) ?_
  rcases oi_e hf with ⟨c1, hf⟩ | ⟨c1, hf⟩
  · refine g_icmp_ge_t (tgt := 28) C dX1_feudPairs_7 (by decide) c1 ?_
    refine g_iload_n C dX1_feudPairs_28 rfl 1 rfl ?_
    refine g_iconst (v := 2) C dX1_feudPairs_29 (by decide) ?_
    obtain ⟨h2, hf⟩ := og_e hf
    refine g_idiv C dX1_feudPairs_30 h2 ?_
    obtain ⟨v3, ev3, hf⟩ := ol_e hf
    refine g_nm ev3 ?_
    obtain ⟨rfl, rfl⟩ := os_e hf
    exact g_iret C rfl dX1_feudPairs_31
  · refine g_icmp_ge_f (tgt := 28) C dX1_feudPairs_7 (by decide) c1 ?_
    refine g_iload_n C dX1_feudPairs_10 rfl 1 rfl ?_
    refine g_aload_n C dX1_feudPairs_11 rfl 0 rfl ?_
    refine g_get C (s_isChimes hk ad cy _) rfl hin_X1 6 (by decide) hF_X1_27 rfl rfl dX1_feudPairs_12 ?_
    refine g_iload_n C dX1_feudPairs_15 rfl 2 rfl ?_
    obtain ⟨h4, hf⟩ := og_e hf
    refine g_iald C (s_row hk.r6 ad cy _) h4 dX1_feudPairs_16 ?_
    obtain ⟨v5, ev5, hf⟩ := ol_e hf
    refine g_nm ev5 ?_
    obtain ⟨r6, σ7, h8, hf⟩ := obp_e hf
    refine g_callSi (As := [.int v5]) (rest := [.int x1]) C (c_J6_bitCount_0f7a4 l dC dI ad cy v5) h8 hM_X1_52 cal_J6_bitCount_0f7a4 ⟨Nat.zero_le _, Nat.zero_le _⟩ ⟨rfl, rfl⟩ ⟨Nat.le_of_ble_eq_true rfl, Nat.le_of_ble_eq_true rfl⟩ rfl rfl (Nat.le_of_ble_eq_true rfl) dX1_feudPairs_17 ?_
    refine g_iadd C dX1_feudPairs_20 ?_
    obtain ⟨v9, ev9, hf⟩ := ol_e hf
    refine g_nm ev9 ?_
    refine g_istore_n (lv2 := [(0, .ref (ad k)), (1, .int v9), (2, .int x2)]) C dX1_feudPairs_21 rfl (by decide) [1, 0, 2] rfl ?_
    obtain ⟨v10, ev10, hf⟩ := ol_e hf
    refine g_iinc (j := 2) (w := 1) (lv2 := [(0, .ref (ad k)), (1, .int v9), (2, .int v10)]) C dX1_feudPairs_22 rfl (by decide) ev10 (by decide) [1, 2, 0] rfl ?_
    refine g_goto (tgt := 4) C dX1_feudPairs_25 (by decide) ?_
    exact g_sub [0, 1, 2] rfl (hs_4 σ7 k v9 v10 hk hf)
def fX1_feudPairs_h4  : Nat → S0 → Nat → Int32 → Int32 → Option (Int32 × S0)
  | 0 => fun _ _ _ _ => none
  | n + 1 => fun σ k x1 x2 => fX1_feudPairs_b4  (fX1_feudPairs_h4  n) σ k x1 x2
set_option maxHeartbeats 1000000 in
set_option maxRecDepth 100000 in
theorem fX1_feudPairs_h4_ok {p : Program} {l : Launch} {e : Env} {s : State} {m : MethodId} {args : Array Value} {below : List Frame} {meth : Method} {c : Code} {dC : Nat → ClassId} {dI : Nat → Nat → Nat} {ad : Nat → Nat} {cy : Nat → ClassId} {sz : Nat} (C : Cx p s m args meth c RX1 cX1_feudPairs 3 (some .int) dC dI ad cy sz) {rr : Int32} {ρ : S0}  : ∀ (n : Nat) (σ : S0) (k : Nat) (x1 : Int32) (x2 : Int32) (hk : isChimes k) (_hf : fX1_feudPairs_h4  n σ k x1 x2 = some (rr, ρ)), Gw p l e rm_X1_feudPairs s m args below meth c (MQ below (QcI dC dI ad cy sz rr ρ) args s 0 0 (AW ad sz)) dC dI ad cy 3 sz 0 0 4 [(0, .ref (ad k)), (1, .int x1), (2, .int x2)] [] σ
  | 0, _, _, _, _, _, hf => by cases hf
  | n + 1, σ, k, x1, x2, hk, hf => fX1_feudPairs_b4_ok C  (fX1_feudPairs_h4  n) (fX1_feudPairs_h4_ok C  n) σ k x1 x2 hk hf
def fX1_feudPairs (σ : S0) (k : Nat) : Option (Int32 × S0) := fX1_feudPairs_h4 400 σ k 0 0
set_option maxHeartbeats 1000000 in
set_option maxRecDepth 100000 in
theorem fX1_feudPairs_ok {p : Program} {l : Launch} {e : Env} {s : State} {m : MethodId} {args : Array Value} {below : List Frame} {meth : Method} {c : Code} {dC : Nat → ClassId} {dI : Nat → Nat → Nat} {ad : Nat → Nat} {cy : Nat → ClassId} {sz : Nat} (C : Cx p s m args meth c RX1 cX1_feudPairs 3 (some .int) dC dI ad cy sz) {rr : Int32} {ρ : S0} (σ : S0) (k : Nat) (hk : isChimes k) (hf : fX1_feudPairs σ k = some (rr, ρ)) : Gw p l e rm_X1_feudPairs s m args below meth c (MQ below (QcI dC dI ad cy sz rr ρ) args s 0 0 (AW ad sz)) dC dI ad cy 3 sz 0 0 0 [(0, .ref (ad k))] [] σ := by
  unfold fX1_feudPairs at hf
  refine g_iconst (v := 0) C dX1_feudPairs_0 (by decide) ?_
  refine g_istore_n (lv2 := [(0, .ref (ad k)), (1, .int 0)]) C dX1_feudPairs_1 rfl (by decide) [1, 0] rfl ?_
  refine g_iconst (v := 0) C dX1_feudPairs_2 (by decide) ?_
  refine g_istore_n (lv2 := [(0, .ref (ad k)), (1, .int 0), (2, .int 0)]) C dX1_feudPairs_3 rfl (by decide) [1, 2, 0] rfl ?_
  exact g_sub [0, 1, 2] rfl (fX1_feudPairs_h4_ok C 400 σ k 0 0 hk hf)
theorem c_X1_feudPairs (l : Launch) (dC : Nat → ClassId) (dI : Nat → Nat → Nat) (ad : Nat → Nat) (cy : Nat → ClassId) (k : Nat) (hk : isChimes k) : ConI l yX1_feudPairs cX1_feudPairs 3 (some .int) rm_X1_feudPairs dC dI ad cy [.ref (ad k)] (fun σ => fX1_feudPairs σ k) := con_i (own := RX1) (by decide) rfl (Nat.le_of_ble_eq_true rfl) (fun _ _ _ _ _ _ _ _ σ _ _ C hf => fX1_feudPairs_ok C σ k hk hf)
theorem cal_X1_feudPairs : CalV yX1_feudPairs RX1 cX1_feudPairs 3 (some .int) 0 := ⟨hI_X1_feudPairs, hS_X1_feudPairs, hIni_X1, hC_X1_feudPairs, by decide +kernel⟩
abbrev rm_X1_partsOf : Room := { frames := 0, cells := 0, slots := 0, locals := 0 }
def fX1_partsOf (σ : S0) (k : Nat) (x1 : Int32) (x2 : Int32) : Option (Int32 × S0) := og (¬ (x2 < 0 ∨ 12 ≤ x2.toNatClampNeg)) (ol (σ (k + 1) x2.toNatClampNeg) (fun v2 => if ¬ v2 = x1 then (og (¬ (x2 < 0 ∨ 12 ≤ x2.toNatClampNeg)) (ol (σ (k + 5) x2.toNatClampNeg) (fun v5 => if ¬ v5 = x1 then (some (0, σ)) else (some (1, σ))))) else (og (¬ (x2 < 0 ∨ 12 ≤ x2.toNatClampNeg)) (ol (σ (k + 5) x2.toNatClampNeg) (fun v8 => if ¬ v8 = ((-4)) then (some (1, σ)) else (some (2, σ)))))))
set_option maxHeartbeats 1000000 in
set_option maxRecDepth 100000 in
theorem fX1_partsOf_ok {p : Program} {l : Launch} {e : Env} {s : State} {m : MethodId} {args : Array Value} {below : List Frame} {meth : Method} {c : Code} {dC : Nat → ClassId} {dI : Nat → Nat → Nat} {ad : Nat → Nat} {cy : Nat → ClassId} {sz : Nat} (C : Cx p s m args meth c RX1 cX1_partsOf 3 (some .int) dC dI ad cy sz) {rr : Int32} {ρ : S0} (σ : S0) (k : Nat) (x1 : Int32) (x2 : Int32) (hk : isChimes k) (hf : fX1_partsOf σ k x1 x2 = some (rr, ρ)) : Gw p l e rm_X1_partsOf s m args below meth c (MQ below (QcI dC dI ad cy sz rr ρ) args s 0 0 (AW ad sz)) dC dI ad cy 3 sz 0 0 0 [(0, .ref (ad k)), (1, .int x1), (2, .int x2)] [] σ := by
  unfold fX1_partsOf at hf
  refine g_aload_n C dX1_partsOf_0 rfl 0 rfl ?_
  refine g_get C (s_isChimes hk ad cy _) rfl hin_X1 1 (by decide) hF_X1_9 rfl rfl dX1_partsOf_1 ?_
  refine g_iload_n C dX1_partsOf_4 rfl 2 rfl ?_
  obtain ⟨h1, hf⟩ := og_e hf
  refine g_iald C (s_row hk.r1 ad cy _) h1 dX1_partsOf_5 ?_
  obtain ⟨v2, ev2, hf⟩ := ol_e hf
  refine g_nm ev2 ?_
  refine g_iload_n C dX1_partsOf_6 rfl 1 rfl ?_
  rcases oi_e hf with ⟨c3, hf⟩ | ⟨c3, hf⟩
  · refine g_icmp_ne_t (tgt := 27) C dX1_partsOf_7 (by decide) c3 ?_
    refine g_aload_n C dX1_partsOf_27 rfl 0 rfl ?_
    refine g_get C (s_isChimes hk ad cy _) rfl hin_X1 5 (by decide) hF_X1_24 rfl rfl dX1_partsOf_28 ?_
    refine g_iload_n C dX1_partsOf_31 rfl 2 rfl ?_
    obtain ⟨h4, hf⟩ := og_e hf
    refine g_iald C (s_row hk.r5 ad cy _) h4 dX1_partsOf_32 ?_
    obtain ⟨v5, ev5, hf⟩ := ol_e hf
    refine g_nm ev5 ?_
    refine g_iload_n C dX1_partsOf_33 rfl 1 rfl ?_
    rcases oi_e hf with ⟨c6, hf⟩ | ⟨c6, hf⟩
    · refine g_icmp_ne_t (tgt := 41) C dX1_partsOf_34 (by decide) c6 ?_
      refine g_iconst (v := 0) C dX1_partsOf_41 (by decide) ?_
      obtain ⟨rfl, rfl⟩ := os_e hf
      exact g_iret C rfl dX1_partsOf_42
    · refine g_icmp_ne_f (tgt := 41) C dX1_partsOf_34 (by decide) (Decidable.of_not_not c6) ?_
      refine g_iconst (v := 1) C dX1_partsOf_37 (by decide) ?_
      refine g_goto (tgt := 42) C dX1_partsOf_38 (by decide) ?_
      obtain ⟨rfl, rfl⟩ := os_e hf
      exact g_iret C rfl dX1_partsOf_42
  · refine g_icmp_ne_f (tgt := 27) C dX1_partsOf_7 (by decide) (Decidable.of_not_not c3) ?_
    refine g_aload_n C dX1_partsOf_10 rfl 0 rfl ?_
    refine g_get C (s_isChimes hk ad cy _) rfl hin_X1 5 (by decide) hF_X1_24 rfl rfl dX1_partsOf_11 ?_
    refine g_iload_n C dX1_partsOf_14 rfl 2 rfl ?_
    obtain ⟨h7, hf⟩ := og_e hf
    refine g_iald C (s_row hk.r5 ad cy _) h7 dX1_partsOf_15 ?_
    obtain ⟨v8, ev8, hf⟩ := ol_e hf
    refine g_nm ev8 ?_
    refine g_bipush (v := (-4)) C dX1_partsOf_16 (by decide) ?_
    rcases oi_e hf with ⟨c9, hf⟩ | ⟨c9, hf⟩
    · refine g_icmp_ne_t (tgt := 25) C dX1_partsOf_18 (by decide) c9 ?_
      refine g_iconst (v := 1) C dX1_partsOf_25 (by decide) ?_
      obtain ⟨rfl, rfl⟩ := os_e hf
      exact g_iret C rfl dX1_partsOf_26
    · refine g_icmp_ne_f (tgt := 25) C dX1_partsOf_18 (by decide) (Decidable.of_not_not c9) ?_
      refine g_iconst (v := 2) C dX1_partsOf_21 (by decide) ?_
      refine g_goto (tgt := 26) C dX1_partsOf_22 (by decide) ?_
      obtain ⟨rfl, rfl⟩ := os_e hf
      exact g_iret C rfl dX1_partsOf_26
theorem c_X1_partsOf (l : Launch) (dC : Nat → ClassId) (dI : Nat → Nat → Nat) (ad : Nat → Nat) (cy : Nat → ClassId) (k : Nat) (hk : isChimes k) (x1 : Int32) (x2 : Int32) : ConI l yX1_partsOf cX1_partsOf 3 (some .int) rm_X1_partsOf dC dI ad cy [.ref (ad k), .int x1, .int x2] (fun σ => fX1_partsOf σ k x1 x2) := con_i (own := RX1) (by decide) rfl (Nat.le_of_ble_eq_true rfl) (fun _ _ _ _ _ _ _ _ σ _ _ C hf => fX1_partsOf_ok C σ k x1 x2 hk hf)
theorem cal_X1_partsOf : CalV yX1_partsOf RX1 cX1_partsOf 3 (some .int) 2 := ⟨hI_X1_partsOf, hS_X1_partsOf, hIni_X1, hC_X1_partsOf, by decide +kernel⟩
abbrev rm_X1_shareOf : Room := { frames := 1, cells := 0, slots := 0, locals := 22 }
def fX1_shareOf (σ : S0) (k : Nat) (x1 : Int32) (x2 : Int32) : Option (Int32 × S0) := obp (fX1_partsOf σ k x1 x2) (fun r1 σ2 => og (¬ (x2 < 0 ∨ 12 ≤ x2.toNatClampNeg)) (ol (σ2 (k + 2) x2.toNatClampNeg) (fun v5 => some (r1 * v5, σ2))))
set_option maxHeartbeats 1000000 in
set_option maxRecDepth 100000 in
theorem fX1_shareOf_ok {p : Program} {l : Launch} {e : Env} {s : State} {m : MethodId} {args : Array Value} {below : List Frame} {meth : Method} {c : Code} {dC : Nat → ClassId} {dI : Nat → Nat → Nat} {ad : Nat → Nat} {cy : Nat → ClassId} {sz : Nat} (C : Cx p s m args meth c RX1 cX1_shareOf 3 (some .int) dC dI ad cy sz) {rr : Int32} {ρ : S0} (σ : S0) (k : Nat) (x1 : Int32) (x2 : Int32) (hk : isChimes k) (hf : fX1_shareOf σ k x1 x2 = some (rr, ρ)) : Gw p l e rm_X1_shareOf s m args below meth c (MQ below (QcI dC dI ad cy sz rr ρ) args s 0 0 (AW ad sz)) dC dI ad cy 3 sz 0 0 0 [(0, .ref (ad k)), (1, .int x1), (2, .int x2)] [] σ := by
  unfold fX1_shareOf at hf
  refine g_aload_n C dX1_shareOf_0 rfl 0 rfl ?_
  refine g_iload_n C dX1_shareOf_1 rfl 1 rfl ?_
  refine g_iload_n C dX1_shareOf_2 rfl 2 rfl ?_
  obtain ⟨r1, σ2, h3, hf⟩ := obp_e hf
  refine g_callVi (As := [.int x1, .int x2]) (rest := []) C (s_isChimes hk ad cy _) rfl (c_X1_partsOf l dC dI ad cy k hk x1 x2) h3 hM_X1_58 cal_X1_partsOf ⟨Nat.zero_le _, Nat.zero_le _⟩ ⟨rfl, rfl⟩ ⟨Nat.le_of_ble_eq_true rfl, Nat.le_of_ble_eq_true rfl⟩ rfl rfl (Nat.le_of_ble_eq_true rfl) dX1_shareOf_3 ?_
  refine g_aload_n C dX1_shareOf_6 rfl 0 rfl ?_
  refine g_get C (s_isChimes hk ad cy _) rfl hin_X1 2 (by decide) hF_X1_15 rfl rfl dX1_shareOf_7 ?_
  refine g_iload_n C dX1_shareOf_10 rfl 2 rfl ?_
  obtain ⟨h4, hf⟩ := og_e hf
  refine g_iald C (s_row hk.r2 ad cy _) h4 dX1_shareOf_11 ?_
  obtain ⟨v5, ev5, hf⟩ := ol_e hf
  refine g_nm ev5 ?_
  refine g_imul C dX1_shareOf_12 ?_
  obtain ⟨rfl, rfl⟩ := os_e hf
  exact g_iret C rfl dX1_shareOf_13
theorem c_X1_shareOf (l : Launch) (dC : Nat → ClassId) (dI : Nat → Nat → Nat) (ad : Nat → Nat) (cy : Nat → ClassId) (k : Nat) (hk : isChimes k) (x1 : Int32) (x2 : Int32) : ConI l yX1_shareOf cX1_shareOf 3 (some .int) rm_X1_shareOf dC dI ad cy [.ref (ad k), .int x1, .int x2] (fun σ => fX1_shareOf σ k x1 x2) := con_i (own := RX1) (by decide) rfl (Nat.le_of_ble_eq_true rfl) (fun _ _ _ _ _ _ _ _ σ _ _ C hf => fX1_shareOf_ok C σ k x1 x2 hk hf)
theorem cal_X1_shareOf : CalV yX1_shareOf RX1 cX1_shareOf 3 (some .int) 2 := ⟨hI_X1_shareOf, hS_X1_shareOf, hIni_X1, hC_X1_shareOf, by decide +kernel⟩
abbrev rm_X1_canBeHeard : Room := { frames := 1, cells := 0, slots := 0, locals := 21 }
def fX1_canBeHeard_b14  (σ : S0)  : Option (Int32 × S0) := some (1, σ)
set_option maxHeartbeats 1000000 in
set_option maxRecDepth 100000 in
theorem fX1_canBeHeard_b14_ok {p : Program} {l : Launch} {e : Env} {s : State} {m : MethodId} {args : Array Value} {below : List Frame} {meth : Method} {c : Code} {dC : Nat → ClassId} {dI : Nat → Nat → Nat} {ad : Nat → Nat} {cy : Nat → ClassId} {sz : Nat} (C : Cx p s m args meth c RX1 cX1_canBeHeard 2 (some .boolean) dC dI ad cy sz) {rr : Int32} {ρ : S0}  (σ : S0)   (hf : fX1_canBeHeard_b14 σ = some (rr, ρ)) : Gw p l e rm_X1_canBeHeard s m args below meth c (MQ below (QcI dC dI ad cy sz rr ρ) args s 0 0 (AW ad sz)) dC dI ad cy 2 sz 0 0 14 [] [] σ := by
  unfold fX1_canBeHeard_b14 at hf
  refine g_iconst (v := 1) C dX1_canBeHeard_14 (by decide) ?_
  refine g_goto (tgt := 19) C dX1_canBeHeard_15 (by decide) ?_
  obtain ⟨rfl, rfl⟩ := os_e hf
  exact g_zret C rfl (by decide) dX1_canBeHeard_19
def fX1_canBeHeard (σ : S0) (k : Nat) (x1 : Int32) : Option (Int32 × S0) := if x1 = ((-4)) then (fX1_canBeHeard_b14 σ) else (obp (fX1_hasBell σ k x1) (fun r2 σ3 => if r2 = 0 then (some (0, σ3)) else (fX1_canBeHeard_b14 σ3)))
set_option maxHeartbeats 1000000 in
set_option maxRecDepth 100000 in
theorem fX1_canBeHeard_ok {p : Program} {l : Launch} {e : Env} {s : State} {m : MethodId} {args : Array Value} {below : List Frame} {meth : Method} {c : Code} {dC : Nat → ClassId} {dI : Nat → Nat → Nat} {ad : Nat → Nat} {cy : Nat → ClassId} {sz : Nat} (C : Cx p s m args meth c RX1 cX1_canBeHeard 2 (some .boolean) dC dI ad cy sz) {rr : Int32} {ρ : S0} (σ : S0) (k : Nat) (x1 : Int32) (hk : isChimes k) (hf : fX1_canBeHeard σ k x1 = some (rr, ρ)) : Gw p l e rm_X1_canBeHeard s m args below meth c (MQ below (QcI dC dI ad cy sz rr ρ) args s 0 0 (AW ad sz)) dC dI ad cy 2 sz 0 0 0 [(0, .ref (ad k)), (1, .int x1)] [] σ := by
  unfold fX1_canBeHeard at hf
  refine g_iload_n C dX1_canBeHeard_0 rfl 1 rfl ?_
  refine g_bipush (v := (-4)) C dX1_canBeHeard_1 (by decide) ?_
  rcases oi_e hf with ⟨c1, hf⟩ | ⟨c1, hf⟩
  · refine g_icmp_eq_t (tgt := 14) C dX1_canBeHeard_3 (by decide) c1 ?_
    exact g_sub [] rfl (fX1_canBeHeard_b14_ok C σ hf)
  · refine g_icmp_eq_f (tgt := 14) C dX1_canBeHeard_3 (by decide) c1 ?_
    refine g_aload_n C dX1_canBeHeard_6 rfl 0 rfl ?_
    refine g_iload_n C dX1_canBeHeard_7 rfl 1 rfl ?_
    obtain ⟨r2, σ3, h4, hf⟩ := obp_e hf
    refine g_callVi (As := [.int x1]) (rest := []) C (s_isChimes hk ad cy _) rfl (c_X1_hasBell l dC dI ad cy k hk x1) h4 hM_X1_62 cal_X1_hasBell ⟨Nat.zero_le _, Nat.zero_le _⟩ ⟨rfl, rfl⟩ ⟨Nat.le_of_ble_eq_true rfl, Nat.le_of_ble_eq_true rfl⟩ rfl rfl (Nat.le_of_ble_eq_true rfl) dX1_canBeHeard_8 ?_
    rcases oi_e hf with ⟨c5, hf⟩ | ⟨c5, hf⟩
    · refine g_if_eq_t (tgt := 18) C dX1_canBeHeard_11 (by decide) c5 ?_
      refine g_iconst (v := 0) C dX1_canBeHeard_18 (by decide) ?_
      obtain ⟨rfl, rfl⟩ := os_e hf
      exact g_zret C rfl (by decide) dX1_canBeHeard_19
    · refine g_if_eq_f (tgt := 18) C dX1_canBeHeard_11 (by decide) c5 ?_
      exact g_sub [] rfl (fX1_canBeHeard_b14_ok C σ3 hf)
theorem c_X1_canBeHeard (l : Launch) (dC : Nat → ClassId) (dI : Nat → Nat → Nat) (ad : Nat → Nat) (cy : Nat → ClassId) (k : Nat) (hk : isChimes k) (x1 : Int32) : ConI l yX1_canBeHeard cX1_canBeHeard 2 (some .boolean) rm_X1_canBeHeard dC dI ad cy [.ref (ad k), .int x1] (fun σ => fX1_canBeHeard σ k x1) := con_i (own := RX1) (by decide) rfl (Nat.le_of_ble_eq_true rfl) (fun _ _ _ _ _ _ _ _ σ _ _ C hf => fX1_canBeHeard_ok C σ k x1 hk hf)
theorem cal_X1_canBeHeard : CalV yX1_canBeHeard RX1 cX1_canBeHeard 2 (some .boolean) 1 := ⟨hI_X1_canBeHeard, hS_X1_canBeHeard, hIni_X1, hC_X1_canBeHeard, by decide +kernel⟩
abbrev rm_X1_addHeard : Room := { frames := 0, cells := 0, slots := 0, locals := 0 }
def fX1_addHeard (σ : S0) (k : Nat) (x1 : Int32) : Option (Int32 × S0) := if (12 : Int32) ≤ (σ k 7) then (some (0, σ)) else (ol (σ k 7) (fun v2 => og (¬ (v2 < 0 ∨ 12 ≤ v2.toNatClampNeg)) (ol (su σ (k + 7) v2.toNatClampNeg x1) (fun σ4 => ol ((σ4 k 7) + 1) (fun v5 => ol (su σ4 k 7 v5) (fun σ6 => some (0, σ6)))))))
set_option maxHeartbeats 1000000 in
set_option maxRecDepth 100000 in
theorem fX1_addHeard_ok {p : Program} {l : Launch} {e : Env} {s : State} {m : MethodId} {args : Array Value} {below : List Frame} {meth : Method} {c : Code} {dC : Nat → ClassId} {dI : Nat → Nat → Nat} {ad : Nat → Nat} {cy : Nat → ClassId} {sz : Nat} (C : Cx p s m args meth c RX1 cX1_addHeard 2 none dC dI ad cy sz) {rr : Int32} {ρ : S0} (σ : S0) (k : Nat) (x1 : Int32) (hk : isChimes k) (hf : fX1_addHeard σ k x1 = some (rr, ρ)) : Gw p l e rm_X1_addHeard s m args below meth c (MQ below (QcV dC dI ad cy sz ρ) args s 0 0 (AW ad sz)) dC dI ad cy 2 sz 0 0 0 [(0, .ref (ad k)), (1, .int x1)] [] σ := by
  unfold fX1_addHeard at hf
  refine g_aload_n C dX1_addHeard_0 rfl 0 rfl ?_
  refine g_get C (s_isChimes hk ad cy _) rfl hin_X1 7 (by decide) hF_X1_37 rfl rfl dX1_addHeard_1 ?_
  refine g_bipush (v := 12) C dX1_addHeard_4 (by decide) ?_
  rcases oi_e hf with ⟨c1, hf⟩ | ⟨c1, hf⟩
  · refine g_icmp_ge_t (tgt := 29) C dX1_addHeard_6 (by decide) c1 ?_
    obtain ⟨rfl, rfl⟩ := os_e hf
    exact g_vret C rfl dX1_addHeard_29
  · refine g_icmp_ge_f (tgt := 29) C dX1_addHeard_6 (by decide) c1 ?_
    refine g_aload_n C dX1_addHeard_9 rfl 0 rfl ?_
    refine g_get C (s_isChimes hk ad cy _) rfl hin_X1 8 (by decide) hF_X1_30 rfl rfl dX1_addHeard_10 ?_
    refine g_aload_n C dX1_addHeard_13 rfl 0 rfl ?_
    refine g_get C (s_isChimes hk ad cy _) rfl hin_X1 7 (by decide) hF_X1_37 rfl rfl dX1_addHeard_14 ?_
    refine g_iload_n C dX1_addHeard_17 rfl 1 rfl ?_
    obtain ⟨v2, ev2, hf⟩ := ol_e hf
    refine g_nm2 ev2 ?_
    obtain ⟨h3, hf⟩ := og_e hf
    obtain ⟨σ4, eσ4, hf⟩ := ol_e hf
    refine g_iast C (s_row hk.r7 ad cy _) h3 (ws_row hk.r7 ad cy _) eσ4 dX1_addHeard_18 ?_
    refine g_aload_n C dX1_addHeard_19 rfl 0 rfl ?_
    refine g_dup C dX1_addHeard_20 rfl ?_
    refine g_get C (s_isChimes hk ad cy _) rfl hin_X1 7 (by decide) hF_X1_37 rfl rfl dX1_addHeard_21 ?_
    refine g_iconst (v := 1) C dX1_addHeard_24 (by decide) ?_
    refine g_iadd C dX1_addHeard_25 ?_
    obtain ⟨v5, ev5, hf⟩ := ol_e hf
    refine g_nm ev5 ?_
    obtain ⟨σ6, eσ6, hf⟩ := ol_e hf
    refine g_put (ty := .int) C (s_isChimes hk ad cy _) rfl hin_X1 tyX1 tyX1_ok nmX1 7 (by decide) hF_X1_37 rfl rfl (by decide +kernel) rfl rfl (Nat.le_of_ble_eq_true rfl) (ps_isChimes_7 hk ad cy _ _) eσ6 dX1_addHeard_26 ?_
    obtain ⟨rfl, rfl⟩ := os_e hf
    exact g_vret C rfl dX1_addHeard_29
theorem c_X1_addHeard (l : Launch) (dC : Nat → ClassId) (dI : Nat → Nat → Nat) (ad : Nat → Nat) (cy : Nat → ClassId) (k : Nat) (hk : isChimes k) (x1 : Int32) : ConV l yX1_addHeard cX1_addHeard 2 none rm_X1_addHeard dC dI ad cy [.ref (ad k), .int x1] (fun σ => fX1_addHeard σ k x1) := con_v (own := RX1) (by decide) rfl (Nat.le_of_ble_eq_true rfl) (fun _ _ _ _ _ _ _ _ σ _ _ C hf => fX1_addHeard_ok C σ k x1 hk hf)
theorem cal_X1_addHeard : CalV yX1_addHeard RX1 cX1_addHeard 2 none 1 := ⟨hI_X1_addHeard, hS_X1_addHeard, hIni_X1, hC_X1_addHeard, by decide +kernel⟩
abbrev rm_X7_isNothing : Room := { frames := 0, cells := 0, slots := 0, locals := 0 }
def fX7_isNothing (σ : S0) (k : Nat) : Option (Int32 × S0) := if ¬ (σ k 0) = ((-1)) then (some (0, σ)) else (some (1, σ))
set_option maxHeartbeats 1000000 in
set_option maxRecDepth 100000 in
theorem fX7_isNothing_ok {p : Program} {l : Launch} {e : Env} {s : State} {m : MethodId} {args : Array Value} {below : List Frame} {meth : Method} {c : Code} {dC : Nat → ClassId} {dI : Nat → Nat → Nat} {ad : Nat → Nat} {cy : Nat → ClassId} {sz : Nat} (C : Cx p s m args meth c RX7 cX7_isNothing 1 (some .boolean) dC dI ad cy sz) {rr : Int32} {ρ : S0} (σ : S0) (k : Nat) (hk : isSheet k) (hf : fX7_isNothing σ k = some (rr, ρ)) : Gw p l e rm_X7_isNothing s m args below meth c (MQ below (QcI dC dI ad cy sz rr ρ) args s 0 0 (AW ad sz)) dC dI ad cy 1 sz 0 0 0 [(0, .ref (ad k))] [] σ := by
  unfold fX7_isNothing at hf
  refine g_aload_n C dX7_isNothing_0 rfl 0 rfl ?_
  refine g_get C (s_isSheet hk ad cy _) rfl hin_X7 0 (by decide) hF_X7_11 rfl rfl dX7_isNothing_1 ?_
  refine g_iconst (v := (-1)) C dX7_isNothing_4 (by decide) ?_
  rcases oi_e hf with ⟨c1, hf⟩ | ⟨c1, hf⟩
  · refine g_icmp_ne_t (tgt := 12) C dX7_isNothing_5 (by decide) c1 ?_
    refine g_iconst (v := 0) C dX7_isNothing_12 (by decide) ?_
    obtain ⟨rfl, rfl⟩ := os_e hf
    exact g_zret C rfl (by decide) dX7_isNothing_13
  · refine g_icmp_ne_f (tgt := 12) C dX7_isNothing_5 (by decide) (Decidable.of_not_not c1) ?_
    refine g_iconst (v := 1) C dX7_isNothing_8 (by decide) ?_
    refine g_goto (tgt := 13) C dX7_isNothing_9 (by decide) ?_
    obtain ⟨rfl, rfl⟩ := os_e hf
    exact g_zret C rfl (by decide) dX7_isNothing_13
theorem c_X7_isNothing (l : Launch) (dC : Nat → ClassId) (dI : Nat → Nat → Nat) (ad : Nat → Nat) (cy : Nat → ClassId) (k : Nat) (hk : isSheet k) : ConI l yX7_isNothing cX7_isNothing 1 (some .boolean) rm_X7_isNothing dC dI ad cy [.ref (ad k)] (fun σ => fX7_isNothing σ k) := con_i (own := RX7) (by decide) rfl (Nat.le_of_ble_eq_true rfl) (fun _ _ _ _ _ _ _ _ σ _ _ C hf => fX7_isNothing_ok C σ k hk hf)
theorem cal_X7_isNothing : CalV yX7_isNothing RX7 cX7_isNothing 1 (some .boolean) 0 := ⟨hI_X7_isNothing, hS_X7_isNothing, hIni_X7, hC_X7_isNothing, by decide +kernel⟩
abbrev rm_X7_renew : Room := { frames := 1, cells := 0, slots := 0, locals := 23 }
def fX7_renew (σ : S0) (k : Nat) (x1 : Int32) (x2 : Int32) : Option (Int32 × S0) := ol (su σ k 0 x1) (fun σ1 => ol (su σ1 k 1 x2) (fun σ2 => obp (fJ7_fill_53178 σ2 40 (k + 1) ((0 : Int32))) (fun r3 σ4 => some (0, σ4))))
set_option maxHeartbeats 1000000 in
set_option maxRecDepth 100000 in
theorem fX7_renew_ok {p : Program} {l : Launch} {e : Env} {s : State} {m : MethodId} {args : Array Value} {below : List Frame} {meth : Method} {c : Code} {dC : Nat → ClassId} {dI : Nat → Nat → Nat} {ad : Nat → Nat} {cy : Nat → ClassId} {sz : Nat} (C : Cx p s m args meth c RX7 cX7_renew 3 none dC dI ad cy sz) {rr : Int32} {ρ : S0} (σ : S0) (k : Nat) (x1 : Int32) (x2 : Int32) (hk : isSheet k) (hf : fX7_renew σ k x1 x2 = some (rr, ρ)) : Gw p l e rm_X7_renew s m args below meth c (MQ below (QcV dC dI ad cy sz ρ) args s 0 0 (AW ad sz)) dC dI ad cy 3 sz 0 0 0 [(0, .ref (ad k)), (1, .int x1), (2, .int x2)] [] σ := by
  unfold fX7_renew at hf
  refine g_aload_n C dX7_renew_0 rfl 0 rfl ?_
  refine g_iload_n C dX7_renew_1 rfl 1 rfl ?_
  obtain ⟨σ1, eσ1, hf⟩ := ol_e hf
  refine g_put (ty := .int) C (s_isSheet hk ad cy _) rfl hin_X7 tyX7 tyX7_ok nmX7 0 (by decide) hF_X7_11 rfl rfl (by decide +kernel) rfl rfl (Nat.le_of_ble_eq_true rfl) (ps_isSheet_0 hk ad cy _ _) eσ1 dX7_renew_2 ?_
  refine g_aload_n C dX7_renew_5 rfl 0 rfl ?_
  refine g_iload_n C dX7_renew_6 rfl 2 rfl ?_
  obtain ⟨σ2, eσ2, hf⟩ := ol_e hf
  refine g_put (ty := .int) C (s_isSheet hk ad cy _) rfl hin_X7 tyX7 tyX7_ok nmX7 1 (by decide) hF_X7_19 rfl rfl (by decide +kernel) rfl rfl (Nat.le_of_ble_eq_true rfl) (ps_isSheet_1 hk ad cy _ _) eσ2 dX7_renew_7 ?_
  refine g_aload_n C dX7_renew_10 rfl 0 rfl ?_
  refine g_get C (s_isSheet hk ad cy _) rfl hin_X7 2 (by decide) hF_X7_15 rfl rfl dX7_renew_11 ?_
  refine g_iconst (v := 0) C dX7_renew_14 (by decide) ?_
  obtain ⟨r3, σ4, h5, hf⟩ := obp_e hf
  refine g_callSv (As := [.ref (ad (k + 1)), .int 0]) (rest := []) C (c_J7_fill_53178 l dC dI ad cy 40 (k + 1) hk.r1 ((0 : Int32))) h5 hM_X7_22 cal_J7_fill_53178 ⟨Nat.zero_le _, Nat.zero_le _⟩ ⟨rfl, rfl⟩ ⟨Nat.le_of_ble_eq_true rfl, Nat.le_of_ble_eq_true rfl⟩ rfl rfl (Nat.le_of_ble_eq_true rfl) dX7_renew_15 ?_
  obtain ⟨rfl, rfl⟩ := os_e hf
  exact g_vret C rfl dX7_renew_18
theorem c_X7_renew (l : Launch) (dC : Nat → ClassId) (dI : Nat → Nat → Nat) (ad : Nat → Nat) (cy : Nat → ClassId) (k : Nat) (hk : isSheet k) (x1 : Int32) (x2 : Int32) : ConV l yX7_renew cX7_renew 3 none rm_X7_renew dC dI ad cy [.ref (ad k), .int x1, .int x2] (fun σ => fX7_renew σ k x1 x2) := con_v (own := RX7) (by decide) rfl (Nat.le_of_ble_eq_true rfl) (fun _ _ _ _ _ _ _ _ σ _ _ C hf => fX7_renew_ok C σ k x1 x2 hk hf)
theorem cal_X7_renew : CalV yX7_renew RX7 cX7_renew 3 none 2 := ⟨hI_X7_renew, hS_X7_renew, hIni_X7, hC_X7_renew, by decide +kernel⟩
abbrev rm_X7_faultAt : Room := { frames := 1, cells := 0, slots := 0, locals := 20 }
def fX7_faultAt_b31  (σ : S0)  : Option (Int32 × S0) := some (2, σ)
set_option maxHeartbeats 1000000 in
set_option maxRecDepth 100000 in
theorem fX7_faultAt_b31_ok {p : Program} {l : Launch} {e : Env} {s : State} {m : MethodId} {args : Array Value} {below : List Frame} {meth : Method} {c : Code} {dC : Nat → ClassId} {dI : Nat → Nat → Nat} {ad : Nat → Nat} {cy : Nat → ClassId} {sz : Nat} (C : Cx p s m args meth c RX7 cX7_faultAt 3 (some .int) dC dI ad cy sz) {rr : Int32} {ρ : S0}  (σ : S0)   (hf : fX7_faultAt_b31 σ = some (rr, ρ)) : Gw p l e rm_X7_faultAt s m args below meth c (MQ below (QcI dC dI ad cy sz rr ρ) args s 0 0 (AW ad sz)) dC dI ad cy 3 sz 0 0 31 [] [] σ := by
  unfold fX7_faultAt_b31 at hf
  refine g_iconst (v := 2) C dX7_faultAt_31 (by decide) ?_
  refine g_goto (tgt := 36) C dX7_faultAt_32 (by decide) ?_
  obtain ⟨rfl, rfl⟩ := os_e hf
  exact g_iret C rfl dX7_faultAt_36
def fX7_faultAt (σ : S0) (k : Nat) (x1 : Int32) (x2 : Int32) : Option (Int32 × S0) := obp (fX7_isNothing σ k) (fun r1 σ2 => if r1 = 0 then (if x1 = (σ2 k 0) then (if x2 < 0 then (fX7_faultAt_b31 σ2) else (if x2 < (σ2 k 1) then (some (0, σ2)) else (fX7_faultAt_b31 σ2))) else (some (3, σ2))) else (some (1, σ2)))
set_option maxHeartbeats 1000000 in
set_option maxRecDepth 100000 in
theorem fX7_faultAt_ok {p : Program} {l : Launch} {e : Env} {s : State} {m : MethodId} {args : Array Value} {below : List Frame} {meth : Method} {c : Code} {dC : Nat → ClassId} {dI : Nat → Nat → Nat} {ad : Nat → Nat} {cy : Nat → ClassId} {sz : Nat} (C : Cx p s m args meth c RX7 cX7_faultAt 3 (some .int) dC dI ad cy sz) {rr : Int32} {ρ : S0} (σ : S0) (k : Nat) (x1 : Int32) (x2 : Int32) (hk : isSheet k) (hf : fX7_faultAt σ k x1 x2 = some (rr, ρ)) : Gw p l e rm_X7_faultAt s m args below meth c (MQ below (QcI dC dI ad cy sz rr ρ) args s 0 0 (AW ad sz)) dC dI ad cy 3 sz 0 0 0 [(0, .ref (ad k)), (1, .int x1), (2, .int x2)] [] σ := by
  unfold fX7_faultAt at hf
  refine g_aload_n C dX7_faultAt_0 rfl 0 rfl ?_
  obtain ⟨r1, σ2, h3, hf⟩ := obp_e hf
  refine g_callVi (As := []) (rest := []) C (s_isSheet hk ad cy _) rfl (c_X7_isNothing l dC dI ad cy k hk) h3 hM_X7_28 cal_X7_isNothing ⟨Nat.zero_le _, Nat.zero_le _⟩ ⟨rfl, rfl⟩ ⟨Nat.le_of_ble_eq_true rfl, Nat.le_of_ble_eq_true rfl⟩ rfl rfl (Nat.le_of_ble_eq_true rfl) dX7_faultAt_1 ?_
  rcases oi_e hf with ⟨c4, hf⟩ | ⟨c4, hf⟩
  · refine g_if_eq_t (tgt := 9) C dX7_faultAt_4 (by decide) c4 ?_
    refine g_iload_n C dX7_faultAt_9 rfl 1 rfl ?_
    refine g_aload_n C dX7_faultAt_10 rfl 0 rfl ?_
    refine g_get C (s_isSheet hk ad cy _) rfl hin_X7 0 (by decide) hF_X7_11 rfl rfl dX7_faultAt_11 ?_
    rcases oi_e hf with ⟨c5, hf⟩ | ⟨c5, hf⟩
    · refine g_icmp_eq_t (tgt := 19) C dX7_faultAt_14 (by decide) c5 ?_
      refine g_iload_n C dX7_faultAt_19 rfl 2 rfl ?_
      rcases oi_e hf with ⟨c6, hf⟩ | ⟨c6, hf⟩
      · refine g_if_lt_t (tgt := 31) C dX7_faultAt_20 (by decide) c6 ?_
        exact g_sub [] rfl (fX7_faultAt_b31_ok C σ2 hf)
      · refine g_if_lt_f (tgt := 31) C dX7_faultAt_20 (by decide) c6 ?_
        refine g_iload_n C dX7_faultAt_23 rfl 2 rfl ?_
        refine g_aload_n C dX7_faultAt_24 rfl 0 rfl ?_
        refine g_get C (s_isSheet hk ad cy _) rfl hin_X7 1 (by decide) hF_X7_19 rfl rfl dX7_faultAt_25 ?_
        rcases oi_e hf with ⟨c7, hf⟩ | ⟨c7, hf⟩
        · refine g_icmp_lt_t (tgt := 35) C dX7_faultAt_28 (by decide) c7 ?_
          refine g_iconst (v := 0) C dX7_faultAt_35 (by decide) ?_
          obtain ⟨rfl, rfl⟩ := os_e hf
          exact g_iret C rfl dX7_faultAt_36
        · refine g_icmp_lt_f (tgt := 35) C dX7_faultAt_28 (by decide) c7 ?_
          exact g_sub [] rfl (fX7_faultAt_b31_ok C σ2 hf)
    · refine g_icmp_eq_f (tgt := 19) C dX7_faultAt_14 (by decide) c5 ?_
      refine g_iconst (v := 3) C dX7_faultAt_17 (by decide) ?_
      obtain ⟨rfl, rfl⟩ := os_e hf
      exact g_iret C rfl dX7_faultAt_18
  · refine g_if_eq_f (tgt := 9) C dX7_faultAt_4 (by decide) c4 ?_
    refine g_iconst (v := 1) C dX7_faultAt_7 (by decide) ?_
    obtain ⟨rfl, rfl⟩ := os_e hf
    exact g_iret C rfl dX7_faultAt_8
theorem c_X7_faultAt (l : Launch) (dC : Nat → ClassId) (dI : Nat → Nat → Nat) (ad : Nat → Nat) (cy : Nat → ClassId) (k : Nat) (hk : isSheet k) (x1 : Int32) (x2 : Int32) : ConI l yX7_faultAt cX7_faultAt 3 (some .int) rm_X7_faultAt dC dI ad cy [.ref (ad k), .int x1, .int x2] (fun σ => fX7_faultAt σ k x1 x2) := con_i (own := RX7) (by decide) rfl (Nat.le_of_ble_eq_true rfl) (fun _ _ _ _ _ _ _ _ σ _ _ C hf => fX7_faultAt_ok C σ k x1 x2 hk hf)
theorem cal_X7_faultAt : CalV yX7_faultAt RX7 cX7_faultAt 3 (some .int) 2 := ⟨hI_X7_faultAt, hS_X7_faultAt, hIni_X7, hC_X7_faultAt, by decide +kernel⟩
abbrev rm_X7_put : Room := { frames := 0, cells := 0, slots := 0, locals := 0 }
def fX7_put (σ : S0) (k : Nat) (x1 : Int32) (x2 : Int32) : Option (Int32 × S0) := if ¬ (σ k 0) = 0 then (if ¬ (σ k 0) = 1 then (og (¬ (x1 < 0 ∨ 40 ≤ x1.toNatClampNeg)) (ol (su σ (k + 1) x1.toNatClampNeg x2) (fun σ4 => some (0, σ4)))) else (ol x2.toInt16.toInt32 (fun v5 => og (¬ (x1 < 0 ∨ 40 ≤ x1.toNatClampNeg)) (ol (su σ (k + 1) x1.toNatClampNeg v5) (fun σ7 => some (0, σ7)))))) else (ol x2.toInt8.toInt32 (fun v8 => og (¬ (x1 < 0 ∨ 40 ≤ x1.toNatClampNeg)) (ol (su σ (k + 1) x1.toNatClampNeg v8) (fun σ10 => some (0, σ10)))))
set_option maxHeartbeats 1000000 in
set_option maxRecDepth 100000 in
theorem fX7_put_ok {p : Program} {l : Launch} {e : Env} {s : State} {m : MethodId} {args : Array Value} {below : List Frame} {meth : Method} {c : Code} {dC : Nat → ClassId} {dI : Nat → Nat → Nat} {ad : Nat → Nat} {cy : Nat → ClassId} {sz : Nat} (C : Cx p s m args meth c RX7 cX7_put 3 none dC dI ad cy sz) {rr : Int32} {ρ : S0} (σ : S0) (k : Nat) (x1 : Int32) (x2 : Int32) (hk : isSheet k) (hf : fX7_put σ k x1 x2 = some (rr, ρ)) : Gw p l e rm_X7_put s m args below meth c (MQ below (QcV dC dI ad cy sz ρ) args s 0 0 (AW ad sz)) dC dI ad cy 3 sz 0 0 0 [(0, .ref (ad k)), (1, .int x1), (2, .int x2)] [] σ := by
  unfold fX7_put at hf
  refine g_aload_n C dX7_put_0 rfl 0 rfl ?_
  refine g_get C (s_isSheet hk ad cy _) rfl hin_X7 0 (by decide) hF_X7_11 rfl rfl dX7_put_1 ?_
  rcases oi_e hf with ⟨c1, hf⟩ | ⟨c1, hf⟩
  · refine g_if_ne_t (tgt := 18) C dX7_put_4 (by decide) c1 ?_
    refine g_aload_n C dX7_put_18 rfl 0 rfl ?_
    refine g_get C (s_isSheet hk ad cy _) rfl hin_X7 0 (by decide) hF_X7_11 rfl rfl dX7_put_19 ?_
    refine g_iconst (v := 1) C dX7_put_22 (by decide) ?_
    rcases oi_e hf with ⟨c2, hf⟩ | ⟨c2, hf⟩
    · refine g_icmp_ne_t (tgt := 37) C dX7_put_23 (by decide) c2 ?_
      refine g_aload_n C dX7_put_37 rfl 0 rfl ?_
      refine g_get C (s_isSheet hk ad cy _) rfl hin_X7 2 (by decide) hF_X7_15 rfl rfl dX7_put_38 ?_
      refine g_iload_n C dX7_put_41 rfl 1 rfl ?_
      refine g_iload_n C dX7_put_42 rfl 2 rfl ?_
      obtain ⟨h3, hf⟩ := og_e hf
      obtain ⟨σ4, eσ4, hf⟩ := ol_e hf
      refine g_iast C (s_row hk.r1 ad cy _) h3 (ws_row hk.r1 ad cy _) eσ4 dX7_put_43 ?_
      obtain ⟨rfl, rfl⟩ := os_e hf
      exact g_vret C rfl dX7_put_44
    · refine g_icmp_ne_f (tgt := 37) C dX7_put_23 (by decide) (Decidable.of_not_not c2) ?_
      refine g_aload_n C dX7_put_26 rfl 0 rfl ?_
      refine g_get C (s_isSheet hk ad cy _) rfl hin_X7 2 (by decide) hF_X7_15 rfl rfl dX7_put_27 ?_
      refine g_iload_n C dX7_put_30 rfl 1 rfl ?_
      refine g_iload_n C dX7_put_31 rfl 2 rfl ?_
      refine g_i2s C dX7_put_32 ?_
      obtain ⟨v5, ev5, hf⟩ := ol_e hf
      refine g_nm ev5 ?_
      obtain ⟨h6, hf⟩ := og_e hf
      obtain ⟨σ7, eσ7, hf⟩ := ol_e hf
      refine g_iast C (s_row hk.r1 ad cy _) h6 (ws_row hk.r1 ad cy _) eσ7 dX7_put_33 ?_
      refine g_goto (tgt := 44) C dX7_put_34 (by decide) ?_
      obtain ⟨rfl, rfl⟩ := os_e hf
      exact g_vret C rfl dX7_put_44
  · refine g_if_ne_f (tgt := 18) C dX7_put_4 (by decide) (Decidable.of_not_not c1) ?_
    refine g_aload_n C dX7_put_7 rfl 0 rfl ?_
    refine g_get C (s_isSheet hk ad cy _) rfl hin_X7 2 (by decide) hF_X7_15 rfl rfl dX7_put_8 ?_
    refine g_iload_n C dX7_put_11 rfl 1 rfl ?_
    refine g_iload_n C dX7_put_12 rfl 2 rfl ?_
    refine g_i2b C dX7_put_13 ?_
    obtain ⟨v8, ev8, hf⟩ := ol_e hf
    refine g_nm ev8 ?_
    obtain ⟨h9, hf⟩ := og_e hf
    obtain ⟨σ10, eσ10, hf⟩ := ol_e hf
    refine g_iast C (s_row hk.r1 ad cy _) h9 (ws_row hk.r1 ad cy _) eσ10 dX7_put_14 ?_
    refine g_goto (tgt := 44) C dX7_put_15 (by decide) ?_
    obtain ⟨rfl, rfl⟩ := os_e hf
    exact g_vret C rfl dX7_put_44
theorem c_X7_put (l : Launch) (dC : Nat → ClassId) (dI : Nat → Nat → Nat) (ad : Nat → Nat) (cy : Nat → ClassId) (k : Nat) (hk : isSheet k) (x1 : Int32) (x2 : Int32) : ConV l yX7_put cX7_put 3 none rm_X7_put dC dI ad cy [.ref (ad k), .int x1, .int x2] (fun σ => fX7_put σ k x1 x2) := con_v (own := RX7) (by decide) rfl (Nat.le_of_ble_eq_true rfl) (fun _ _ _ _ _ _ _ _ σ _ _ C hf => fX7_put_ok C σ k x1 x2 hk hf)
theorem cal_X7_put : CalV yX7_put RX7 cX7_put 3 none 2 := ⟨hI_X7_put, hS_X7_put, hIni_X7, hC_X7_put, by decide +kernel⟩
abbrev rm_X8_append : Room := { frames := 0, cells := 0, slots := 0, locals := 0 }
def fX8_append_b3 (sf_3 : S0 → Int64 → Int32 → Option (Int32 × S0)) (σ : S0) (x1 : Int64) (x3 : Int32) : Option (Int32 × S0) := if x3 < 0 then (some (0, σ)) else (if (320 : Int32) ≤ (σ 1 1) then (some (0, σ)) else (ol (((x1 >>> (((8 * x3 : Int32)).toInt64 &&& 63)).toInt32).toInt8.toInt32) (fun v3 => ol (σ 1 1) (fun v4 => og (¬ (v4 < 0 ∨ 320 ≤ v4.toNatClampNeg)) (ol (su σ 2 v4.toNatClampNeg (vp_nar .byte v3)) (fun σ6 => ol ((σ6 1 1) + 1) (fun v7 => ol (su σ6 1 1 v7) (fun σ8 => ol (x3 + (-1)) (fun v9 => sf_3 σ8 x1 v9)))))))))
set_option maxHeartbeats 1000000 in
set_option maxRecDepth 100000 in
theorem fX8_append_b3_ok {p : Program} {l : Launch} {e : Env} {s : State} {m : MethodId} {args : Array Value} {below : List Frame} {meth : Method} {c : Code} {dC : Nat → ClassId} {dI : Nat → Nat → Nat} {ad : Nat → Nat} {cy : Nat → ClassId} {sz : Nat} (C : Cx p s m args meth c RX8 cX8_append 4 none dC dI ad cy sz) {rr : Int32} {ρ : S0} (sf_3 : S0 → Int64 → Int32 → Option (Int32 × S0)) (hs_3 : ∀ (σ : S0) (x1 : Int64) (x3 : Int32) , sf_3 σ x1 x3 = some (rr, ρ) → Gw p l e rm_X8_append s m args below meth c (MQ below (QcV dC dI ad cy sz ρ) args s 0 0 (AW ad sz)) dC dI ad cy 4 sz 0 0 3 [(0, .ref (ad 1)), (1, .long x1), (3, .int x3)] [] σ) (σ : S0) (x1 : Int64) (x3 : Int32)  (hf : fX8_append_b3 sf_3 σ x1 x3 = some (rr, ρ)) : Gw p l e rm_X8_append s m args below meth c (MQ below (QcV dC dI ad cy sz ρ) args s 0 0 (AW ad sz)) dC dI ad cy 4 sz 0 0 3 [(0, .ref (ad 1)), (1, .long x1), (3, .int x3)] [] σ := by
  unfold fX8_append_b3 at hf
  refine g_iload_n C dX8_append_3 rfl 2 rfl ?_
  rcases oi_e hf with ⟨c1, hf⟩ | ⟨c1, hf⟩
  · refine g_if_lt_t (tgt := 50) C dX8_append_4 (by decide) c1 ?_
    obtain ⟨rfl, rfl⟩ := os_e hf
    exact g_vret C rfl dX8_append_50
  · refine g_if_lt_f (tgt := 50) C dX8_append_4 (by decide) c1 ?_
    refine g_aload_n C dX8_append_7 rfl 0 rfl ?_
    refine g_get C (a_1 ad cy _) rfl hin_X8 1 (by decide) hF_X8_15 rfl rfl dX8_append_8 ?_
    refine g_sipush (v := 320) C dX8_append_11 (by decide) ?_
    rcases oi_e hf with ⟨c2, hf⟩ | ⟨c2, hf⟩
    · refine g_icmp_ge_t (tgt := 50) C dX8_append_14 (by decide) c2 ?_
      obtain ⟨rfl, rfl⟩ := os_e hf
      exact g_vret C rfl dX8_append_50
    · refine g_icmp_ge_f (tgt := 50) C dX8_append_14 (by decide) c2 ?_
      refine g_aload_n C dX8_append_17 rfl 0 rfl ?_
      refine g_get C (a_1 ad cy _) rfl hin_X8 0 (by decide) hF_X8_9 rfl rfl dX8_append_18 ?_
      refine g_aload_n C dX8_append_21 rfl 0 rfl ?_
      refine g_get C (a_1 ad cy _) rfl hin_X8 1 (by decide) hF_X8_15 rfl rfl dX8_append_22 ?_
      refine g_lload_n C dX8_append_25 rfl 1 rfl ?_
      refine g_bipush (v := 8) C dX8_append_26 (by decide) ?_
      refine g_iload_n C dX8_append_28 rfl 2 rfl ?_
      refine g_imul C dX8_append_29 ?_
      refine g_lshr C dX8_append_30 ?_
      refine g_l2i C dX8_append_31 ?_
      refine g_i2b C dX8_append_32 ?_
      obtain ⟨v3, ev3, hf⟩ := ol_e hf
      refine g_nm ev3 ?_
      obtain ⟨v4, ev4, hf⟩ := ol_e hf
      refine g_nm2 ev4 ?_
      obtain ⟨h5, hf⟩ := og_e hf
      obtain ⟨σ6, eσ6, hf⟩ := ol_e hf
      refine g_bast C (a_2 ad cy _) h5 (w_2 ad cy _) eσ6 dX8_append_33 ?_
      refine g_aload_n C dX8_append_34 rfl 0 rfl ?_
      refine g_dup C dX8_append_35 rfl ?_
      refine g_get C (a_1 ad cy _) rfl hin_X8 1 (by decide) hF_X8_15 rfl rfl dX8_append_36 ?_
      refine g_iconst (v := 1) C dX8_append_39 (by decide) ?_
      refine g_iadd C dX8_append_40 ?_
      obtain ⟨v7, ev7, hf⟩ := ol_e hf
      refine g_nm ev7 ?_
      obtain ⟨σ8, eσ8, hf⟩ := ol_e hf
      refine g_put (ty := .int) C (a_1 ad cy _) rfl hin_X8 tyX8 tyX8_ok nmX8 1 (by decide) hF_X8_15 rfl rfl (by decide +kernel) rfl rfl (Nat.le_of_ble_eq_true rfl) (p_1_1 ad cy _ _) eσ8 dX8_append_41 ?_
      obtain ⟨v9, ev9, hf⟩ := ol_e hf
      refine g_iinc (j := 2) (w := (-1)) (lv2 := [(0, .ref (ad 1)), (1, .long x1), (3, .int v9)]) C dX8_append_44 rfl (by decide) ev9 (by decide) [1, 2, 0] rfl ?_
      refine g_goto (tgt := 3) C dX8_append_47 (by decide) ?_
      exact g_sub [0, 1, 2] rfl (hs_3 σ8 x1 v9 hf)
def fX8_append_h3  : Nat → S0 → Int64 → Int32 → Option (Int32 × S0)
  | 0 => fun _ _ _ => none
  | n + 1 => fun σ x1 x3 => fX8_append_b3  (fX8_append_h3  n) σ x1 x3
set_option maxHeartbeats 1000000 in
set_option maxRecDepth 100000 in
theorem fX8_append_h3_ok {p : Program} {l : Launch} {e : Env} {s : State} {m : MethodId} {args : Array Value} {below : List Frame} {meth : Method} {c : Code} {dC : Nat → ClassId} {dI : Nat → Nat → Nat} {ad : Nat → Nat} {cy : Nat → ClassId} {sz : Nat} (C : Cx p s m args meth c RX8 cX8_append 4 none dC dI ad cy sz) {rr : Int32} {ρ : S0}  : ∀ (n : Nat) (σ : S0) (x1 : Int64) (x3 : Int32)  (_hf : fX8_append_h3  n σ x1 x3 = some (rr, ρ)), Gw p l e rm_X8_append s m args below meth c (MQ below (QcV dC dI ad cy sz ρ) args s 0 0 (AW ad sz)) dC dI ad cy 4 sz 0 0 3 [(0, .ref (ad 1)), (1, .long x1), (3, .int x3)] [] σ
  | 0, _, _, _, hf => by cases hf
  | n + 1, σ, x1, x3, hf => fX8_append_b3_ok C  (fX8_append_h3  n) (fX8_append_h3_ok C  n) σ x1 x3 hf
def fX8_append (σ : S0) (x1 : Int64) : Option (Int32 × S0) := fX8_append_h3 400 σ x1 7
set_option maxHeartbeats 1000000 in
set_option maxRecDepth 100000 in
theorem fX8_append_ok {p : Program} {l : Launch} {e : Env} {s : State} {m : MethodId} {args : Array Value} {below : List Frame} {meth : Method} {c : Code} {dC : Nat → ClassId} {dI : Nat → Nat → Nat} {ad : Nat → Nat} {cy : Nat → ClassId} {sz : Nat} (C : Cx p s m args meth c RX8 cX8_append 4 none dC dI ad cy sz) {rr : Int32} {ρ : S0} (σ : S0) (x1 : Int64)  (hf : fX8_append σ x1 = some (rr, ρ)) : Gw p l e rm_X8_append s m args below meth c (MQ below (QcV dC dI ad cy sz ρ) args s 0 0 (AW ad sz)) dC dI ad cy 4 sz 0 0 0 [(0, .ref (ad 1)), (1, .long x1)] [] σ := by
  unfold fX8_append at hf
  refine g_bipush (v := 7) C dX8_append_0 (by decide) ?_
  refine g_istore_n (lv2 := [(0, .ref (ad 1)), (1, .long x1), (3, .int 7)]) C dX8_append_2 rfl (by decide) [1, 2, 0] rfl ?_
  exact g_sub [0, 1, 2] rfl (fX8_append_h3_ok C 400 σ x1 7 hf)
theorem c_X8_append (l : Launch) (dC : Nat → ClassId) (dI : Nat → Nat → Nat) (ad : Nat → Nat) (cy : Nat → ClassId) (x1 : Int64) : ConV l yX8_append cX8_append 4 none rm_X8_append dC dI ad cy [.ref (ad 1), .long x1] (fun σ => fX8_append σ x1) := con_v (own := RX8) (by decide) rfl (Nat.le_of_ble_eq_true rfl) (fun _ _ _ _ _ _ _ _ σ _ _ C hf => fX8_append_ok C σ x1 hf)
theorem cal_X8_append : CalV yX8_append RX8 cX8_append 4 none 1 := ⟨hI_X8_append, hS_X8_append, hIni_X8, hC_X8_append, by decide +kernel⟩
abbrev rm_X8_rewind : Room := { frames := 0, cells := 0, slots := 0, locals := 0 }
def fX8_rewind (σ : S0)  : Option (Int32 × S0) := ol (su σ 1 2 0) (fun σ1 => some (0, σ1))
set_option maxHeartbeats 1000000 in
set_option maxRecDepth 100000 in
theorem fX8_rewind_ok {p : Program} {l : Launch} {e : Env} {s : State} {m : MethodId} {args : Array Value} {below : List Frame} {meth : Method} {c : Code} {dC : Nat → ClassId} {dI : Nat → Nat → Nat} {ad : Nat → Nat} {cy : Nat → ClassId} {sz : Nat} (C : Cx p s m args meth c RX8 cX8_rewind 1 none dC dI ad cy sz) {rr : Int32} {ρ : S0} (σ : S0)   (hf : fX8_rewind σ = some (rr, ρ)) : Gw p l e rm_X8_rewind s m args below meth c (MQ below (QcV dC dI ad cy sz ρ) args s 0 0 (AW ad sz)) dC dI ad cy 1 sz 0 0 0 [(0, .ref (ad 1))] [] σ := by
  unfold fX8_rewind at hf
  refine g_aload_n C dX8_rewind_0 rfl 0 rfl ?_
  refine g_iconst (v := 0) C dX8_rewind_1 (by decide) ?_
  obtain ⟨σ1, eσ1, hf⟩ := ol_e hf
  refine g_put (ty := .int) C (a_1 ad cy _) rfl hin_X8 tyX8 tyX8_ok nmX8 2 (by decide) hF_X8_19 rfl rfl (by decide +kernel) rfl rfl (Nat.le_of_ble_eq_true rfl) (p_1_2 ad cy _ _) eσ1 dX8_rewind_2 ?_
  obtain ⟨rfl, rfl⟩ := os_e hf
  exact g_vret C rfl dX8_rewind_5
theorem c_X8_rewind (l : Launch) (dC : Nat → ClassId) (dI : Nat → Nat → Nat) (ad : Nat → Nat) (cy : Nat → ClassId)  : ConV l yX8_rewind cX8_rewind 1 none rm_X8_rewind dC dI ad cy [.ref (ad 1)] (fun σ => fX8_rewind σ) := con_v (own := RX8) (by decide) rfl (Nat.le_of_ble_eq_true rfl) (fun _ _ _ _ _ _ _ _ σ _ _ C hf => fX8_rewind_ok C σ  hf)
theorem cal_X8_rewind : CalV yX8_rewind RX8 cX8_rewind 1 none 0 := ⟨hI_X8_rewind, hS_X8_rewind, hIni_X8, hC_X8_rewind, by decide +kernel⟩
abbrev rm_X8_readToken : Room := { frames := 0, cells := 0, slots := 0, locals := 0 }
def fX8_readToken_b226  (σ : S0) (t0 : Int32) : Option (Int32 × S0) := ol (su σ 1 3 t0) (fun σ1 => some (0, σ1))
set_option maxHeartbeats 1000000 in
set_option maxRecDepth 100000 in
theorem fX8_readToken_b226_ok {p : Program} {l : Launch} {e : Env} {s : State} {m : MethodId} {args : Array Value} {below : List Frame} {meth : Method} {c : Code} {dC : Nat → ClassId} {dI : Nat → Nat → Nat} {ad : Nat → Nat} {cy : Nat → ClassId} {sz : Nat} (C : Cx p s m args meth c RX8 cX8_readToken 1 none dC dI ad cy sz) {rr : Int32} {ρ : S0}  (σ : S0) (t0 : Int32)  (hf : fX8_readToken_b226 σ t0 = some (rr, ρ)) : Gw p l e rm_X8_readToken s m args below meth c (MQ below (QcV dC dI ad cy sz ρ) args s 0 0 (AW ad sz)) dC dI ad cy 1 sz 0 0 226 [] [.int t0, .ref (ad 1)] σ := by
  unfold fX8_readToken_b226 at hf
  obtain ⟨σ1, eσ1, hf⟩ := ol_e hf
  refine g_put (ty := .int) C (a_1 ad cy _) rfl hin_X8 tyX8 tyX8_ok nmX8 3 (by decide) hF_X8_28 rfl rfl (by decide +kernel) rfl rfl (Nat.le_of_ble_eq_true rfl) (p_1_3 ad cy _ _) eσ1 dX8_readToken_226 ?_
  obtain ⟨rfl, rfl⟩ := os_e hf
  exact g_vret C rfl dX8_readToken_229
def fX8_readToken_b267  (σ : S0) (t0 : Int32) : Option (Int32 × S0) := ol (su σ 1 3 t0) (fun σ1 => ol ((σ1 1 2) + 1) (fun v2 => ol (su σ1 1 2 v2) (fun σ3 => some (0, σ3))))
set_option maxHeartbeats 1000000 in
set_option maxRecDepth 100000 in
theorem fX8_readToken_b267_ok {p : Program} {l : Launch} {e : Env} {s : State} {m : MethodId} {args : Array Value} {below : List Frame} {meth : Method} {c : Code} {dC : Nat → ClassId} {dI : Nat → Nat → Nat} {ad : Nat → Nat} {cy : Nat → ClassId} {sz : Nat} (C : Cx p s m args meth c RX8 cX8_readToken 1 none dC dI ad cy sz) {rr : Int32} {ρ : S0}  (σ : S0) (t0 : Int32)  (hf : fX8_readToken_b267 σ t0 = some (rr, ρ)) : Gw p l e rm_X8_readToken s m args below meth c (MQ below (QcV dC dI ad cy sz ρ) args s 0 0 (AW ad sz)) dC dI ad cy 1 sz 0 0 267 [(0, .ref (ad 1))] [.int t0, .ref (ad 1)] σ := by
  unfold fX8_readToken_b267 at hf
  obtain ⟨σ1, eσ1, hf⟩ := ol_e hf
  refine g_put (ty := .int) C (a_1 ad cy _) rfl hin_X8 tyX8 tyX8_ok nmX8 3 (by decide) hF_X8_28 rfl rfl (by decide +kernel) rfl rfl (Nat.le_of_ble_eq_true rfl) (p_1_3 ad cy _ _) eσ1 dX8_readToken_267 ?_
  refine g_aload_n C dX8_readToken_270 rfl 0 rfl ?_
  refine g_dup C dX8_readToken_271 rfl ?_
  refine g_get C (a_1 ad cy _) rfl hin_X8 2 (by decide) hF_X8_19 rfl rfl dX8_readToken_272 ?_
  refine g_iconst (v := 1) C dX8_readToken_275 (by decide) ?_
  refine g_iadd C dX8_readToken_276 ?_
  obtain ⟨v2, ev2, hf⟩ := ol_e hf
  refine g_nm ev2 ?_
  obtain ⟨σ3, eσ3, hf⟩ := ol_e hf
  refine g_put (ty := .int) C (a_1 ad cy _) rfl hin_X8 tyX8 tyX8_ok nmX8 2 (by decide) hF_X8_19 rfl rfl (by decide +kernel) rfl rfl (Nat.le_of_ble_eq_true rfl) (p_1_2 ad cy _ _) eσ3 dX8_readToken_277 ?_
  obtain ⟨rfl, rfl⟩ := os_e hf
  exact g_vret C rfl dX8_readToken_280
def fX8_readToken_b196  (σ : S0)  : Option (Int32 × S0) := if (σ 1 2) ≤ (σ 1 4) then (if (σ 1 2) < (σ 1 1) then (ol (σ 1 2) (fun v3 => og (¬ (v3 < 0 ∨ 320 ≤ v3.toNatClampNeg)) (ol (σ 2 v3.toNatClampNeg) (fun v5 => if ¬ v5 = 59 then (fX8_readToken_b267 σ 4) else (fX8_readToken_b267 σ 3))))) else (ol (su σ 1 3 0) (fun σ7 => some (0, σ7)))) else (if ((σ 1 2) - (σ 1 4)) ≤ 2 then (fX8_readToken_b226 σ 2) else (fX8_readToken_b226 σ 4))
set_option maxHeartbeats 1000000 in
set_option maxRecDepth 100000 in
theorem fX8_readToken_b196_ok {p : Program} {l : Launch} {e : Env} {s : State} {m : MethodId} {args : Array Value} {below : List Frame} {meth : Method} {c : Code} {dC : Nat → ClassId} {dI : Nat → Nat → Nat} {ad : Nat → Nat} {cy : Nat → ClassId} {sz : Nat} (C : Cx p s m args meth c RX8 cX8_readToken 1 none dC dI ad cy sz) {rr : Int32} {ρ : S0}  (σ : S0)   (hf : fX8_readToken_b196 σ = some (rr, ρ)) : Gw p l e rm_X8_readToken s m args below meth c (MQ below (QcV dC dI ad cy sz ρ) args s 0 0 (AW ad sz)) dC dI ad cy 1 sz 0 0 196 [(0, .ref (ad 1))] [] σ := by
  unfold fX8_readToken_b196 at hf
  refine g_aload_n C dX8_readToken_196 rfl 0 rfl ?_
  refine g_get C (a_1 ad cy _) rfl hin_X8 2 (by decide) hF_X8_19 rfl rfl dX8_readToken_197 ?_
  refine g_aload_n C dX8_readToken_200 rfl 0 rfl ?_
  refine g_get C (a_1 ad cy _) rfl hin_X8 4 (by decide) hF_X8_22 rfl rfl dX8_readToken_201 ?_
  rcases oi_e hf with ⟨c1, hf⟩ | ⟨c1, hf⟩
  · refine g_icmp_le_t (tgt := 230) C dX8_readToken_204 (by decide) c1 ?_
    refine g_aload_n C dX8_readToken_230 rfl 0 rfl ?_
    refine g_get C (a_1 ad cy _) rfl hin_X8 2 (by decide) hF_X8_19 rfl rfl dX8_readToken_231 ?_
    refine g_aload_n C dX8_readToken_234 rfl 0 rfl ?_
    refine g_get C (a_1 ad cy _) rfl hin_X8 1 (by decide) hF_X8_15 rfl rfl dX8_readToken_235 ?_
    rcases oi_e hf with ⟨c2, hf⟩ | ⟨c2, hf⟩
    · refine g_icmp_lt_t (tgt := 247) C dX8_readToken_238 (by decide) c2 ?_
      refine g_aload_n C dX8_readToken_247 rfl 0 rfl ?_
      refine g_aload_n C dX8_readToken_248 rfl 0 rfl ?_
      refine g_get C (a_1 ad cy _) rfl hin_X8 0 (by decide) hF_X8_9 rfl rfl dX8_readToken_249 ?_
      refine g_aload_n C dX8_readToken_252 rfl 0 rfl ?_
      refine g_get C (a_1 ad cy _) rfl hin_X8 2 (by decide) hF_X8_19 rfl rfl dX8_readToken_253 ?_
      obtain ⟨v3, ev3, hf⟩ := ol_e hf
      refine g_nm ev3 ?_
      obtain ⟨h4, hf⟩ := og_e hf
      refine g_bald C (a_2 ad cy _) h4 dX8_readToken_256 ?_
      obtain ⟨v5, ev5, hf⟩ := ol_e hf
      refine g_nm ev5 ?_
      refine g_bipush (v := 59) C dX8_readToken_257 (by decide) ?_
      rcases oi_e hf with ⟨c6, hf⟩ | ⟨c6, hf⟩
      · refine g_icmp_ne_t (tgt := 266) C dX8_readToken_259 (by decide) c6 ?_
        refine g_iconst (v := 4) C dX8_readToken_266 (by decide) ?_
        exact g_sub [0] rfl (fX8_readToken_b267_ok C σ 4 hf)
      · refine g_icmp_ne_f (tgt := 266) C dX8_readToken_259 (by decide) (Decidable.of_not_not c6) ?_
        refine g_iconst (v := 3) C dX8_readToken_262 (by decide) ?_
        refine g_goto (tgt := 267) C dX8_readToken_263 (by decide) ?_
        exact g_sub [0] rfl (fX8_readToken_b267_ok C σ 3 hf)
    · refine g_icmp_lt_f (tgt := 247) C dX8_readToken_238 (by decide) c2 ?_
      refine g_aload_n C dX8_readToken_241 rfl 0 rfl ?_
      refine g_iconst (v := 0) C dX8_readToken_242 (by decide) ?_
      obtain ⟨σ7, eσ7, hf⟩ := ol_e hf
      refine g_put (ty := .int) C (a_1 ad cy _) rfl hin_X8 tyX8 tyX8_ok nmX8 3 (by decide) hF_X8_28 rfl rfl (by decide +kernel) rfl rfl (Nat.le_of_ble_eq_true rfl) (p_1_3 ad cy _ _) eσ7 dX8_readToken_243 ?_
      obtain ⟨rfl, rfl⟩ := os_e hf
      exact g_vret C rfl dX8_readToken_246
  · refine g_icmp_le_f (tgt := 230) C dX8_readToken_204 (by decide) c1 ?_
    refine g_aload_n C dX8_readToken_207 rfl 0 rfl ?_
    refine g_aload_n C dX8_readToken_208 rfl 0 rfl ?_
    refine g_get C (a_1 ad cy _) rfl hin_X8 2 (by decide) hF_X8_19 rfl rfl dX8_readToken_209 ?_
    refine g_aload_n C dX8_readToken_212 rfl 0 rfl ?_
    refine g_get C (a_1 ad cy _) rfl hin_X8 4 (by decide) hF_X8_22 rfl rfl dX8_readToken_213 ?_
    refine g_isub C dX8_readToken_216 ?_
    refine g_iconst (v := 2) C dX8_readToken_217 (by decide) ?_
    rcases oi_e hf with ⟨c8, hf⟩ | ⟨c8, hf⟩
    · refine g_icmp_le_t (tgt := 225) C dX8_readToken_218 (by decide) c8 ?_
      refine g_iconst (v := 2) C dX8_readToken_225 (by decide) ?_
      exact g_sub [] rfl (fX8_readToken_b226_ok C σ 2 hf)
    · refine g_icmp_le_f (tgt := 225) C dX8_readToken_218 (by decide) c8 ?_
      refine g_iconst (v := 4) C dX8_readToken_221 (by decide) ?_
      refine g_goto (tgt := 226) C dX8_readToken_222 (by decide) ?_
      exact g_sub [] rfl (fX8_readToken_b226_ok C σ 4 hf)
def fX8_readToken_b120 (sf_120 : S0 → Option (Int32 × S0)) (σ : S0)  : Option (Int32 × S0) := if (σ 1 1) ≤ (σ 1 2) then (fX8_readToken_b196 σ) else (ol (σ 1 2) (fun v2 => og (¬ (v2 < 0 ∨ 320 ≤ v2.toNatClampNeg)) (ol (σ 2 v2.toNatClampNeg) (fun v4 => if v4 < 48 then (fX8_readToken_b196 σ) else (ol (σ 1 2) (fun v6 => og (¬ (v6 < 0 ∨ 320 ≤ v6.toNatClampNeg)) (ol (σ 2 v6.toNatClampNeg) (fun v8 => if (57 : Int32) < v8 then (fX8_readToken_b196 σ) else (ol (σ 1 2) (fun v10 => og (¬ (v10 < 0 ∨ 320 ≤ v10.toNatClampNeg)) (ol (σ 2 v10.toNatClampNeg) (fun v12 => ol ((((σ 1 5) * 10) + v12) - 48) (fun v13 => ol (su σ 1 5 v13) (fun σ14 => ol ((σ14 1 2) + 1) (fun v15 => ol (su σ14 1 2 v15) (fun σ16 => sf_120 σ16))))))))))))))))
set_option maxHeartbeats 1000000 in
set_option maxRecDepth 100000 in
theorem fX8_readToken_b120_ok {p : Program} {l : Launch} {e : Env} {s : State} {m : MethodId} {args : Array Value} {below : List Frame} {meth : Method} {c : Code} {dC : Nat → ClassId} {dI : Nat → Nat → Nat} {ad : Nat → Nat} {cy : Nat → ClassId} {sz : Nat} (C : Cx p s m args meth c RX8 cX8_readToken 1 none dC dI ad cy sz) {rr : Int32} {ρ : S0} (sf_120 : S0 → Option (Int32 × S0)) (hs_120 : ∀ (σ : S0)  , sf_120 σ = some (rr, ρ) → Gw p l e rm_X8_readToken s m args below meth c (MQ below (QcV dC dI ad cy sz ρ) args s 0 0 (AW ad sz)) dC dI ad cy 1 sz 0 0 120 [(0, .ref (ad 1))] [] σ) (σ : S0)   (hf : fX8_readToken_b120 sf_120 σ = some (rr, ρ)) : Gw p l e rm_X8_readToken s m args below meth c (MQ below (QcV dC dI ad cy sz ρ) args s 0 0 (AW ad sz)) dC dI ad cy 1 sz 0 0 120 [(0, .ref (ad 1))] [] σ := by
  unfold fX8_readToken_b120 at hf
  refine g_aload_n C dX8_readToken_120 rfl 0 rfl ?_
  refine g_get C (a_1 ad cy _) rfl hin_X8 2 (by decide) hF_X8_19 rfl rfl dX8_readToken_121 ?_
  refine g_aload_n C dX8_readToken_124 rfl 0 rfl ?_
  refine g_get C (a_1 ad cy _) rfl hin_X8 1 (by decide) hF_X8_15 rfl rfl dX8_readToken_125 ?_
  rcases oi_e hf with ⟨c1, hf⟩ | ⟨c1, hf⟩
  · refine g_icmp_ge_t (tgt := 196) C dX8_readToken_128 (by decide) c1 ?_
    exact g_sub [0] rfl (fX8_readToken_b196_ok C σ hf)
  · refine g_icmp_ge_f (tgt := 196) C dX8_readToken_128 (by decide) c1 ?_
    refine g_aload_n C dX8_readToken_131 rfl 0 rfl ?_
    refine g_get C (a_1 ad cy _) rfl hin_X8 0 (by decide) hF_X8_9 rfl rfl dX8_readToken_132 ?_
    refine g_aload_n C dX8_readToken_135 rfl 0 rfl ?_
    refine g_get C (a_1 ad cy _) rfl hin_X8 2 (by decide) hF_X8_19 rfl rfl dX8_readToken_136 ?_
    obtain ⟨v2, ev2, hf⟩ := ol_e hf
    refine g_nm ev2 ?_
    obtain ⟨h3, hf⟩ := og_e hf
    refine g_bald C (a_2 ad cy _) h3 dX8_readToken_139 ?_
    obtain ⟨v4, ev4, hf⟩ := ol_e hf
    refine g_nm ev4 ?_
    refine g_bipush (v := 48) C dX8_readToken_140 (by decide) ?_
    rcases oi_e hf with ⟨c5, hf⟩ | ⟨c5, hf⟩
    · refine g_icmp_lt_t (tgt := 196) C dX8_readToken_142 (by decide) c5 ?_
      exact g_sub [0] rfl (fX8_readToken_b196_ok C σ hf)
    · refine g_icmp_lt_f (tgt := 196) C dX8_readToken_142 (by decide) c5 ?_
      refine g_aload_n C dX8_readToken_145 rfl 0 rfl ?_
      refine g_get C (a_1 ad cy _) rfl hin_X8 0 (by decide) hF_X8_9 rfl rfl dX8_readToken_146 ?_
      refine g_aload_n C dX8_readToken_149 rfl 0 rfl ?_
      refine g_get C (a_1 ad cy _) rfl hin_X8 2 (by decide) hF_X8_19 rfl rfl dX8_readToken_150 ?_
      obtain ⟨v6, ev6, hf⟩ := ol_e hf
      refine g_nm ev6 ?_
      obtain ⟨h7, hf⟩ := og_e hf
      refine g_bald C (a_2 ad cy _) h7 dX8_readToken_153 ?_
      obtain ⟨v8, ev8, hf⟩ := ol_e hf
      refine g_nm ev8 ?_
      refine g_bipush (v := 57) C dX8_readToken_154 (by decide) ?_
      rcases oi_e hf with ⟨c9, hf⟩ | ⟨c9, hf⟩
      · refine g_icmp_gt_t (tgt := 196) C dX8_readToken_156 (by decide) c9 ?_
        exact g_sub [0] rfl (fX8_readToken_b196_ok C σ hf)
      · refine g_icmp_gt_f (tgt := 196) C dX8_readToken_156 (by decide) c9 ?_
        refine g_aload_n C dX8_readToken_159 rfl 0 rfl ?_
        refine g_aload_n C dX8_readToken_160 rfl 0 rfl ?_
        refine g_get C (a_1 ad cy _) rfl hin_X8 5 (by decide) hF_X8_25 rfl rfl dX8_readToken_161 ?_
        refine g_bipush (v := 10) C dX8_readToken_164 (by decide) ?_
        refine g_imul C dX8_readToken_166 ?_
        refine g_aload_n C dX8_readToken_167 rfl 0 rfl ?_
        refine g_get C (a_1 ad cy _) rfl hin_X8 0 (by decide) hF_X8_9 rfl rfl dX8_readToken_168 ?_
        refine g_aload_n C dX8_readToken_171 rfl 0 rfl ?_
        refine g_get C (a_1 ad cy _) rfl hin_X8 2 (by decide) hF_X8_19 rfl rfl dX8_readToken_172 ?_
        obtain ⟨v10, ev10, hf⟩ := ol_e hf
        refine g_nm ev10 ?_
        obtain ⟨h11, hf⟩ := og_e hf
        refine g_bald C (a_2 ad cy _) h11 dX8_readToken_175 ?_
        obtain ⟨v12, ev12, hf⟩ := ol_e hf
        refine g_nm ev12 ?_
        refine g_iadd C dX8_readToken_176 ?_
        refine g_bipush (v := 48) C dX8_readToken_177 (by decide) ?_
        refine g_isub C dX8_readToken_179 ?_
        obtain ⟨v13, ev13, hf⟩ := ol_e hf
        refine g_nm ev13 ?_
        obtain ⟨σ14, eσ14, hf⟩ := ol_e hf
        refine g_put (ty := .int) C (a_1 ad cy _) rfl hin_X8 tyX8 tyX8_ok nmX8 5 (by decide) hF_X8_25 rfl rfl (by decide +kernel) rfl rfl (Nat.le_of_ble_eq_true rfl) (p_1_5 ad cy _ _) eσ14 dX8_readToken_180 ?_
        refine g_aload_n C dX8_readToken_183 rfl 0 rfl ?_
        refine g_dup C dX8_readToken_184 rfl ?_
        refine g_get C (a_1 ad cy _) rfl hin_X8 2 (by decide) hF_X8_19 rfl rfl dX8_readToken_185 ?_
        refine g_iconst (v := 1) C dX8_readToken_188 (by decide) ?_
        refine g_iadd C dX8_readToken_189 ?_
        obtain ⟨v15, ev15, hf⟩ := ol_e hf
        refine g_nm ev15 ?_
        obtain ⟨σ16, eσ16, hf⟩ := ol_e hf
        refine g_put (ty := .int) C (a_1 ad cy _) rfl hin_X8 tyX8 tyX8_ok nmX8 2 (by decide) hF_X8_19 rfl rfl (by decide +kernel) rfl rfl (Nat.le_of_ble_eq_true rfl) (p_1_2 ad cy _ _) eσ16 dX8_readToken_190 ?_
        refine g_goto (tgt := 120) C dX8_readToken_193 (by decide) ?_
        exact g_sub [0] rfl (hs_120 σ16 hf)
def fX8_readToken_h120  : Nat → S0 → Option (Int32 × S0)
  | 0 => fun _ => none
  | n + 1 => fun σ => fX8_readToken_b120  (fX8_readToken_h120  n) σ
set_option maxHeartbeats 1000000 in
set_option maxRecDepth 100000 in
theorem fX8_readToken_h120_ok {p : Program} {l : Launch} {e : Env} {s : State} {m : MethodId} {args : Array Value} {below : List Frame} {meth : Method} {c : Code} {dC : Nat → ClassId} {dI : Nat → Nat → Nat} {ad : Nat → Nat} {cy : Nat → ClassId} {sz : Nat} (C : Cx p s m args meth c RX8 cX8_readToken 1 none dC dI ad cy sz) {rr : Int32} {ρ : S0}  : ∀ (n : Nat) (σ : S0)   (_hf : fX8_readToken_h120  n σ = some (rr, ρ)), Gw p l e rm_X8_readToken s m args below meth c (MQ below (QcV dC dI ad cy sz ρ) args s 0 0 (AW ad sz)) dC dI ad cy 1 sz 0 0 120 [(0, .ref (ad 1))] [] σ
  | 0, _, hf => by cases hf
  | n + 1, σ, hf => fX8_readToken_b120_ok C  (fX8_readToken_h120  n) (fX8_readToken_h120_ok C  n) σ hf
def fX8_readToken_b103  (σ : S0)  : Option (Int32 × S0) := if (σ 1 2) ≤ (σ 1 4) then (fX8_readToken_h120 400 σ) else (ol (su σ 1 3 1) (fun σ2 => some (0, σ2)))
set_option maxHeartbeats 1000000 in
set_option maxRecDepth 100000 in
theorem fX8_readToken_b103_ok {p : Program} {l : Launch} {e : Env} {s : State} {m : MethodId} {args : Array Value} {below : List Frame} {meth : Method} {c : Code} {dC : Nat → ClassId} {dI : Nat → Nat → Nat} {ad : Nat → Nat} {cy : Nat → ClassId} {sz : Nat} (C : Cx p s m args meth c RX8 cX8_readToken 1 none dC dI ad cy sz) {rr : Int32} {ρ : S0}  (σ : S0)   (hf : fX8_readToken_b103 σ = some (rr, ρ)) : Gw p l e rm_X8_readToken s m args below meth c (MQ below (QcV dC dI ad cy sz ρ) args s 0 0 (AW ad sz)) dC dI ad cy 1 sz 0 0 103 [(0, .ref (ad 1))] [] σ := by
  unfold fX8_readToken_b103 at hf
  refine g_aload_n C dX8_readToken_103 rfl 0 rfl ?_
  refine g_get C (a_1 ad cy _) rfl hin_X8 2 (by decide) hF_X8_19 rfl rfl dX8_readToken_104 ?_
  refine g_aload_n C dX8_readToken_107 rfl 0 rfl ?_
  refine g_get C (a_1 ad cy _) rfl hin_X8 4 (by decide) hF_X8_22 rfl rfl dX8_readToken_108 ?_
  rcases oi_e hf with ⟨c1, hf⟩ | ⟨c1, hf⟩
  · refine g_icmp_le_t (tgt := 120) C dX8_readToken_111 (by decide) c1 ?_
    exact g_sub [0] rfl (fX8_readToken_h120_ok C 400 σ hf)
  · refine g_icmp_le_f (tgt := 120) C dX8_readToken_111 (by decide) c1 ?_
    refine g_aload_n C dX8_readToken_114 rfl 0 rfl ?_
    refine g_iconst (v := 1) C dX8_readToken_115 (by decide) ?_
    obtain ⟨σ2, eσ2, hf⟩ := ol_e hf
    refine g_put (ty := .int) C (a_1 ad cy _) rfl hin_X8 tyX8 tyX8_ok nmX8 3 (by decide) hF_X8_28 rfl rfl (by decide +kernel) rfl rfl (Nat.le_of_ble_eq_true rfl) (p_1_3 ad cy _ _) eσ2 dX8_readToken_116 ?_
    obtain ⟨rfl, rfl⟩ := os_e hf
    exact g_vret C rfl dX8_readToken_119
def fX8_readToken_b51 (sf_51 : S0 → Option (Int32 × S0)) (σ : S0)  : Option (Int32 × S0) := if (σ 1 1) ≤ (σ 1 2) then (fX8_readToken_b103 σ) else (ol (σ 1 2) (fun v2 => og (¬ (v2 < 0 ∨ 320 ≤ v2.toNatClampNeg)) (ol (σ 2 v2.toNatClampNeg) (fun v4 => if v4 < 97 then (fX8_readToken_b103 σ) else (ol (σ 1 2) (fun v6 => og (¬ (v6 < 0 ∨ 320 ≤ v6.toNatClampNeg)) (ol (σ 2 v6.toNatClampNeg) (fun v8 => if (122 : Int32) < v8 then (fX8_readToken_b103 σ) else (ol ((σ 1 2) + 1) (fun v10 => ol (su σ 1 2 v10) (fun σ11 => sf_51 σ11)))))))))))
set_option maxHeartbeats 1000000 in
set_option maxRecDepth 100000 in
theorem fX8_readToken_b51_ok {p : Program} {l : Launch} {e : Env} {s : State} {m : MethodId} {args : Array Value} {below : List Frame} {meth : Method} {c : Code} {dC : Nat → ClassId} {dI : Nat → Nat → Nat} {ad : Nat → Nat} {cy : Nat → ClassId} {sz : Nat} (C : Cx p s m args meth c RX8 cX8_readToken 1 none dC dI ad cy sz) {rr : Int32} {ρ : S0} (sf_51 : S0 → Option (Int32 × S0)) (hs_51 : ∀ (σ : S0)  , sf_51 σ = some (rr, ρ) → Gw p l e rm_X8_readToken s m args below meth c (MQ below (QcV dC dI ad cy sz ρ) args s 0 0 (AW ad sz)) dC dI ad cy 1 sz 0 0 51 [(0, .ref (ad 1))] [] σ) (σ : S0)   (hf : fX8_readToken_b51 sf_51 σ = some (rr, ρ)) : Gw p l e rm_X8_readToken s m args below meth c (MQ below (QcV dC dI ad cy sz ρ) args s 0 0 (AW ad sz)) dC dI ad cy 1 sz 0 0 51 [(0, .ref (ad 1))] [] σ := by
  unfold fX8_readToken_b51 at hf
  refine g_aload_n C dX8_readToken_51 rfl 0 rfl ?_
  refine g_get C (a_1 ad cy _) rfl hin_X8 2 (by decide) hF_X8_19 rfl rfl dX8_readToken_52 ?_
  refine g_aload_n C dX8_readToken_55 rfl 0 rfl ?_
  refine g_get C (a_1 ad cy _) rfl hin_X8 1 (by decide) hF_X8_15 rfl rfl dX8_readToken_56 ?_
  rcases oi_e hf with ⟨c1, hf⟩ | ⟨c1, hf⟩
  · refine g_icmp_ge_t (tgt := 103) C dX8_readToken_59 (by decide) c1 ?_
    exact g_sub [0] rfl (fX8_readToken_b103_ok C σ hf)
  · refine g_icmp_ge_f (tgt := 103) C dX8_readToken_59 (by decide) c1 ?_
    refine g_aload_n C dX8_readToken_62 rfl 0 rfl ?_
    refine g_get C (a_1 ad cy _) rfl hin_X8 0 (by decide) hF_X8_9 rfl rfl dX8_readToken_63 ?_
    refine g_aload_n C dX8_readToken_66 rfl 0 rfl ?_
    refine g_get C (a_1 ad cy _) rfl hin_X8 2 (by decide) hF_X8_19 rfl rfl dX8_readToken_67 ?_
    obtain ⟨v2, ev2, hf⟩ := ol_e hf
    refine g_nm ev2 ?_
    obtain ⟨h3, hf⟩ := og_e hf
    refine g_bald C (a_2 ad cy _) h3 dX8_readToken_70 ?_
    obtain ⟨v4, ev4, hf⟩ := ol_e hf
    refine g_nm ev4 ?_
    refine g_bipush (v := 97) C dX8_readToken_71 (by decide) ?_
    rcases oi_e hf with ⟨c5, hf⟩ | ⟨c5, hf⟩
    · refine g_icmp_lt_t (tgt := 103) C dX8_readToken_73 (by decide) c5 ?_
      exact g_sub [0] rfl (fX8_readToken_b103_ok C σ hf)
    · refine g_icmp_lt_f (tgt := 103) C dX8_readToken_73 (by decide) c5 ?_
      refine g_aload_n C dX8_readToken_76 rfl 0 rfl ?_
      refine g_get C (a_1 ad cy _) rfl hin_X8 0 (by decide) hF_X8_9 rfl rfl dX8_readToken_77 ?_
      refine g_aload_n C dX8_readToken_80 rfl 0 rfl ?_
      refine g_get C (a_1 ad cy _) rfl hin_X8 2 (by decide) hF_X8_19 rfl rfl dX8_readToken_81 ?_
      obtain ⟨v6, ev6, hf⟩ := ol_e hf
      refine g_nm ev6 ?_
      obtain ⟨h7, hf⟩ := og_e hf
      refine g_bald C (a_2 ad cy _) h7 dX8_readToken_84 ?_
      obtain ⟨v8, ev8, hf⟩ := ol_e hf
      refine g_nm ev8 ?_
      refine g_bipush (v := 122) C dX8_readToken_85 (by decide) ?_
      rcases oi_e hf with ⟨c9, hf⟩ | ⟨c9, hf⟩
      · refine g_icmp_gt_t (tgt := 103) C dX8_readToken_87 (by decide) c9 ?_
        exact g_sub [0] rfl (fX8_readToken_b103_ok C σ hf)
      · refine g_icmp_gt_f (tgt := 103) C dX8_readToken_87 (by decide) c9 ?_
        refine g_aload_n C dX8_readToken_90 rfl 0 rfl ?_
        refine g_dup C dX8_readToken_91 rfl ?_
        refine g_get C (a_1 ad cy _) rfl hin_X8 2 (by decide) hF_X8_19 rfl rfl dX8_readToken_92 ?_
        refine g_iconst (v := 1) C dX8_readToken_95 (by decide) ?_
        refine g_iadd C dX8_readToken_96 ?_
        obtain ⟨v10, ev10, hf⟩ := ol_e hf
        refine g_nm ev10 ?_
        obtain ⟨σ11, eσ11, hf⟩ := ol_e hf
        refine g_put (ty := .int) C (a_1 ad cy _) rfl hin_X8 tyX8 tyX8_ok nmX8 2 (by decide) hF_X8_19 rfl rfl (by decide +kernel) rfl rfl (Nat.le_of_ble_eq_true rfl) (p_1_2 ad cy _ _) eσ11 dX8_readToken_97 ?_
        refine g_goto (tgt := 51) C dX8_readToken_100 (by decide) ?_
        exact g_sub [0] rfl (hs_51 σ11 hf)
def fX8_readToken_h51  : Nat → S0 → Option (Int32 × S0)
  | 0 => fun _ => none
  | n + 1 => fun σ => fX8_readToken_b51  (fX8_readToken_h51  n) σ
set_option maxHeartbeats 1000000 in
set_option maxRecDepth 100000 in
theorem fX8_readToken_h51_ok {p : Program} {l : Launch} {e : Env} {s : State} {m : MethodId} {args : Array Value} {below : List Frame} {meth : Method} {c : Code} {dC : Nat → ClassId} {dI : Nat → Nat → Nat} {ad : Nat → Nat} {cy : Nat → ClassId} {sz : Nat} (C : Cx p s m args meth c RX8 cX8_readToken 1 none dC dI ad cy sz) {rr : Int32} {ρ : S0}  : ∀ (n : Nat) (σ : S0)   (_hf : fX8_readToken_h51  n σ = some (rr, ρ)), Gw p l e rm_X8_readToken s m args below meth c (MQ below (QcV dC dI ad cy sz ρ) args s 0 0 (AW ad sz)) dC dI ad cy 1 sz 0 0 51 [(0, .ref (ad 1))] [] σ
  | 0, _, hf => by cases hf
  | n + 1, σ, hf => fX8_readToken_b51_ok C  (fX8_readToken_h51  n) (fX8_readToken_h51_ok C  n) σ hf
def fX8_readToken_b38  (σ : S0)  : Option (Int32 × S0) := ol (σ 1 2) (fun v1 => ol (su σ 1 4 v1) (fun σ2 => ol (su σ2 1 5 0) (fun σ3 => fX8_readToken_h51 400 σ3)))
set_option maxHeartbeats 1000000 in
set_option maxRecDepth 100000 in
theorem fX8_readToken_b38_ok {p : Program} {l : Launch} {e : Env} {s : State} {m : MethodId} {args : Array Value} {below : List Frame} {meth : Method} {c : Code} {dC : Nat → ClassId} {dI : Nat → Nat → Nat} {ad : Nat → Nat} {cy : Nat → ClassId} {sz : Nat} (C : Cx p s m args meth c RX8 cX8_readToken 1 none dC dI ad cy sz) {rr : Int32} {ρ : S0}  (σ : S0)   (hf : fX8_readToken_b38 σ = some (rr, ρ)) : Gw p l e rm_X8_readToken s m args below meth c (MQ below (QcV dC dI ad cy sz ρ) args s 0 0 (AW ad sz)) dC dI ad cy 1 sz 0 0 38 [(0, .ref (ad 1))] [] σ := by
  unfold fX8_readToken_b38 at hf
  refine g_aload_n C dX8_readToken_38 rfl 0 rfl ?_
  refine g_aload_n C dX8_readToken_39 rfl 0 rfl ?_
  refine g_get C (a_1 ad cy _) rfl hin_X8 2 (by decide) hF_X8_19 rfl rfl dX8_readToken_40 ?_
  obtain ⟨v1, ev1, hf⟩ := ol_e hf
  refine g_nm ev1 ?_
  obtain ⟨σ2, eσ2, hf⟩ := ol_e hf
  refine g_put (ty := .int) C (a_1 ad cy _) rfl hin_X8 tyX8 tyX8_ok nmX8 4 (by decide) hF_X8_22 rfl rfl (by decide +kernel) rfl rfl (Nat.le_of_ble_eq_true rfl) (p_1_4 ad cy _ _) eσ2 dX8_readToken_43 ?_
  refine g_aload_n C dX8_readToken_46 rfl 0 rfl ?_
  refine g_iconst (v := 0) C dX8_readToken_47 (by decide) ?_
  obtain ⟨σ3, eσ3, hf⟩ := ol_e hf
  refine g_put (ty := .int) C (a_1 ad cy _) rfl hin_X8 tyX8 tyX8_ok nmX8 5 (by decide) hF_X8_25 rfl rfl (by decide +kernel) rfl rfl (Nat.le_of_ble_eq_true rfl) (p_1_5 ad cy _ _) eσ3 dX8_readToken_48 ?_
  exact g_sub [0] rfl (fX8_readToken_h51_ok C 400 σ3 hf)
def fX8_readToken_b0 (sf_0 : S0 → Option (Int32 × S0)) (σ : S0)  : Option (Int32 × S0) := if (σ 1 1) ≤ (σ 1 2) then (fX8_readToken_b38 σ) else (ol (σ 1 2) (fun v2 => og (¬ (v2 < 0 ∨ 320 ≤ v2.toNatClampNeg)) (ol (σ 2 v2.toNatClampNeg) (fun v4 => if ¬ v4 = 32 then (fX8_readToken_b38 σ) else (ol ((σ 1 2) + 1) (fun v6 => ol (su σ 1 2 v6) (fun σ7 => sf_0 σ7)))))))
set_option maxHeartbeats 1000000 in
set_option maxRecDepth 100000 in
theorem fX8_readToken_b0_ok {p : Program} {l : Launch} {e : Env} {s : State} {m : MethodId} {args : Array Value} {below : List Frame} {meth : Method} {c : Code} {dC : Nat → ClassId} {dI : Nat → Nat → Nat} {ad : Nat → Nat} {cy : Nat → ClassId} {sz : Nat} (C : Cx p s m args meth c RX8 cX8_readToken 1 none dC dI ad cy sz) {rr : Int32} {ρ : S0} (sf_0 : S0 → Option (Int32 × S0)) (hs_0 : ∀ (σ : S0)  , sf_0 σ = some (rr, ρ) → Gw p l e rm_X8_readToken s m args below meth c (MQ below (QcV dC dI ad cy sz ρ) args s 0 0 (AW ad sz)) dC dI ad cy 1 sz 0 0 0 [(0, .ref (ad 1))] [] σ) (σ : S0)   (hf : fX8_readToken_b0 sf_0 σ = some (rr, ρ)) : Gw p l e rm_X8_readToken s m args below meth c (MQ below (QcV dC dI ad cy sz ρ) args s 0 0 (AW ad sz)) dC dI ad cy 1 sz 0 0 0 [(0, .ref (ad 1))] [] σ := by
  unfold fX8_readToken_b0 at hf
  refine g_aload_n C dX8_readToken_0 rfl 0 rfl ?_
  refine g_get C (a_1 ad cy _) rfl hin_X8 2 (by decide) hF_X8_19 rfl rfl dX8_readToken_1 ?_
  refine g_aload_n C dX8_readToken_4 rfl 0 rfl ?_
  refine g_get C (a_1 ad cy _) rfl hin_X8 1 (by decide) hF_X8_15 rfl rfl dX8_readToken_5 ?_
  rcases oi_e hf with ⟨c1, hf⟩ | ⟨c1, hf⟩
  · refine g_icmp_ge_t (tgt := 38) C dX8_readToken_8 (by decide) c1 ?_
    exact g_sub [0] rfl (fX8_readToken_b38_ok C σ hf)
  · refine g_icmp_ge_f (tgt := 38) C dX8_readToken_8 (by decide) c1 ?_
    refine g_aload_n C dX8_readToken_11 rfl 0 rfl ?_
    refine g_get C (a_1 ad cy _) rfl hin_X8 0 (by decide) hF_X8_9 rfl rfl dX8_readToken_12 ?_
    refine g_aload_n C dX8_readToken_15 rfl 0 rfl ?_
    refine g_get C (a_1 ad cy _) rfl hin_X8 2 (by decide) hF_X8_19 rfl rfl dX8_readToken_16 ?_
    obtain ⟨v2, ev2, hf⟩ := ol_e hf
    refine g_nm ev2 ?_
    obtain ⟨h3, hf⟩ := og_e hf
    refine g_bald C (a_2 ad cy _) h3 dX8_readToken_19 ?_
    obtain ⟨v4, ev4, hf⟩ := ol_e hf
    refine g_nm ev4 ?_
    refine g_bipush (v := 32) C dX8_readToken_20 (by decide) ?_
    rcases oi_e hf with ⟨c5, hf⟩ | ⟨c5, hf⟩
    · refine g_icmp_ne_t (tgt := 38) C dX8_readToken_22 (by decide) c5 ?_
      exact g_sub [0] rfl (fX8_readToken_b38_ok C σ hf)
    · refine g_icmp_ne_f (tgt := 38) C dX8_readToken_22 (by decide) (Decidable.of_not_not c5) ?_
      refine g_aload_n C dX8_readToken_25 rfl 0 rfl ?_
      refine g_dup C dX8_readToken_26 rfl ?_
      refine g_get C (a_1 ad cy _) rfl hin_X8 2 (by decide) hF_X8_19 rfl rfl dX8_readToken_27 ?_
      refine g_iconst (v := 1) C dX8_readToken_30 (by decide) ?_
      refine g_iadd C dX8_readToken_31 ?_
      obtain ⟨v6, ev6, hf⟩ := ol_e hf
      refine g_nm ev6 ?_
      obtain ⟨σ7, eσ7, hf⟩ := ol_e hf
      refine g_put (ty := .int) C (a_1 ad cy _) rfl hin_X8 tyX8 tyX8_ok nmX8 2 (by decide) hF_X8_19 rfl rfl (by decide +kernel) rfl rfl (Nat.le_of_ble_eq_true rfl) (p_1_2 ad cy _ _) eσ7 dX8_readToken_32 ?_
      refine g_goto (tgt := 0) C dX8_readToken_35 (by decide) ?_
      exact g_sub [0] rfl (hs_0 σ7 hf)
def fX8_readToken_h0  : Nat → S0 → Option (Int32 × S0)
  | 0 => fun _ => none
  | n + 1 => fun σ => fX8_readToken_b0  (fX8_readToken_h0  n) σ
set_option maxHeartbeats 1000000 in
set_option maxRecDepth 100000 in
theorem fX8_readToken_h0_ok {p : Program} {l : Launch} {e : Env} {s : State} {m : MethodId} {args : Array Value} {below : List Frame} {meth : Method} {c : Code} {dC : Nat → ClassId} {dI : Nat → Nat → Nat} {ad : Nat → Nat} {cy : Nat → ClassId} {sz : Nat} (C : Cx p s m args meth c RX8 cX8_readToken 1 none dC dI ad cy sz) {rr : Int32} {ρ : S0}  : ∀ (n : Nat) (σ : S0)   (_hf : fX8_readToken_h0  n σ = some (rr, ρ)), Gw p l e rm_X8_readToken s m args below meth c (MQ below (QcV dC dI ad cy sz ρ) args s 0 0 (AW ad sz)) dC dI ad cy 1 sz 0 0 0 [(0, .ref (ad 1))] [] σ
  | 0, _, hf => by cases hf
  | n + 1, σ, hf => fX8_readToken_b0_ok C  (fX8_readToken_h0  n) (fX8_readToken_h0_ok C  n) σ hf
def fX8_readToken (σ : S0)  : Option (Int32 × S0) := fX8_readToken_h0 400 σ
set_option maxHeartbeats 1000000 in
set_option maxRecDepth 100000 in
theorem fX8_readToken_ok {p : Program} {l : Launch} {e : Env} {s : State} {m : MethodId} {args : Array Value} {below : List Frame} {meth : Method} {c : Code} {dC : Nat → ClassId} {dI : Nat → Nat → Nat} {ad : Nat → Nat} {cy : Nat → ClassId} {sz : Nat} (C : Cx p s m args meth c RX8 cX8_readToken 1 none dC dI ad cy sz) {rr : Int32} {ρ : S0} (σ : S0)   (hf : fX8_readToken σ = some (rr, ρ)) : Gw p l e rm_X8_readToken s m args below meth c (MQ below (QcV dC dI ad cy sz ρ) args s 0 0 (AW ad sz)) dC dI ad cy 1 sz 0 0 0 [(0, .ref (ad 1))] [] σ := by
  unfold fX8_readToken at hf
  exact g_sub [0] rfl (fX8_readToken_h0_ok C 400 σ hf)
theorem c_X8_readToken (l : Launch) (dC : Nat → ClassId) (dI : Nat → Nat → Nat) (ad : Nat → Nat) (cy : Nat → ClassId)  : ConV l yX8_readToken cX8_readToken 1 none rm_X8_readToken dC dI ad cy [.ref (ad 1)] (fun σ => fX8_readToken σ) := con_v (own := RX8) (by decide) rfl (Nat.le_of_ble_eq_true rfl) (fun _ _ _ _ _ _ _ _ σ _ _ C hf => fX8_readToken_ok C σ  hf)
theorem cal_X8_readToken : CalV yX8_readToken RX8 cX8_readToken 1 none 0 := ⟨hI_X8_readToken, hS_X8_readToken, hIni_X8, hC_X8_readToken, by decide +kernel⟩
abbrev rm_X8_isName : Room := { frames := 4, cells := 0, slots := 0, locals := 85 }
def fX8_isName_b28 (sf_28 : S0 → Nat → Int32 → Option (Int32 × S0)) (σ : S0) (i1 : Nat) (x2 : Int32) : Option (Int32 × S0) := obp (fJ0_length_8abf5 σ i1) (fun r1 σ2 => if r1 ≤ x2 then (some (1, σ2)) else (ol ((σ2 1 4) + x2) (fun v5 => og (¬ (v5 < 0 ∨ 320 ≤ v5.toNatClampNeg)) (ol (σ2 2 v5.toNatClampNeg) (fun v7 => obp (fJ0_charAt_5068e σ2 i1 x2) (fun r8 σ9 => if v7 = r8 then (ol (x2 + 1) (fun v12 => sf_28 σ9 i1 v12)) else (some (0, σ9))))))))
set_option maxHeartbeats 1000000 in
set_option maxRecDepth 100000 in
theorem fX8_isName_b28_ok {p : Program} {l : Launch} {e : Env} {s : State} {m : MethodId} {args : Array Value} {below : List Frame} {meth : Method} {c : Code} {dC : Nat → ClassId} {dI : Nat → Nat → Nat} {ad : Nat → Nat} {cy : Nat → ClassId} {sz : Nat} (C : Cx p s m args meth c RX8 cX8_isName 3 (some .boolean) dC dI ad cy sz) {rr : Int32} {ρ : S0} (sf_28 : S0 → Nat → Int32 → Option (Int32 × S0)) (hs_28 : ∀ (σ : S0) (i1 : Nat) (x2 : Int32) (hi1 : isStr i1), sf_28 σ i1 x2 = some (rr, ρ) → Gw p l e rm_X8_isName s m args below meth c (MQ below (QcI dC dI ad cy sz rr ρ) args s 0 0 (AW ad sz)) dC dI ad cy 3 sz 0 0 28 [(0, .ref (ad 1)), (1, .ref (ad (200 + i1))), (2, .int x2)] [] σ) (σ : S0) (i1 : Nat) (x2 : Int32) (hi1 : isStr i1) (hf : fX8_isName_b28 sf_28 σ i1 x2 = some (rr, ρ)) : Gw p l e rm_X8_isName s m args below meth c (MQ below (QcI dC dI ad cy sz rr ρ) args s 0 0 (AW ad sz)) dC dI ad cy 3 sz 0 0 28 [(0, .ref (ad 1)), (1, .ref (ad (200 + i1))), (2, .int x2)] [] σ := by
  unfold fX8_isName_b28 at hf
  refine g_iload_n C dX8_isName_28 rfl 2 rfl ?_
  refine g_aload_n C dX8_isName_29 rfl 1 rfl ?_
  obtain ⟨r1, σ2, h3, hf⟩ := obp_e hf
  refine g_callTi (As := []) (rest := [.int x2]) C hi1 (c_J0_length_8abf5 l dC dI ad cy i1 hi1) h3 hM_X8_31 cal_J0_length_8abf5 ⟨Nat.zero_le _, Nat.zero_le _⟩ ⟨rfl, rfl⟩ ⟨Nat.le_of_ble_eq_true rfl, Nat.le_of_ble_eq_true rfl⟩ rfl rfl (Nat.le_of_ble_eq_true rfl) dX8_isName_30 ?_
  rcases oi_e hf with ⟨c4, hf⟩ | ⟨c4, hf⟩
  · refine g_icmp_ge_t (tgt := 63) C dX8_isName_33 (by decide) c4 ?_
    refine g_iconst (v := 1) C dX8_isName_63 (by decide) ?_
    obtain ⟨rfl, rfl⟩ := os_e hf
    exact g_zret C rfl (by decide) dX8_isName_64
  · refine g_icmp_ge_f (tgt := 63) C dX8_isName_33 (by decide) c4 ?_
    refine g_aload_n C dX8_isName_36 rfl 0 rfl ?_
    refine g_get C (a_1 ad cy _) rfl hin_X8 0 (by decide) hF_X8_9 rfl rfl dX8_isName_37 ?_
    refine g_aload_n C dX8_isName_40 rfl 0 rfl ?_
    refine g_get C (a_1 ad cy _) rfl hin_X8 4 (by decide) hF_X8_22 rfl rfl dX8_isName_41 ?_
    refine g_iload_n C dX8_isName_44 rfl 2 rfl ?_
    refine g_iadd C dX8_isName_45 ?_
    obtain ⟨v5, ev5, hf⟩ := ol_e hf
    refine g_nm ev5 ?_
    obtain ⟨h6, hf⟩ := og_e hf
    refine g_bald C (a_2 ad cy _) h6 dX8_isName_46 ?_
    obtain ⟨v7, ev7, hf⟩ := ol_e hf
    refine g_nm ev7 ?_
    refine g_aload_n C dX8_isName_47 rfl 1 rfl ?_
    refine g_iload_n C dX8_isName_48 rfl 2 rfl ?_
    obtain ⟨r8, σ9, h10, hf⟩ := obp_e hf
    refine g_callTi (As := [.int x2]) (rest := [.int v7]) C hi1 (c_J0_charAt_5068e l dC dI ad cy i1 hi1 x2) h10 hM_X8_36 cal_J0_charAt_5068e ⟨Nat.zero_le _, Nat.zero_le _⟩ ⟨rfl, rfl⟩ ⟨Nat.le_of_ble_eq_true rfl, Nat.le_of_ble_eq_true rfl⟩ rfl rfl (Nat.le_of_ble_eq_true rfl) dX8_isName_49 ?_
    rcases oi_e hf with ⟨c11, hf⟩ | ⟨c11, hf⟩
    · refine g_icmp_eq_t (tgt := 57) C dX8_isName_52 (by decide) c11 ?_
      obtain ⟨v12, ev12, hf⟩ := ol_e hf
      refine g_iinc (j := 2) (w := 1) (lv2 := [(0, .ref (ad 1)), (1, .ref (ad (200 + i1))), (2, .int v12)]) C dX8_isName_57 rfl (by decide) ev12 (by decide) [1, 2, 0] rfl ?_
      refine g_goto (tgt := 28) C dX8_isName_60 (by decide) ?_
      exact g_sub [0, 1, 2] rfl (hs_28 σ9 i1 v12 hi1 hf)
    · refine g_icmp_eq_f (tgt := 57) C dX8_isName_52 (by decide) c11 ?_
      refine g_iconst (v := 0) C dX8_isName_55 (by decide) ?_
      obtain ⟨rfl, rfl⟩ := os_e hf
      exact g_zret C rfl (by decide) dX8_isName_56
def fX8_isName_h28  : Nat → S0 → Nat → Int32 → Option (Int32 × S0)
  | 0 => fun _ _ _ => none
  | n + 1 => fun σ i1 x2 => fX8_isName_b28  (fX8_isName_h28  n) σ i1 x2
set_option maxHeartbeats 1000000 in
set_option maxRecDepth 100000 in
theorem fX8_isName_h28_ok {p : Program} {l : Launch} {e : Env} {s : State} {m : MethodId} {args : Array Value} {below : List Frame} {meth : Method} {c : Code} {dC : Nat → ClassId} {dI : Nat → Nat → Nat} {ad : Nat → Nat} {cy : Nat → ClassId} {sz : Nat} (C : Cx p s m args meth c RX8 cX8_isName 3 (some .boolean) dC dI ad cy sz) {rr : Int32} {ρ : S0}  : ∀ (n : Nat) (σ : S0) (i1 : Nat) (x2 : Int32) (hi1 : isStr i1) (_hf : fX8_isName_h28  n σ i1 x2 = some (rr, ρ)), Gw p l e rm_X8_isName s m args below meth c (MQ below (QcI dC dI ad cy sz rr ρ) args s 0 0 (AW ad sz)) dC dI ad cy 3 sz 0 0 28 [(0, .ref (ad 1)), (1, .ref (ad (200 + i1))), (2, .int x2)] [] σ
  | 0, _, _, _, _, hf => by cases hf
  | n + 1, σ, i1, x2, hi1, hf => fX8_isName_b28_ok C  (fX8_isName_h28  n) (fX8_isName_h28_ok C  n) σ i1 x2 hi1 hf
def fX8_isName (σ : S0) (i1 : Nat) : Option (Int32 × S0) := if ¬ (σ 1 3) = 1 then (some (0, σ)) else (obp (fJ0_length_8abf5 σ i1) (fun r2 σ3 => if ((σ 1 2) - (σ 1 4)) = r2 then (fX8_isName_h28 400 σ3 i1 0) else (some (0, σ3))))
set_option maxHeartbeats 1000000 in
set_option maxRecDepth 100000 in
theorem fX8_isName_ok {p : Program} {l : Launch} {e : Env} {s : State} {m : MethodId} {args : Array Value} {below : List Frame} {meth : Method} {c : Code} {dC : Nat → ClassId} {dI : Nat → Nat → Nat} {ad : Nat → Nat} {cy : Nat → ClassId} {sz : Nat} (C : Cx p s m args meth c RX8 cX8_isName 3 (some .boolean) dC dI ad cy sz) {rr : Int32} {ρ : S0} (σ : S0) (i1 : Nat) (hi1 : isStr i1) (hf : fX8_isName σ i1 = some (rr, ρ)) : Gw p l e rm_X8_isName s m args below meth c (MQ below (QcI dC dI ad cy sz rr ρ) args s 0 0 (AW ad sz)) dC dI ad cy 3 sz 0 0 0 [(0, .ref (ad 1)), (1, .ref (ad (200 + i1)))] [] σ := by
  unfold fX8_isName at hf
  refine g_aload_n C dX8_isName_0 rfl 0 rfl ?_
  refine g_get C (a_1 ad cy _) rfl hin_X8 3 (by decide) hF_X8_28 rfl rfl dX8_isName_1 ?_
  refine g_iconst (v := 1) C dX8_isName_4 (by decide) ?_
  rcases oi_e hf with ⟨c1, hf⟩ | ⟨c1, hf⟩
  · refine g_icmp_ne_t (tgt := 24) C dX8_isName_5 (by decide) c1 ?_
    refine g_iconst (v := 0) C dX8_isName_24 (by decide) ?_
    obtain ⟨rfl, rfl⟩ := os_e hf
    exact g_zret C rfl (by decide) dX8_isName_25
  · refine g_icmp_ne_f (tgt := 24) C dX8_isName_5 (by decide) (Decidable.of_not_not c1) ?_
    refine g_aload_n C dX8_isName_8 rfl 0 rfl ?_
    refine g_get C (a_1 ad cy _) rfl hin_X8 2 (by decide) hF_X8_19 rfl rfl dX8_isName_9 ?_
    refine g_aload_n C dX8_isName_12 rfl 0 rfl ?_
    refine g_get C (a_1 ad cy _) rfl hin_X8 4 (by decide) hF_X8_22 rfl rfl dX8_isName_13 ?_
    refine g_isub C dX8_isName_16 ?_
    refine g_aload_n C dX8_isName_17 rfl 1 rfl ?_
    obtain ⟨r2, σ3, h4, hf⟩ := obp_e hf
    refine g_callTi (As := []) (rest := [.int ((σ 1 2) - (σ 1 4))]) C hi1 (c_J0_length_8abf5 l dC dI ad cy i1 hi1) h4 hM_X8_31 cal_J0_length_8abf5 ⟨Nat.zero_le _, Nat.zero_le _⟩ ⟨rfl, rfl⟩ ⟨Nat.le_of_ble_eq_true rfl, Nat.le_of_ble_eq_true rfl⟩ rfl rfl (Nat.le_of_ble_eq_true rfl) dX8_isName_18 ?_
    rcases oi_e hf with ⟨c5, hf⟩ | ⟨c5, hf⟩
    · refine g_icmp_eq_t (tgt := 26) C dX8_isName_21 (by decide) c5 ?_
      refine g_iconst (v := 0) C dX8_isName_26 (by decide) ?_
      refine g_istore_n (lv2 := [(0, .ref (ad 1)), (1, .ref (ad (200 + i1))), (2, .int 0)]) C dX8_isName_27 rfl (by decide) [1, 2, 0] rfl ?_
      exact g_sub [0, 1, 2] rfl (fX8_isName_h28_ok C 400 σ3 i1 0 hi1 hf)
    · refine g_icmp_eq_f (tgt := 26) C dX8_isName_21 (by decide) c5 ?_
      refine g_iconst (v := 0) C dX8_isName_24 (by decide) ?_
      obtain ⟨rfl, rfl⟩ := os_e hf
      exact g_zret C rfl (by decide) dX8_isName_25
theorem c_X8_isName (l : Launch) (dC : Nat → ClassId) (dI : Nat → Nat → Nat) (ad : Nat → Nat) (cy : Nat → ClassId) (i1 : Nat) (hi1 : isStr i1) : ConI l yX8_isName cX8_isName 3 (some .boolean) rm_X8_isName dC dI ad cy [.ref (ad 1), .ref (ad (200 + i1))] (fun σ => fX8_isName σ i1) := con_i (own := RX8) (by decide) rfl (Nat.le_of_ble_eq_true rfl) (fun _ _ _ _ _ _ _ _ σ _ _ C hf => fX8_isName_ok C σ i1 hi1 hf)
theorem cal_X8_isName : CalV yX8_isName RX8 cX8_isName 3 (some .boolean) 1 := ⟨hI_X8_isName, hS_X8_isName, hIni_X8, hC_X8_isName, by decide +kernel⟩
end
section
abbrev rm_X9_empty : Room := { frames := 2, cells := 0, slots := 0, locals := 43 }
def fX9_empty (σ : S0) (k : Nat) : Option (Int32 × S0) := ol (su σ k 0 3) (fun σ1 => ol (su σ1 k 1 3) (fun σ2 => ol (su σ2 k 2 0) (fun σ3 => obp (fX1_empty σ3 (k + 10)) (fun r4 σ5 => some (0, σ5)))))
set_option maxHeartbeats 1000000 in
set_option maxRecDepth 100000 in
theorem fX9_empty_ok {p : Program} {l : Launch} {e : Env} {s : State} {m : MethodId} {args : Array Value} {below : List Frame} {meth : Method} {c : Code} {dC : Nat → ClassId} {dI : Nat → Nat → Nat} {ad : Nat → Nat} {cy : Nat → ClassId} {sz : Nat} (C : Cx p s m args meth c RX9 cX9_empty 1 none dC dI ad cy sz) {rr : Int32} {ρ : S0} (σ : S0) (k : Nat) (hk : isTown k) (hf : fX9_empty σ k = some (rr, ρ)) : Gw p l e rm_X9_empty s m args below meth c (MQ below (QcV dC dI ad cy sz ρ) args s 0 0 (AW ad sz)) dC dI ad cy 1 sz 0 0 0 [(0, .ref (ad k))] [] σ := by
  unfold fX9_empty at hf
  refine g_aload_n C dX9_empty_0 rfl 0 rfl ?_
  refine g_iconst (v := 3) C dX9_empty_1 (by decide) ?_
  obtain ⟨σ1, eσ1, hf⟩ := ol_e hf
  refine g_put (ty := .int) C (s_isTown hk ad cy _) rfl hin_X9 tyX9 tyX9_ok nmX9 0 (by decide) hF_X9_9 rfl rfl (by decide +kernel) rfl rfl (Nat.le_of_ble_eq_true rfl) (ps_isTown_0 hk ad cy _ _) eσ1 dX9_empty_2 ?_
  refine g_aload_n C dX9_empty_5 rfl 0 rfl ?_
  refine g_iconst (v := 3) C dX9_empty_6 (by decide) ?_
  obtain ⟨σ2, eσ2, hf⟩ := ol_e hf
  refine g_put (ty := .int) C (s_isTown hk ad cy _) rfl hin_X9 tyX9 tyX9_ok nmX9 1 (by decide) hF_X9_15 rfl rfl (by decide +kernel) rfl rfl (Nat.le_of_ble_eq_true rfl) (ps_isTown_1 hk ad cy _ _) eσ2 dX9_empty_7 ?_
  refine g_aload_n C dX9_empty_10 rfl 0 rfl ?_
  refine g_iconst (v := 0) C dX9_empty_11 (by decide) ?_
  obtain ⟨σ3, eσ3, hf⟩ := ol_e hf
  refine g_put (ty := .int) C (s_isTown hk ad cy _) rfl hin_X9 tyX9 tyX9_ok nmX9 2 (by decide) hF_X9_37 rfl rfl (by decide +kernel) rfl rfl (Nat.le_of_ble_eq_true rfl) (ps_isTown_2 hk ad cy _ _) eσ3 dX9_empty_12 ?_
  refine g_aload_n C dX9_empty_15 rfl 0 rfl ?_
  refine g_get C (s_isTown hk ad cy _) rfl hin_X9 6 (by decide) hF_X9_33 rfl rfl dX9_empty_16 ?_
  obtain ⟨r4, σ5, h6, hf⟩ := obp_e hf
  refine g_callVv (As := []) (rest := []) C (s_isChimes hk.ch ad cy _) rfl (c_X1_empty l dC dI ad cy (k + 10) hk.ch) h6 hM_X9_40 cal_X1_empty ⟨Nat.zero_le _, Nat.zero_le _⟩ ⟨rfl, rfl⟩ ⟨Nat.le_of_ble_eq_true rfl, Nat.le_of_ble_eq_true rfl⟩ rfl rfl (Nat.le_of_ble_eq_true rfl) dX9_empty_19 ?_
  obtain ⟨rfl, rfl⟩ := os_e hf
  exact g_vret C rfl dX9_empty_22
theorem c_X9_empty (l : Launch) (dC : Nat → ClassId) (dI : Nat → Nat → Nat) (ad : Nat → Nat) (cy : Nat → ClassId) (k : Nat) (hk : isTown k) : ConV l yX9_empty cX9_empty 1 none rm_X9_empty dC dI ad cy [.ref (ad k)] (fun σ => fX9_empty σ k) := con_v (own := RX9) (by decide) rfl (Nat.le_of_ble_eq_true rfl) (fun _ _ _ _ _ _ _ _ σ _ _ C hf => fX9_empty_ok C σ k hk hf)
theorem cal_X9_empty : CalV yX9_empty RX9 cX9_empty 1 none 0 := ⟨hI_X9_empty, hS_X9_empty, hIni_X9, hC_X9_empty, by decide +kernel⟩
abbrev rm_X9_copyFrom : Room := { frames := 2, cells := 0, slots := 0, locals := 39 }
def fX9_copyFrom_b56 (sf_56 : S0 → Nat → Nat → Int32 → Option (Int32 × S0)) (σ : S0) (k : Nat) (x1 : Nat) (x2 : Int32) : Option (Int32 × S0) := if (6 : Int32) ≤ x2 then (obp (fX1_copyFrom σ (k + 10) (x1 + 10)) (fun r2 σ3 => some (0, σ3))) else (og (¬ (x2 < 0 ∨ 6 ≤ x2.toNatClampNeg)) (ol ((x1 + 4) + 1 * x2.toNatClampNeg) (fun q6 => og (¬ (x2 < 0 ∨ 6 ≤ x2.toNatClampNeg)) (ol ((k + 4) + 1 * x2.toNatClampNeg) (fun q8 => ol (va_up σ q8 (va_cpy (σ q6) (σ q8) 0 0 (12 : Int32).toNatClampNeg)) (fun σ9 => ol (x2 + 1) (fun v10 => sf_56 σ9 k x1 v10)))))))
set_option maxHeartbeats 1000000 in
set_option maxRecDepth 100000 in
theorem fX9_copyFrom_b56_ok {p : Program} {l : Launch} {e : Env} {s : State} {m : MethodId} {args : Array Value} {below : List Frame} {meth : Method} {c : Code} {dC : Nat → ClassId} {dI : Nat → Nat → Nat} {ad : Nat → Nat} {cy : Nat → ClassId} {sz : Nat} (C : Cx p s m args meth c RX9 cX9_copyFrom 3 none dC dI ad cy sz) {rr : Int32} {ρ : S0} (sf_56 : S0 → Nat → Nat → Int32 → Option (Int32 × S0)) (hs_56 : ∀ (σ : S0) (k : Nat) (x1 : Nat) (x2 : Int32) (hk : isTown k) (hx1 : isTown x1), sf_56 σ k x1 x2 = some (rr, ρ) → Gw p l e rm_X9_copyFrom s m args below meth c (MQ below (QcV dC dI ad cy sz ρ) args s 0 0 (AW ad sz)) dC dI ad cy 3 sz 0 0 56 [(0, .ref (ad k)), (1, .ref (ad x1)), (2, .int x2)] [] σ) (σ : S0) (k : Nat) (x1 : Nat) (x2 : Int32) (hk : isTown k) (hx1 : isTown x1) (hf : fX9_copyFrom_b56 sf_56 σ k x1 x2 = some (rr, ρ)) : Gw p l e rm_X9_copyFrom s m args below meth c (MQ below (QcV dC dI ad cy sz ρ) args s 0 0 (AW ad sz)) dC dI ad cy 3 sz 0 0 56 [(0, .ref (ad k)), (1, .ref (ad x1)), (2, .int x2)] [] σ := by
  unfold fX9_copyFrom_b56 at hf
  refine g_iload_n C dX9_copyFrom_56 rfl 2 rfl ?_
  refine g_bipush (v := 6) C dX9_copyFrom_57 (by decide) ?_
  rcases oi_e hf with ⟨c1, hf⟩ | ⟨c1, hf⟩
  · refine g_icmp_ge_t (tgt := 87) C dX9_copyFrom_59 (by decide) c1 ?_
    refine g_aload_n C dX9_copyFrom_87 rfl 0 rfl ?_
    refine g_get C (s_isTown hk ad cy _) rfl hin_X9 6 (by decide) hF_X9_33 rfl rfl dX9_copyFrom_88 ?_
    refine g_aload_n C dX9_copyFrom_91 rfl 1 rfl ?_
    refine g_get C (s_isTown hx1 ad cy _) rfl hin_X9 6 (by decide) hF_X9_33 rfl rfl dX9_copyFrom_92 ?_
    obtain ⟨r2, σ3, h4, hf⟩ := obp_e hf
    refine g_callVv (As := [.ref (ad (x1 + 10))]) (rest := []) C (s_isChimes hk.ch ad cy _) rfl (c_X1_copyFrom l dC dI ad cy (k + 10) hk.ch (x1 + 10) hx1.ch) h4 hM_X9_49 cal_X1_copyFrom ⟨Nat.zero_le _, Nat.zero_le _⟩ ⟨rfl, rfl⟩ ⟨Nat.le_of_ble_eq_true rfl, Nat.le_of_ble_eq_true rfl⟩ rfl rfl (Nat.le_of_ble_eq_true rfl) dX9_copyFrom_95 ?_
    obtain ⟨rfl, rfl⟩ := os_e hf
    exact g_vret C rfl dX9_copyFrom_98
  · refine g_icmp_ge_f (tgt := 87) C dX9_copyFrom_59 (by decide) c1 ?_
    refine g_aload_n C dX9_copyFrom_62 rfl 1 rfl ?_
    refine g_get C (s_isTown hx1 ad cy _) rfl hin_X9 5 (by decide) hF_X9_27 rfl rfl dX9_copyFrom_63 ?_
    refine g_iload_n C dX9_copyFrom_66 rfl 2 rfl ?_
    obtain ⟨h5, hf⟩ := og_e hf
    obtain ⟨q6, eq6, hf⟩ := ol_e hf
    refine g_aald C (s_out hx1.r3 ad cy _) rfl rfl h5 dX9_copyFrom_67 ?_
    refine g_nmr eq6 ?_
    have hq6 := (hx1.ro h5 eq6)
    refine g_iconst (v := 0) C dX9_copyFrom_68 (by decide) ?_
    refine g_aload_n C dX9_copyFrom_69 rfl 0 rfl ?_
    refine g_get C (s_isTown hk ad cy _) rfl hin_X9 5 (by decide) hF_X9_27 rfl rfl dX9_copyFrom_70 ?_
    refine g_iload_n C dX9_copyFrom_73 rfl 2 rfl ?_
    obtain ⟨h7, hf⟩ := og_e hf
    obtain ⟨q8, eq8, hf⟩ := ol_e hf
    refine g_aald C (s_out hk.r3 ad cy _) rfl rfl h7 dX9_copyFrom_74 ?_
    refine g_nmr eq8 ?_
    have hq8 := (hk.ro h7 eq8)
    refine g_iconst (v := 0) C dX9_copyFrom_75 (by decide) ?_
    refine g_bipush (v := 12) C dX9_copyFrom_76 (by decide) ?_
    obtain ⟨σ9, eσ9, hf⟩ := ol_e hf
    refine g_copy C hM_X9_43 (s_row hq6 ad cy _) (s_row hq8 ad cy _) (by decide) (by decide) (by decide) ⟨Nat.le_of_ble_eq_true rfl, Nat.le_of_ble_eq_true rfl⟩ (fun f => ws_row hq8 ad cy f) eσ9 dX9_copyFrom_78 ?_
    obtain ⟨v10, ev10, hf⟩ := ol_e hf
    refine g_iinc (j := 2) (w := 1) (lv2 := [(0, .ref (ad k)), (1, .ref (ad x1)), (2, .int v10)]) C dX9_copyFrom_81 rfl (by decide) ev10 (by decide) [1, 2, 0] rfl ?_
    refine g_goto (tgt := 56) C dX9_copyFrom_84 (by decide) ?_
    exact g_sub [0, 1, 2] rfl (hs_56 σ9 k x1 v10 hk hx1 hf)
def fX9_copyFrom_h56  : Nat → S0 → Nat → Nat → Int32 → Option (Int32 × S0)
  | 0 => fun _ _ _ _ => none
  | n + 1 => fun σ k x1 x2 => fX9_copyFrom_b56  (fX9_copyFrom_h56  n) σ k x1 x2
set_option maxHeartbeats 1000000 in
set_option maxRecDepth 100000 in
theorem fX9_copyFrom_h56_ok {p : Program} {l : Launch} {e : Env} {s : State} {m : MethodId} {args : Array Value} {below : List Frame} {meth : Method} {c : Code} {dC : Nat → ClassId} {dI : Nat → Nat → Nat} {ad : Nat → Nat} {cy : Nat → ClassId} {sz : Nat} (C : Cx p s m args meth c RX9 cX9_copyFrom 3 none dC dI ad cy sz) {rr : Int32} {ρ : S0}  : ∀ (n : Nat) (σ : S0) (k : Nat) (x1 : Nat) (x2 : Int32) (hk : isTown k) (hx1 : isTown x1) (_hf : fX9_copyFrom_h56  n σ k x1 x2 = some (rr, ρ)), Gw p l e rm_X9_copyFrom s m args below meth c (MQ below (QcV dC dI ad cy sz ρ) args s 0 0 (AW ad sz)) dC dI ad cy 3 sz 0 0 56 [(0, .ref (ad k)), (1, .ref (ad x1)), (2, .int x2)] [] σ
  | 0, _, _, _, _, _, _, hf => by cases hf
  | n + 1, σ, k, x1, x2, hk, hx1, hf => fX9_copyFrom_b56_ok C  (fX9_copyFrom_h56  n) (fX9_copyFrom_h56_ok C  n) σ k x1 x2 hk hx1 hf
def fX9_copyFrom (σ : S0) (k : Nat) (k1 : Nat) : Option (Int32 × S0) := ol (σ k1 0) (fun v1 => ol (su σ k 0 v1) (fun σ2 => ol (σ2 k1 1) (fun v3 => ol (su σ2 k 1 v3) (fun σ4 => ol (σ4 k1 2) (fun v5 => ol (su σ4 k 2 v5) (fun σ6 => ol (va_up σ6 (k + 1) (va_cpy (σ6 (k1 + 1)) (σ6 (k + 1)) 0 0 (6 : Int32).toNatClampNeg)) (fun σ7 => ol (va_up σ7 (k + 2) (va_cpy (σ7 (k1 + 2)) (σ7 (k + 2)) 0 0 (6 : Int32).toNatClampNeg)) (fun σ8 => fX9_copyFrom_h56 400 σ8 k k1 0))))))))
set_option maxHeartbeats 1000000 in
set_option maxRecDepth 100000 in
theorem fX9_copyFrom_ok {p : Program} {l : Launch} {e : Env} {s : State} {m : MethodId} {args : Array Value} {below : List Frame} {meth : Method} {c : Code} {dC : Nat → ClassId} {dI : Nat → Nat → Nat} {ad : Nat → Nat} {cy : Nat → ClassId} {sz : Nat} (C : Cx p s m args meth c RX9 cX9_copyFrom 3 none dC dI ad cy sz) {rr : Int32} {ρ : S0} (σ : S0) (k : Nat) (k1 : Nat) (hk : isTown k) (hk1 : isTown k1) (hf : fX9_copyFrom σ k k1 = some (rr, ρ)) : Gw p l e rm_X9_copyFrom s m args below meth c (MQ below (QcV dC dI ad cy sz ρ) args s 0 0 (AW ad sz)) dC dI ad cy 3 sz 0 0 0 [(0, .ref (ad k)), (1, .ref (ad k1))] [] σ := by
  unfold fX9_copyFrom at hf
  refine g_aload_n C dX9_copyFrom_0 rfl 0 rfl ?_
  refine g_aload_n C dX9_copyFrom_1 rfl 1 rfl ?_
  refine g_get C (s_isTown hk1 ad cy _) rfl hin_X9 0 (by decide) hF_X9_9 rfl rfl dX9_copyFrom_2 ?_
  obtain ⟨v1, ev1, hf⟩ := ol_e hf
  refine g_nm ev1 ?_
  obtain ⟨σ2, eσ2, hf⟩ := ol_e hf
  refine g_put (ty := .int) C (s_isTown hk ad cy _) rfl hin_X9 tyX9 tyX9_ok nmX9 0 (by decide) hF_X9_9 rfl rfl (by decide +kernel) rfl rfl (Nat.le_of_ble_eq_true rfl) (ps_isTown_0 hk ad cy _ _) eσ2 dX9_copyFrom_5 ?_
  refine g_aload_n C dX9_copyFrom_8 rfl 0 rfl ?_
  refine g_aload_n C dX9_copyFrom_9 rfl 1 rfl ?_
  refine g_get C (s_isTown hk1 ad cy _) rfl hin_X9 1 (by decide) hF_X9_15 rfl rfl dX9_copyFrom_10 ?_
  obtain ⟨v3, ev3, hf⟩ := ol_e hf
  refine g_nm ev3 ?_
  obtain ⟨σ4, eσ4, hf⟩ := ol_e hf
  refine g_put (ty := .int) C (s_isTown hk ad cy _) rfl hin_X9 tyX9 tyX9_ok nmX9 1 (by decide) hF_X9_15 rfl rfl (by decide +kernel) rfl rfl (Nat.le_of_ble_eq_true rfl) (ps_isTown_1 hk ad cy _ _) eσ4 dX9_copyFrom_13 ?_
  refine g_aload_n C dX9_copyFrom_16 rfl 0 rfl ?_
  refine g_aload_n C dX9_copyFrom_17 rfl 1 rfl ?_
  refine g_get C (s_isTown hk1 ad cy _) rfl hin_X9 2 (by decide) hF_X9_37 rfl rfl dX9_copyFrom_18 ?_
  obtain ⟨v5, ev5, hf⟩ := ol_e hf
  refine g_nm ev5 ?_
  obtain ⟨σ6, eσ6, hf⟩ := ol_e hf
  refine g_put (ty := .int) C (s_isTown hk ad cy _) rfl hin_X9 tyX9 tyX9_ok nmX9 2 (by decide) hF_X9_37 rfl rfl (by decide +kernel) rfl rfl (Nat.le_of_ble_eq_true rfl) (ps_isTown_2 hk ad cy _ _) eσ6 dX9_copyFrom_21 ?_
  refine g_aload_n C dX9_copyFrom_24 rfl 1 rfl ?_
  refine g_get C (s_isTown hk1 ad cy _) rfl hin_X9 3 (by decide) hF_X9_18 rfl rfl dX9_copyFrom_25 ?_
  refine g_iconst (v := 0) C dX9_copyFrom_28 (by decide) ?_
  refine g_aload_n C dX9_copyFrom_29 rfl 0 rfl ?_
  refine g_get C (s_isTown hk ad cy _) rfl hin_X9 3 (by decide) hF_X9_18 rfl rfl dX9_copyFrom_30 ?_
  refine g_iconst (v := 0) C dX9_copyFrom_33 (by decide) ?_
  refine g_bipush (v := 6) C dX9_copyFrom_34 (by decide) ?_
  obtain ⟨σ7, eσ7, hf⟩ := ol_e hf
  refine g_copy C hM_X9_43 (s_row hk1.r1 ad cy _) (s_row hk.r1 ad cy _) (by decide) (by decide) (by decide) ⟨Nat.le_of_ble_eq_true rfl, Nat.le_of_ble_eq_true rfl⟩ (fun f => ws_row hk.r1 ad cy f) eσ7 dX9_copyFrom_36 ?_
  refine g_aload_n C dX9_copyFrom_39 rfl 1 rfl ?_
  refine g_get C (s_isTown hk1 ad cy _) rfl hin_X9 4 (by decide) hF_X9_22 rfl rfl dX9_copyFrom_40 ?_
  refine g_iconst (v := 0) C dX9_copyFrom_43 (by decide) ?_
  refine g_aload_n C dX9_copyFrom_44 rfl 0 rfl ?_
  refine g_get C (s_isTown hk ad cy _) rfl hin_X9 4 (by decide) hF_X9_22 rfl rfl dX9_copyFrom_45 ?_
  refine g_iconst (v := 0) C dX9_copyFrom_48 (by decide) ?_
  refine g_bipush (v := 6) C dX9_copyFrom_49 (by decide) ?_
  obtain ⟨σ8, eσ8, hf⟩ := ol_e hf
  refine g_copy C hM_X9_43 (s_row hk1.r2 ad cy _) (s_row hk.r2 ad cy _) (by decide) (by decide) (by decide) ⟨Nat.le_of_ble_eq_true rfl, Nat.le_of_ble_eq_true rfl⟩ (fun f => ws_row hk.r2 ad cy f) eσ8 dX9_copyFrom_51 ?_
  refine g_iconst (v := 0) C dX9_copyFrom_54 (by decide) ?_
  refine g_istore_n (lv2 := [(0, .ref (ad k)), (1, .ref (ad k1)), (2, .int 0)]) C dX9_copyFrom_55 rfl (by decide) [1, 2, 0] rfl ?_
  exact g_sub [0, 1, 2] rfl (fX9_copyFrom_h56_ok C 400 σ8 k k1 0 hk hk1 hf)
theorem c_X9_copyFrom (l : Launch) (dC : Nat → ClassId) (dI : Nat → Nat → Nat) (ad : Nat → Nat) (cy : Nat → ClassId) (k : Nat) (hk : isTown k) (k1 : Nat) (hk1 : isTown k1) : ConV l yX9_copyFrom cX9_copyFrom 3 none rm_X9_copyFrom dC dI ad cy [.ref (ad k), .ref (ad k1)] (fun σ => fX9_copyFrom σ k k1) := con_v (own := RX9) (by decide) rfl (Nat.le_of_ble_eq_true rfl) (fun _ _ _ _ _ _ _ _ σ _ _ C hf => fX9_copyFrom_ok C σ k k1 hk hk1 hf)
theorem cal_X9_copyFrom : CalV yX9_copyFrom RX9 cX9_copyFrom 3 none 1 := ⟨hI_X9_copyFrom, hS_X9_copyFrom, hIni_X9, hC_X9_copyFrom, by decide +kernel⟩
abbrev rm_X9_hasHouse : Room := { frames := 0, cells := 0, slots := 0, locals := 0 }
def fX9_hasHouse (σ : S0) (k : Nat) (x1 : Int32) : Option (Int32 × S0) := if x1 < 0 then (some (0, σ)) else (if (σ k 0) ≤ x1 then (some (0, σ)) else (some (1, σ)))
set_option maxHeartbeats 1000000 in
set_option maxRecDepth 100000 in
theorem fX9_hasHouse_ok {p : Program} {l : Launch} {e : Env} {s : State} {m : MethodId} {args : Array Value} {below : List Frame} {meth : Method} {c : Code} {dC : Nat → ClassId} {dI : Nat → Nat → Nat} {ad : Nat → Nat} {cy : Nat → ClassId} {sz : Nat} (C : Cx p s m args meth c RX9 cX9_hasHouse 2 (some .boolean) dC dI ad cy sz) {rr : Int32} {ρ : S0} (σ : S0) (k : Nat) (x1 : Int32) (hk : isTown k) (hf : fX9_hasHouse σ k x1 = some (rr, ρ)) : Gw p l e rm_X9_hasHouse s m args below meth c (MQ below (QcI dC dI ad cy sz rr ρ) args s 0 0 (AW ad sz)) dC dI ad cy 2 sz 0 0 0 [(0, .ref (ad k)), (1, .int x1)] [] σ := by
  unfold fX9_hasHouse at hf
  refine g_iload_n C dX9_hasHouse_0 rfl 1 rfl ?_
  rcases oi_e hf with ⟨c1, hf⟩ | ⟨c1, hf⟩
  · refine g_if_lt_t (tgt := 16) C dX9_hasHouse_1 (by decide) c1 ?_
    refine g_iconst (v := 0) C dX9_hasHouse_16 (by decide) ?_
    obtain ⟨rfl, rfl⟩ := os_e hf
    exact g_zret C rfl (by decide) dX9_hasHouse_17
  · refine g_if_lt_f (tgt := 16) C dX9_hasHouse_1 (by decide) c1 ?_
    refine g_iload_n C dX9_hasHouse_4 rfl 1 rfl ?_
    refine g_aload_n C dX9_hasHouse_5 rfl 0 rfl ?_
    refine g_get C (s_isTown hk ad cy _) rfl hin_X9 0 (by decide) hF_X9_9 rfl rfl dX9_hasHouse_6 ?_
    rcases oi_e hf with ⟨c2, hf⟩ | ⟨c2, hf⟩
    · refine g_icmp_ge_t (tgt := 16) C dX9_hasHouse_9 (by decide) c2 ?_
      refine g_iconst (v := 0) C dX9_hasHouse_16 (by decide) ?_
      obtain ⟨rfl, rfl⟩ := os_e hf
      exact g_zret C rfl (by decide) dX9_hasHouse_17
    · refine g_icmp_ge_f (tgt := 16) C dX9_hasHouse_9 (by decide) c2 ?_
      refine g_iconst (v := 1) C dX9_hasHouse_12 (by decide) ?_
      refine g_goto (tgt := 17) C dX9_hasHouse_13 (by decide) ?_
      obtain ⟨rfl, rfl⟩ := os_e hf
      exact g_zret C rfl (by decide) dX9_hasHouse_17
theorem c_X9_hasHouse (l : Launch) (dC : Nat → ClassId) (dI : Nat → Nat → Nat) (ad : Nat → Nat) (cy : Nat → ClassId) (k : Nat) (hk : isTown k) (x1 : Int32) : ConI l yX9_hasHouse cX9_hasHouse 2 (some .boolean) rm_X9_hasHouse dC dI ad cy [.ref (ad k), .int x1] (fun σ => fX9_hasHouse σ k x1) := con_i (own := RX9) (by decide) rfl (Nat.le_of_ble_eq_true rfl) (fun _ _ _ _ _ _ _ _ σ _ _ C hf => fX9_hasHouse_ok C σ k x1 hk hf)
theorem cal_X9_hasHouse : CalV yX9_hasHouse RX9 cX9_hasHouse 2 (some .boolean) 1 := ⟨hI_X9_hasHouse, hS_X9_hasHouse, hIni_X9, hC_X9_hasHouse, by decide +kernel⟩
abbrev rm_X9_hasTune : Room := { frames := 0, cells := 0, slots := 0, locals := 0 }
def fX9_hasTune (σ : S0) (k : Nat) (x1 : Int32) : Option (Int32 × S0) := if x1 < 0 then (some (0, σ)) else (if (σ k 2) ≤ x1 then (some (0, σ)) else (some (1, σ)))
set_option maxHeartbeats 1000000 in
set_option maxRecDepth 100000 in
theorem fX9_hasTune_ok {p : Program} {l : Launch} {e : Env} {s : State} {m : MethodId} {args : Array Value} {below : List Frame} {meth : Method} {c : Code} {dC : Nat → ClassId} {dI : Nat → Nat → Nat} {ad : Nat → Nat} {cy : Nat → ClassId} {sz : Nat} (C : Cx p s m args meth c RX9 cX9_hasTune 2 (some .boolean) dC dI ad cy sz) {rr : Int32} {ρ : S0} (σ : S0) (k : Nat) (x1 : Int32) (hk : isTown k) (hf : fX9_hasTune σ k x1 = some (rr, ρ)) : Gw p l e rm_X9_hasTune s m args below meth c (MQ below (QcI dC dI ad cy sz rr ρ) args s 0 0 (AW ad sz)) dC dI ad cy 2 sz 0 0 0 [(0, .ref (ad k)), (1, .int x1)] [] σ := by
  unfold fX9_hasTune at hf
  refine g_iload_n C dX9_hasTune_0 rfl 1 rfl ?_
  rcases oi_e hf with ⟨c1, hf⟩ | ⟨c1, hf⟩
  · refine g_if_lt_t (tgt := 16) C dX9_hasTune_1 (by decide) c1 ?_
    refine g_iconst (v := 0) C dX9_hasTune_16 (by decide) ?_
    obtain ⟨rfl, rfl⟩ := os_e hf
    exact g_zret C rfl (by decide) dX9_hasTune_17
  · refine g_if_lt_f (tgt := 16) C dX9_hasTune_1 (by decide) c1 ?_
    refine g_iload_n C dX9_hasTune_4 rfl 1 rfl ?_
    refine g_aload_n C dX9_hasTune_5 rfl 0 rfl ?_
    refine g_get C (s_isTown hk ad cy _) rfl hin_X9 2 (by decide) hF_X9_37 rfl rfl dX9_hasTune_6 ?_
    rcases oi_e hf with ⟨c2, hf⟩ | ⟨c2, hf⟩
    · refine g_icmp_ge_t (tgt := 16) C dX9_hasTune_9 (by decide) c2 ?_
      refine g_iconst (v := 0) C dX9_hasTune_16 (by decide) ?_
      obtain ⟨rfl, rfl⟩ := os_e hf
      exact g_zret C rfl (by decide) dX9_hasTune_17
    · refine g_icmp_ge_f (tgt := 16) C dX9_hasTune_9 (by decide) c2 ?_
      refine g_iconst (v := 1) C dX9_hasTune_12 (by decide) ?_
      refine g_goto (tgt := 17) C dX9_hasTune_13 (by decide) ?_
      obtain ⟨rfl, rfl⟩ := os_e hf
      exact g_zret C rfl (by decide) dX9_hasTune_17
theorem c_X9_hasTune (l : Launch) (dC : Nat → ClassId) (dI : Nat → Nat → Nat) (ad : Nat → Nat) (cy : Nat → ClassId) (k : Nat) (hk : isTown k) (x1 : Int32) : ConI l yX9_hasTune cX9_hasTune 2 (some .boolean) rm_X9_hasTune dC dI ad cy [.ref (ad k), .int x1] (fun σ => fX9_hasTune σ k x1) := con_i (own := RX9) (by decide) rfl (Nat.le_of_ble_eq_true rfl) (fun _ _ _ _ _ _ _ _ σ _ _ C hf => fX9_hasTune_ok C σ k x1 hk hf)
theorem cal_X9_hasTune : CalV yX9_hasTune RX9 cX9_hasTune 2 (some .boolean) 1 := ⟨hI_X9_hasTune, hS_X9_hasTune, hIni_X9, hC_X9_hasTune, by decide +kernel⟩
abbrev rm_X9_asksStroke : Room := { frames := 0, cells := 0, slots := 0, locals := 0 }
def fX9_asksStroke (σ : S0) (k : Nat) (x1 : Int32) (x2 : Int32) : Option (Int32 × S0) := if x2 < 10 then (some (0, σ)) else (og (¬ (x1 < 0 ∨ 6 ≤ x1.toNatClampNeg)) (ol (σ (k + 2) x1.toNatClampNeg) (fun v3 => if (10 + v3) ≤ x2 then (some (0, σ)) else (some (1, σ)))))
set_option maxHeartbeats 1000000 in
set_option maxRecDepth 100000 in
theorem fX9_asksStroke_ok {p : Program} {l : Launch} {e : Env} {s : State} {m : MethodId} {args : Array Value} {below : List Frame} {meth : Method} {c : Code} {dC : Nat → ClassId} {dI : Nat → Nat → Nat} {ad : Nat → Nat} {cy : Nat → ClassId} {sz : Nat} (C : Cx p s m args meth c RX9 cX9_asksStroke 3 (some .boolean) dC dI ad cy sz) {rr : Int32} {ρ : S0} (σ : S0) (k : Nat) (x1 : Int32) (x2 : Int32) (hk : isTown k) (hf : fX9_asksStroke σ k x1 x2 = some (rr, ρ)) : Gw p l e rm_X9_asksStroke s m args below meth c (MQ below (QcI dC dI ad cy sz rr ρ) args s 0 0 (AW ad sz)) dC dI ad cy 3 sz 0 0 0 [(0, .ref (ad k)), (1, .int x1), (2, .int x2)] [] σ := by
  unfold fX9_asksStroke at hf
  refine g_iload_n C dX9_asksStroke_0 rfl 2 rfl ?_
  refine g_bipush (v := 10) C dX9_asksStroke_1 (by decide) ?_
  rcases oi_e hf with ⟨c1, hf⟩ | ⟨c1, hf⟩
  · refine g_icmp_lt_t (tgt := 23) C dX9_asksStroke_3 (by decide) c1 ?_
    refine g_iconst (v := 0) C dX9_asksStroke_23 (by decide) ?_
    obtain ⟨rfl, rfl⟩ := os_e hf
    exact g_zret C rfl (by decide) dX9_asksStroke_24
  · refine g_icmp_lt_f (tgt := 23) C dX9_asksStroke_3 (by decide) c1 ?_
    refine g_iload_n C dX9_asksStroke_6 rfl 2 rfl ?_
    refine g_bipush (v := 10) C dX9_asksStroke_7 (by decide) ?_
    refine g_aload_n C dX9_asksStroke_9 rfl 0 rfl ?_
    refine g_get C (s_isTown hk ad cy _) rfl hin_X9 4 (by decide) hF_X9_22 rfl rfl dX9_asksStroke_10 ?_
    refine g_iload_n C dX9_asksStroke_13 rfl 1 rfl ?_
    obtain ⟨h2, hf⟩ := og_e hf
    refine g_iald C (s_row hk.r2 ad cy _) h2 dX9_asksStroke_14 ?_
    obtain ⟨v3, ev3, hf⟩ := ol_e hf
    refine g_nm ev3 ?_
    refine g_iadd C dX9_asksStroke_15 ?_
    rcases oi_e hf with ⟨c4, hf⟩ | ⟨c4, hf⟩
    · refine g_icmp_ge_t (tgt := 23) C dX9_asksStroke_16 (by decide) c4 ?_
      refine g_iconst (v := 0) C dX9_asksStroke_23 (by decide) ?_
      obtain ⟨rfl, rfl⟩ := os_e hf
      exact g_zret C rfl (by decide) dX9_asksStroke_24
    · refine g_icmp_ge_f (tgt := 23) C dX9_asksStroke_16 (by decide) c4 ?_
      refine g_iconst (v := 1) C dX9_asksStroke_19 (by decide) ?_
      refine g_goto (tgt := 24) C dX9_asksStroke_20 (by decide) ?_
      obtain ⟨rfl, rfl⟩ := os_e hf
      exact g_zret C rfl (by decide) dX9_asksStroke_24
theorem c_X9_asksStroke (l : Launch) (dC : Nat → ClassId) (dI : Nat → Nat → Nat) (ad : Nat → Nat) (cy : Nat → ClassId) (k : Nat) (hk : isTown k) (x1 : Int32) (x2 : Int32) : ConI l yX9_asksStroke cX9_asksStroke 3 (some .boolean) rm_X9_asksStroke dC dI ad cy [.ref (ad k), .int x1, .int x2] (fun σ => fX9_asksStroke σ k x1 x2) := con_i (own := RX9) (by decide) rfl (Nat.le_of_ble_eq_true rfl) (fun _ _ _ _ _ _ _ _ σ _ _ C hf => fX9_asksStroke_ok C σ k x1 x2 hk hf)
theorem cal_X9_asksStroke : CalV yX9_asksStroke RX9 cX9_asksStroke 3 (some .boolean) 2 := ⟨hI_X9_asksStroke, hS_X9_asksStroke, hIni_X9, hC_X9_asksStroke, by decide +kernel⟩
abbrev rm_X9_isWhole : Room := { frames := 1, cells := 0, slots := 0, locals := 21 }
def fX9_isWhole_b61 (sf_2 : S0 → Nat → Int32 → Option (Int32 × S0)) (σ : S0) (k : Nat) (x1 : Int32) : Option (Int32 × S0) := ol (x1 + 1) (fun v1 => sf_2 σ k v1)
set_option maxHeartbeats 1000000 in
set_option maxRecDepth 100000 in
theorem fX9_isWhole_b61_ok {p : Program} {l : Launch} {e : Env} {s : State} {m : MethodId} {args : Array Value} {below : List Frame} {meth : Method} {c : Code} {dC : Nat → ClassId} {dI : Nat → Nat → Nat} {ad : Nat → Nat} {cy : Nat → ClassId} {sz : Nat} (C : Cx p s m args meth c RX9 cX9_isWhole 3 (some .boolean) dC dI ad cy sz) {rr : Int32} {ρ : S0} (sf_2 : S0 → Nat → Int32 → Option (Int32 × S0)) (hs_2 : ∀ (σ : S0) (k : Nat) (x1 : Int32) (hk : isTown k), sf_2 σ k x1 = some (rr, ρ) → Gw p l e rm_X9_isWhole s m args below meth c (MQ below (QcI dC dI ad cy sz rr ρ) args s 0 0 (AW ad sz)) dC dI ad cy 3 sz 0 0 2 [(0, .ref (ad k)), (1, .int x1)] [] σ) (σ : S0) (k : Nat) (x1 : Int32) (hk : isTown k) (hf : fX9_isWhole_b61 sf_2 σ k x1 = some (rr, ρ)) : Gw p l e rm_X9_isWhole s m args below meth c (MQ below (QcI dC dI ad cy sz rr ρ) args s 0 0 (AW ad sz)) dC dI ad cy 3 sz 0 0 61 [(0, .ref (ad k)), (1, .int x1)] [] σ := by
  unfold fX9_isWhole_b61 at hf
  obtain ⟨v1, ev1, hf⟩ := ol_e hf
  refine g_iinc (j := 1) (w := 1) (lv2 := [(0, .ref (ad k)), (1, .int v1)]) C dX9_isWhole_61 rfl (by decide) ev1 (by decide) [1, 0] rfl ?_
  refine g_goto (tgt := 2) C dX9_isWhole_64 (by decide) ?_
  exact g_sub [0, 1] rfl (hs_2 σ k v1 hk hf)
def fX9_isWhole_b110 (sf_100 : S0 → Nat → Int32 → Option (Int32 × S0)) (sf_110 : S0 → Nat → Int32 → Int32 → Option (Int32 × S0)) (σ : S0) (k : Nat) (x1 : Int32) (x2 : Int32) : Option (Int32 × S0) := og (¬ (x1 < 0 ∨ 6 ≤ x1.toNatClampNeg)) (ol (σ (k + 2) x1.toNatClampNeg) (fun v2 => if v2 ≤ x2 then (ol (x1 + 1) (fun v4 => sf_100 σ k v4)) else (og (¬ (x1 < 0 ∨ 6 ≤ x1.toNatClampNeg)) (ol ((k + 4) + 1 * x1.toNatClampNeg) (fun q6 => og (¬ (x2 < 0 ∨ 12 ≤ x2.toNatClampNeg)) (ol (σ q6 x2.toNatClampNeg) (fun v8 => obp (fX1_hasBell σ (k + 10) v8) (fun r9 σ10 => if ¬ r9 = 0 then (ol (x2 + 1) (fun v13 => sf_110 σ10 k x1 v13)) else (some (0, σ10))))))))))
set_option maxHeartbeats 1000000 in
set_option maxRecDepth 100000 in
theorem fX9_isWhole_b110_ok {p : Program} {l : Launch} {e : Env} {s : State} {m : MethodId} {args : Array Value} {below : List Frame} {meth : Method} {c : Code} {dC : Nat → ClassId} {dI : Nat → Nat → Nat} {ad : Nat → Nat} {cy : Nat → ClassId} {sz : Nat} (C : Cx p s m args meth c RX9 cX9_isWhole 3 (some .boolean) dC dI ad cy sz) {rr : Int32} {ρ : S0} (sf_100 : S0 → Nat → Int32 → Option (Int32 × S0)) (hs_100 : ∀ (σ : S0) (k : Nat) (x1 : Int32) (hk : isTown k), sf_100 σ k x1 = some (rr, ρ) → Gw p l e rm_X9_isWhole s m args below meth c (MQ below (QcI dC dI ad cy sz rr ρ) args s 0 0 (AW ad sz)) dC dI ad cy 3 sz 0 0 100 [(0, .ref (ad k)), (1, .int x1)] [] σ) (sf_110 : S0 → Nat → Int32 → Int32 → Option (Int32 × S0)) (hs_110 : ∀ (σ : S0) (k : Nat) (x1 : Int32) (x2 : Int32) (hk : isTown k), sf_110 σ k x1 x2 = some (rr, ρ) → Gw p l e rm_X9_isWhole s m args below meth c (MQ below (QcI dC dI ad cy sz rr ρ) args s 0 0 (AW ad sz)) dC dI ad cy 3 sz 0 0 110 [(0, .ref (ad k)), (1, .int x1), (2, .int x2)] [] σ) (σ : S0) (k : Nat) (x1 : Int32) (x2 : Int32) (hk : isTown k) (hf : fX9_isWhole_b110 sf_100 sf_110 σ k x1 x2 = some (rr, ρ)) : Gw p l e rm_X9_isWhole s m args below meth c (MQ below (QcI dC dI ad cy sz rr ρ) args s 0 0 (AW ad sz)) dC dI ad cy 3 sz 0 0 110 [(0, .ref (ad k)), (1, .int x1), (2, .int x2)] [] σ := by
  unfold fX9_isWhole_b110 at hf
  refine g_iload_n C dX9_isWhole_110 rfl 2 rfl ?_
  refine g_aload_n C dX9_isWhole_111 rfl 0 rfl ?_
  refine g_get C (s_isTown hk ad cy _) rfl hin_X9 4 (by decide) hF_X9_22 rfl rfl dX9_isWhole_112 ?_
  refine g_iload_n C dX9_isWhole_115 rfl 1 rfl ?_
  obtain ⟨h1, hf⟩ := og_e hf
  refine g_iald C (s_row hk.r2 ad cy _) h1 dX9_isWhole_116 ?_
  obtain ⟨v2, ev2, hf⟩ := ol_e hf
  refine g_nm ev2 ?_
  rcases oi_e hf with ⟨c3, hf⟩ | ⟨c3, hf⟩
  · refine g_icmp_ge_t (tgt := 146) C dX9_isWhole_117 (by decide) c3 ?_
    obtain ⟨v4, ev4, hf⟩ := ol_e hf
    refine g_iinc (j := 1) (w := 1) (lv2 := [(0, .ref (ad k)), (1, .int v4), (2, .int x2)]) C dX9_isWhole_146 rfl (by decide) ev4 (by decide) [1, 0, 2] rfl ?_
    refine g_goto (tgt := 100) C dX9_isWhole_149 (by decide) ?_
    exact g_sub [0, 1] rfl (hs_100 σ k v4 hk hf)
  · refine g_icmp_ge_f (tgt := 146) C dX9_isWhole_117 (by decide) c3 ?_
    refine g_aload_n C dX9_isWhole_120 rfl 0 rfl ?_
    refine g_get C (s_isTown hk ad cy _) rfl hin_X9 6 (by decide) hF_X9_33 rfl rfl dX9_isWhole_121 ?_
    refine g_aload_n C dX9_isWhole_124 rfl 0 rfl ?_
    refine g_get C (s_isTown hk ad cy _) rfl hin_X9 5 (by decide) hF_X9_27 rfl rfl dX9_isWhole_125 ?_
    refine g_iload_n C dX9_isWhole_128 rfl 1 rfl ?_
    obtain ⟨h5, hf⟩ := og_e hf
    obtain ⟨q6, eq6, hf⟩ := ol_e hf
    refine g_aald C (s_out hk.r3 ad cy _) rfl rfl h5 dX9_isWhole_129 ?_
    refine g_nmr eq6 ?_
    have hq6 := (hk.ro h5 eq6)
    refine g_iload_n C dX9_isWhole_130 rfl 2 rfl ?_
    obtain ⟨h7, hf⟩ := og_e hf
    refine g_iald C (s_row hq6 ad cy _) h7 dX9_isWhole_131 ?_
    obtain ⟨v8, ev8, hf⟩ := ol_e hf
    refine g_nm ev8 ?_
    obtain ⟨r9, σ10, h11, hf⟩ := obp_e hf
    refine g_callVi (As := [.int v8]) (rest := []) C (s_isChimes hk.ch ad cy _) rfl (c_X1_hasBell l dC dI ad cy (k + 10) hk.ch v8) h11 hM_X9_69 cal_X1_hasBell ⟨Nat.zero_le _, Nat.zero_le _⟩ ⟨rfl, rfl⟩ ⟨Nat.le_of_ble_eq_true rfl, Nat.le_of_ble_eq_true rfl⟩ rfl rfl (Nat.le_of_ble_eq_true rfl) dX9_isWhole_132 ?_
    rcases oi_e hf with ⟨c12, hf⟩ | ⟨c12, hf⟩
    · refine g_if_ne_t (tgt := 140) C dX9_isWhole_135 (by decide) c12 ?_
      obtain ⟨v13, ev13, hf⟩ := ol_e hf
      refine g_iinc (j := 2) (w := 1) (lv2 := [(0, .ref (ad k)), (1, .int x1), (2, .int v13)]) C dX9_isWhole_140 rfl (by decide) ev13 (by decide) [1, 2, 0] rfl ?_
      refine g_goto (tgt := 110) C dX9_isWhole_143 (by decide) ?_
      exact g_sub [0, 1, 2] rfl (hs_110 σ10 k x1 v13 hk hf)
    · refine g_if_ne_f (tgt := 140) C dX9_isWhole_135 (by decide) (Decidable.of_not_not c12) ?_
      refine g_iconst (v := 0) C dX9_isWhole_138 (by decide) ?_
      obtain ⟨rfl, rfl⟩ := os_e hf
      exact g_zret C rfl (by decide) dX9_isWhole_139
def fX9_isWhole_h110 (sf_100 : S0 → Nat → Int32 → Option (Int32 × S0)) : Nat → S0 → Nat → Int32 → Int32 → Option (Int32 × S0)
  | 0 => fun _ _ _ _ => none
  | n + 1 => fun σ k x1 x2 => fX9_isWhole_b110 sf_100 (fX9_isWhole_h110 sf_100 n) σ k x1 x2
set_option maxHeartbeats 1000000 in
set_option maxRecDepth 100000 in
theorem fX9_isWhole_h110_ok {p : Program} {l : Launch} {e : Env} {s : State} {m : MethodId} {args : Array Value} {below : List Frame} {meth : Method} {c : Code} {dC : Nat → ClassId} {dI : Nat → Nat → Nat} {ad : Nat → Nat} {cy : Nat → ClassId} {sz : Nat} (C : Cx p s m args meth c RX9 cX9_isWhole 3 (some .boolean) dC dI ad cy sz) {rr : Int32} {ρ : S0} (sf_100 : S0 → Nat → Int32 → Option (Int32 × S0)) (hs_100 : ∀ (σ : S0) (k : Nat) (x1 : Int32) (hk : isTown k), sf_100 σ k x1 = some (rr, ρ) → Gw p l e rm_X9_isWhole s m args below meth c (MQ below (QcI dC dI ad cy sz rr ρ) args s 0 0 (AW ad sz)) dC dI ad cy 3 sz 0 0 100 [(0, .ref (ad k)), (1, .int x1)] [] σ) : ∀ (n : Nat) (σ : S0) (k : Nat) (x1 : Int32) (x2 : Int32) (hk : isTown k) (_hf : fX9_isWhole_h110 sf_100 n σ k x1 x2 = some (rr, ρ)), Gw p l e rm_X9_isWhole s m args below meth c (MQ below (QcI dC dI ad cy sz rr ρ) args s 0 0 (AW ad sz)) dC dI ad cy 3 sz 0 0 110 [(0, .ref (ad k)), (1, .int x1), (2, .int x2)] [] σ
  | 0, _, _, _, _, _, hf => by cases hf
  | n + 1, σ, k, x1, x2, hk, hf => fX9_isWhole_b110_ok C sf_100 hs_100 (fX9_isWhole_h110 sf_100 n) (fX9_isWhole_h110_ok C sf_100 hs_100 n) σ k x1 x2 hk hf
def fX9_isWhole_b100 (sf_100 : S0 → Nat → Int32 → Option (Int32 × S0)) (σ : S0) (k : Nat) (x1 : Int32) : Option (Int32 × S0) := if (σ k 2) ≤ x1 then (some (1, σ)) else (fX9_isWhole_h110 sf_100 400 σ k x1 0)
set_option maxHeartbeats 1000000 in
set_option maxRecDepth 100000 in
theorem fX9_isWhole_b100_ok {p : Program} {l : Launch} {e : Env} {s : State} {m : MethodId} {args : Array Value} {below : List Frame} {meth : Method} {c : Code} {dC : Nat → ClassId} {dI : Nat → Nat → Nat} {ad : Nat → Nat} {cy : Nat → ClassId} {sz : Nat} (C : Cx p s m args meth c RX9 cX9_isWhole 3 (some .boolean) dC dI ad cy sz) {rr : Int32} {ρ : S0} (sf_100 : S0 → Nat → Int32 → Option (Int32 × S0)) (hs_100 : ∀ (σ : S0) (k : Nat) (x1 : Int32) (hk : isTown k), sf_100 σ k x1 = some (rr, ρ) → Gw p l e rm_X9_isWhole s m args below meth c (MQ below (QcI dC dI ad cy sz rr ρ) args s 0 0 (AW ad sz)) dC dI ad cy 3 sz 0 0 100 [(0, .ref (ad k)), (1, .int x1)] [] σ) (σ : S0) (k : Nat) (x1 : Int32) (hk : isTown k) (hf : fX9_isWhole_b100 sf_100 σ k x1 = some (rr, ρ)) : Gw p l e rm_X9_isWhole s m args below meth c (MQ below (QcI dC dI ad cy sz rr ρ) args s 0 0 (AW ad sz)) dC dI ad cy 3 sz 0 0 100 [(0, .ref (ad k)), (1, .int x1)] [] σ := by
  unfold fX9_isWhole_b100 at hf
  refine g_iload_n C dX9_isWhole_100 rfl 1 rfl ?_
  refine g_aload_n C dX9_isWhole_101 rfl 0 rfl ?_
  refine g_get C (s_isTown hk ad cy _) rfl hin_X9 2 (by decide) hF_X9_37 rfl rfl dX9_isWhole_102 ?_
  rcases oi_e hf with ⟨c1, hf⟩ | ⟨c1, hf⟩
  · refine g_icmp_ge_t (tgt := 152) C dX9_isWhole_105 (by decide) c1 ?_
    refine g_iconst (v := 1) C dX9_isWhole_152 (by decide) ?_
    obtain ⟨rfl, rfl⟩ := os_e hf
    exact g_zret C rfl (by decide) dX9_isWhole_153
  · refine g_icmp_ge_f (tgt := 152) C dX9_isWhole_105 (by decide) c1 ?_
    refine g_iconst (v := 0) C dX9_isWhole_108 (by decide) ?_
    refine g_istore_n (lv2 := [(0, .ref (ad k)), (1, .int x1), (2, .int 0)]) C dX9_isWhole_109 rfl (by decide) [1, 2, 0] rfl ?_
    exact g_sub [0, 1, 2] rfl (fX9_isWhole_h110_ok C sf_100 hs_100 400 σ k x1 0 hk hf)
def fX9_isWhole_h100  : Nat → S0 → Nat → Int32 → Option (Int32 × S0)
  | 0 => fun _ _ _ => none
  | n + 1 => fun σ k x1 => fX9_isWhole_b100  (fX9_isWhole_h100  n) σ k x1
set_option maxHeartbeats 1000000 in
set_option maxRecDepth 100000 in
theorem fX9_isWhole_h100_ok {p : Program} {l : Launch} {e : Env} {s : State} {m : MethodId} {args : Array Value} {below : List Frame} {meth : Method} {c : Code} {dC : Nat → ClassId} {dI : Nat → Nat → Nat} {ad : Nat → Nat} {cy : Nat → ClassId} {sz : Nat} (C : Cx p s m args meth c RX9 cX9_isWhole 3 (some .boolean) dC dI ad cy sz) {rr : Int32} {ρ : S0}  : ∀ (n : Nat) (σ : S0) (k : Nat) (x1 : Int32) (hk : isTown k) (_hf : fX9_isWhole_h100  n σ k x1 = some (rr, ρ)), Gw p l e rm_X9_isWhole s m args below meth c (MQ below (QcI dC dI ad cy sz rr ρ) args s 0 0 (AW ad sz)) dC dI ad cy 3 sz 0 0 100 [(0, .ref (ad k)), (1, .int x1)] [] σ
  | 0, _, _, _, _, hf => by cases hf
  | n + 1, σ, k, x1, hk, hf => fX9_isWhole_b100_ok C  (fX9_isWhole_h100  n) (fX9_isWhole_h100_ok C  n) σ k x1 hk hf
def fX9_isWhole_b72 (sf_72 : S0 → Nat → Int32 → Option (Int32 × S0)) (σ : S0) (k : Nat) (x1 : Int32) : Option (Int32 × S0) := if (6 : Int32) ≤ x1 then (fX9_isWhole_h100 400 σ k 0) else (og (¬ (x1 < 0 ∨ 6 ≤ x1.toNatClampNeg)) (ol (σ (k + 10 + 6) x1.toNatClampNeg) (fun v3 => if v3 = 0 then (ol (x1 + 1) (fun v5 => sf_72 σ k v5)) else (some (0, σ)))))
set_option maxHeartbeats 1000000 in
set_option maxRecDepth 100000 in
theorem fX9_isWhole_b72_ok {p : Program} {l : Launch} {e : Env} {s : State} {m : MethodId} {args : Array Value} {below : List Frame} {meth : Method} {c : Code} {dC : Nat → ClassId} {dI : Nat → Nat → Nat} {ad : Nat → Nat} {cy : Nat → ClassId} {sz : Nat} (C : Cx p s m args meth c RX9 cX9_isWhole 3 (some .boolean) dC dI ad cy sz) {rr : Int32} {ρ : S0} (sf_72 : S0 → Nat → Int32 → Option (Int32 × S0)) (hs_72 : ∀ (σ : S0) (k : Nat) (x1 : Int32) (hk : isTown k), sf_72 σ k x1 = some (rr, ρ) → Gw p l e rm_X9_isWhole s m args below meth c (MQ below (QcI dC dI ad cy sz rr ρ) args s 0 0 (AW ad sz)) dC dI ad cy 3 sz 0 0 72 [(0, .ref (ad k)), (1, .int x1)] [] σ) (σ : S0) (k : Nat) (x1 : Int32) (hk : isTown k) (hf : fX9_isWhole_b72 sf_72 σ k x1 = some (rr, ρ)) : Gw p l e rm_X9_isWhole s m args below meth c (MQ below (QcI dC dI ad cy sz rr ρ) args s 0 0 (AW ad sz)) dC dI ad cy 3 sz 0 0 72 [(0, .ref (ad k)), (1, .int x1)] [] σ := by
  unfold fX9_isWhole_b72 at hf
  refine g_iload_n C dX9_isWhole_72 rfl 1 rfl ?_
  refine g_bipush (v := 6) C dX9_isWhole_73 (by decide) ?_
  rcases oi_e hf with ⟨c1, hf⟩ | ⟨c1, hf⟩
  · refine g_icmp_ge_t (tgt := 98) C dX9_isWhole_75 (by decide) c1 ?_
    refine g_iconst (v := 0) C dX9_isWhole_98 (by decide) ?_
    refine g_istore_n (lv2 := [(0, .ref (ad k)), (1, .int 0)]) C dX9_isWhole_99 rfl (by decide) [1, 0] rfl ?_
    exact g_sub [0, 1] rfl (fX9_isWhole_h100_ok C 400 σ k 0 hk hf)
  · refine g_icmp_ge_f (tgt := 98) C dX9_isWhole_75 (by decide) c1 ?_
    refine g_aload_n C dX9_isWhole_78 rfl 0 rfl ?_
    refine g_get C (s_isTown hk ad cy _) rfl hin_X9 6 (by decide) hF_X9_33 rfl rfl dX9_isWhole_79 ?_
    refine g_get C (s_isChimes hk.ch ad cy _) rfl hin_X1 6 (by decide) hF_X9_66 rfl rfl dX9_isWhole_82 ?_
    refine g_iload_n C dX9_isWhole_85 rfl 1 rfl ?_
    obtain ⟨h2, hf⟩ := og_e hf
    refine g_iald C (s_row hk.ch.r6 ad cy _) h2 dX9_isWhole_86 ?_
    obtain ⟨v3, ev3, hf⟩ := ol_e hf
    refine g_nm ev3 ?_
    rcases oi_e hf with ⟨c4, hf⟩ | ⟨c4, hf⟩
    · refine g_if_eq_t (tgt := 92) C dX9_isWhole_87 (by decide) c4 ?_
      obtain ⟨v5, ev5, hf⟩ := ol_e hf
      refine g_iinc (j := 1) (w := 1) (lv2 := [(0, .ref (ad k)), (1, .int v5)]) C dX9_isWhole_92 rfl (by decide) ev5 (by decide) [1, 0] rfl ?_
      refine g_goto (tgt := 72) C dX9_isWhole_95 (by decide) ?_
      exact g_sub [0, 1] rfl (hs_72 σ k v5 hk hf)
    · refine g_if_eq_f (tgt := 92) C dX9_isWhole_87 (by decide) c4 ?_
      refine g_iconst (v := 0) C dX9_isWhole_90 (by decide) ?_
      obtain ⟨rfl, rfl⟩ := os_e hf
      exact g_zret C rfl (by decide) dX9_isWhole_91
def fX9_isWhole_h72  : Nat → S0 → Nat → Int32 → Option (Int32 × S0)
  | 0 => fun _ _ _ => none
  | n + 1 => fun σ k x1 => fX9_isWhole_b72  (fX9_isWhole_h72  n) σ k x1
set_option maxHeartbeats 1000000 in
set_option maxRecDepth 100000 in
theorem fX9_isWhole_h72_ok {p : Program} {l : Launch} {e : Env} {s : State} {m : MethodId} {args : Array Value} {below : List Frame} {meth : Method} {c : Code} {dC : Nat → ClassId} {dI : Nat → Nat → Nat} {ad : Nat → Nat} {cy : Nat → ClassId} {sz : Nat} (C : Cx p s m args meth c RX9 cX9_isWhole 3 (some .boolean) dC dI ad cy sz) {rr : Int32} {ρ : S0}  : ∀ (n : Nat) (σ : S0) (k : Nat) (x1 : Int32) (hk : isTown k) (_hf : fX9_isWhole_h72  n σ k x1 = some (rr, ρ)), Gw p l e rm_X9_isWhole s m args below meth c (MQ below (QcI dC dI ad cy sz rr ρ) args s 0 0 (AW ad sz)) dC dI ad cy 3 sz 0 0 72 [(0, .ref (ad k)), (1, .int x1)] [] σ
  | 0, _, _, _, _, hf => by cases hf
  | n + 1, σ, k, x1, hk, hf => fX9_isWhole_b72_ok C  (fX9_isWhole_h72  n) (fX9_isWhole_h72_ok C  n) σ k x1 hk hf
def fX9_isWhole_b2 (sf_2 : S0 → Nat → Int32 → Option (Int32 × S0)) (σ : S0) (k : Nat) (x1 : Int32) : Option (Int32 × S0) := if (σ (k + 10) 0) ≤ x1 then (ol (σ k 0) (fun v2 => fX9_isWhole_h72 400 σ k v2)) else (og (¬ (x1 < 0 ∨ 12 ≤ x1.toNatClampNeg)) (ol (σ (k + 10 + 1) x1.toNatClampNeg) (fun v4 => obp (fX9_hasHouse σ k v4) (fun r5 σ6 => if r5 = 0 then (some (0, σ6)) else (og (¬ (x1 < 0 ∨ 12 ≤ x1.toNatClampNeg)) (ol (σ6 (k + 10 + 5) x1.toNatClampNeg) (fun v10 => if v10 = ((-4)) then (fX9_isWhole_b61 sf_2 σ6 k x1) else (og (¬ (x1 < 0 ∨ 12 ≤ x1.toNatClampNeg)) (ol (σ6 (k + 10 + 5) x1.toNatClampNeg) (fun v13 => obp (fX9_hasHouse σ6 k v13) (fun r14 σ15 => if ¬ r14 = 0 then (fX9_isWhole_b61 sf_2 σ15 k x1) else (some (0, σ15)))))))))))))
set_option maxHeartbeats 1000000 in
set_option maxRecDepth 100000 in
theorem fX9_isWhole_b2_ok {p : Program} {l : Launch} {e : Env} {s : State} {m : MethodId} {args : Array Value} {below : List Frame} {meth : Method} {c : Code} {dC : Nat → ClassId} {dI : Nat → Nat → Nat} {ad : Nat → Nat} {cy : Nat → ClassId} {sz : Nat} (C : Cx p s m args meth c RX9 cX9_isWhole 3 (some .boolean) dC dI ad cy sz) {rr : Int32} {ρ : S0} (sf_2 : S0 → Nat → Int32 → Option (Int32 × S0)) (hs_2 : ∀ (σ : S0) (k : Nat) (x1 : Int32) (hk : isTown k), sf_2 σ k x1 = some (rr, ρ) → Gw p l e rm_X9_isWhole s m args below meth c (MQ below (QcI dC dI ad cy sz rr ρ) args s 0 0 (AW ad sz)) dC dI ad cy 3 sz 0 0 2 [(0, .ref (ad k)), (1, .int x1)] [] σ) (σ : S0) (k : Nat) (x1 : Int32) (hk : isTown k) (hf : fX9_isWhole_b2 sf_2 σ k x1 = some (rr, ρ)) : Gw p l e rm_X9_isWhole s m args below meth c (MQ below (QcI dC dI ad cy sz rr ρ) args s 0 0 (AW ad sz)) dC dI ad cy 3 sz 0 0 2 [(0, .ref (ad k)), (1, .int x1)] [] σ := by
  unfold fX9_isWhole_b2 at hf
  refine g_iload_n C dX9_isWhole_2 rfl 1 rfl ?_
  refine g_aload_n C dX9_isWhole_3 rfl 0 rfl ?_
  refine g_get C (s_isTown hk ad cy _) rfl hin_X9 6 (by decide) hF_X9_33 rfl rfl dX9_isWhole_4 ?_
  refine g_get C (s_isChimes hk.ch ad cy _) rfl hin_X1 0 (by decide) hF_X9_53 rfl rfl dX9_isWhole_7 ?_
  rcases oi_e hf with ⟨c1, hf⟩ | ⟨c1, hf⟩
  · refine g_icmp_ge_t (tgt := 67) C dX9_isWhole_10 (by decide) c1 ?_
    refine g_aload_n C dX9_isWhole_67 rfl 0 rfl ?_
    refine g_get C (s_isTown hk ad cy _) rfl hin_X9 0 (by decide) hF_X9_9 rfl rfl dX9_isWhole_68 ?_
    obtain ⟨v2, ev2, hf⟩ := ol_e hf
    refine g_nm ev2 ?_
    refine g_istore_n (lv2 := [(0, .ref (ad k)), (1, .int v2)]) C dX9_isWhole_71 rfl (by decide) [1, 0] rfl ?_
    exact g_sub [0, 1] rfl (fX9_isWhole_h72_ok C 400 σ k v2 hk hf)
  · refine g_icmp_ge_f (tgt := 67) C dX9_isWhole_10 (by decide) c1 ?_
    refine g_aload_n C dX9_isWhole_13 rfl 0 rfl ?_
    refine g_aload_n C dX9_isWhole_14 rfl 0 rfl ?_
    refine g_get C (s_isTown hk ad cy _) rfl hin_X9 6 (by decide) hF_X9_33 rfl rfl dX9_isWhole_15 ?_
    refine g_get C (s_isChimes hk.ch ad cy _) rfl hin_X1 1 (by decide) hF_X9_56 rfl rfl dX9_isWhole_18 ?_
    refine g_iload_n C dX9_isWhole_21 rfl 1 rfl ?_
    obtain ⟨h3, hf⟩ := og_e hf
    refine g_iald C (s_row hk.ch.r1 ad cy _) h3 dX9_isWhole_22 ?_
    obtain ⟨v4, ev4, hf⟩ := ol_e hf
    refine g_nm ev4 ?_
    obtain ⟨r5, σ6, h7, hf⟩ := obp_e hf
    refine g_callVi (As := [.int v4]) (rest := []) C (s_isTown hk ad cy _) rfl (c_X9_hasHouse l dC dI ad cy k hk v4) h7 hM_X9_59 cal_X9_hasHouse ⟨Nat.zero_le _, Nat.zero_le _⟩ ⟨rfl, rfl⟩ ⟨Nat.le_of_ble_eq_true rfl, Nat.le_of_ble_eq_true rfl⟩ rfl rfl (Nat.le_of_ble_eq_true rfl) dX9_isWhole_23 ?_
    rcases oi_e hf with ⟨c8, hf⟩ | ⟨c8, hf⟩
    · refine g_if_eq_t (tgt := 59) C dX9_isWhole_26 (by decide) c8 ?_
      refine g_iconst (v := 0) C dX9_isWhole_59 (by decide) ?_
      obtain ⟨rfl, rfl⟩ := os_e hf
      exact g_zret C rfl (by decide) dX9_isWhole_60
    · refine g_if_eq_f (tgt := 59) C dX9_isWhole_26 (by decide) c8 ?_
      refine g_aload_n C dX9_isWhole_29 rfl 0 rfl ?_
      refine g_get C (s_isTown hk ad cy _) rfl hin_X9 6 (by decide) hF_X9_33 rfl rfl dX9_isWhole_30 ?_
      refine g_get C (s_isChimes hk.ch ad cy _) rfl hin_X1 5 (by decide) hF_X9_63 rfl rfl dX9_isWhole_33 ?_
      refine g_iload_n C dX9_isWhole_36 rfl 1 rfl ?_
      obtain ⟨h9, hf⟩ := og_e hf
      refine g_iald C (s_row hk.ch.r5 ad cy _) h9 dX9_isWhole_37 ?_
      obtain ⟨v10, ev10, hf⟩ := ol_e hf
      refine g_nm ev10 ?_
      refine g_bipush (v := (-4)) C dX9_isWhole_38 (by decide) ?_
      rcases oi_e hf with ⟨c11, hf⟩ | ⟨c11, hf⟩
      · refine g_icmp_eq_t (tgt := 61) C dX9_isWhole_40 (by decide) c11 ?_
        exact g_sub [0, 1] rfl (fX9_isWhole_b61_ok C sf_2 hs_2 σ6 k x1 hk hf)
      · refine g_icmp_eq_f (tgt := 61) C dX9_isWhole_40 (by decide) c11 ?_
        refine g_aload_n C dX9_isWhole_43 rfl 0 rfl ?_
        refine g_aload_n C dX9_isWhole_44 rfl 0 rfl ?_
        refine g_get C (s_isTown hk ad cy _) rfl hin_X9 6 (by decide) hF_X9_33 rfl rfl dX9_isWhole_45 ?_
        refine g_get C (s_isChimes hk.ch ad cy _) rfl hin_X1 5 (by decide) hF_X9_63 rfl rfl dX9_isWhole_48 ?_
        refine g_iload_n C dX9_isWhole_51 rfl 1 rfl ?_
        obtain ⟨h12, hf⟩ := og_e hf
        refine g_iald C (s_row hk.ch.r5 ad cy _) h12 dX9_isWhole_52 ?_
        obtain ⟨v13, ev13, hf⟩ := ol_e hf
        refine g_nm ev13 ?_
        obtain ⟨r14, σ15, h16, hf⟩ := obp_e hf
        refine g_callVi (As := [.int v13]) (rest := []) C (s_isTown hk ad cy _) rfl (c_X9_hasHouse l dC dI ad cy k hk v13) h16 hM_X9_59 cal_X9_hasHouse ⟨Nat.zero_le _, Nat.zero_le _⟩ ⟨rfl, rfl⟩ ⟨Nat.le_of_ble_eq_true rfl, Nat.le_of_ble_eq_true rfl⟩ rfl rfl (Nat.le_of_ble_eq_true rfl) dX9_isWhole_53 ?_
        rcases oi_e hf with ⟨c17, hf⟩ | ⟨c17, hf⟩
        · refine g_if_ne_t (tgt := 61) C dX9_isWhole_56 (by decide) c17 ?_
          exact g_sub [0, 1] rfl (fX9_isWhole_b61_ok C sf_2 hs_2 σ15 k x1 hk hf)
        · refine g_if_ne_f (tgt := 61) C dX9_isWhole_56 (by decide) (Decidable.of_not_not c17) ?_
          refine g_iconst (v := 0) C dX9_isWhole_59 (by decide) ?_
          obtain ⟨rfl, rfl⟩ := os_e hf
          exact g_zret C rfl (by decide) dX9_isWhole_60
def fX9_isWhole_h2  : Nat → S0 → Nat → Int32 → Option (Int32 × S0)
  | 0 => fun _ _ _ => none
  | n + 1 => fun σ k x1 => fX9_isWhole_b2  (fX9_isWhole_h2  n) σ k x1
set_option maxHeartbeats 1000000 in
set_option maxRecDepth 100000 in
theorem fX9_isWhole_h2_ok {p : Program} {l : Launch} {e : Env} {s : State} {m : MethodId} {args : Array Value} {below : List Frame} {meth : Method} {c : Code} {dC : Nat → ClassId} {dI : Nat → Nat → Nat} {ad : Nat → Nat} {cy : Nat → ClassId} {sz : Nat} (C : Cx p s m args meth c RX9 cX9_isWhole 3 (some .boolean) dC dI ad cy sz) {rr : Int32} {ρ : S0}  : ∀ (n : Nat) (σ : S0) (k : Nat) (x1 : Int32) (hk : isTown k) (_hf : fX9_isWhole_h2  n σ k x1 = some (rr, ρ)), Gw p l e rm_X9_isWhole s m args below meth c (MQ below (QcI dC dI ad cy sz rr ρ) args s 0 0 (AW ad sz)) dC dI ad cy 3 sz 0 0 2 [(0, .ref (ad k)), (1, .int x1)] [] σ
  | 0, _, _, _, _, hf => by cases hf
  | n + 1, σ, k, x1, hk, hf => fX9_isWhole_b2_ok C  (fX9_isWhole_h2  n) (fX9_isWhole_h2_ok C  n) σ k x1 hk hf
def fX9_isWhole (σ : S0) (k : Nat) : Option (Int32 × S0) := fX9_isWhole_h2 400 σ k 0
set_option maxHeartbeats 1000000 in
set_option maxRecDepth 100000 in
theorem fX9_isWhole_ok {p : Program} {l : Launch} {e : Env} {s : State} {m : MethodId} {args : Array Value} {below : List Frame} {meth : Method} {c : Code} {dC : Nat → ClassId} {dI : Nat → Nat → Nat} {ad : Nat → Nat} {cy : Nat → ClassId} {sz : Nat} (C : Cx p s m args meth c RX9 cX9_isWhole 3 (some .boolean) dC dI ad cy sz) {rr : Int32} {ρ : S0} (σ : S0) (k : Nat) (hk : isTown k) (hf : fX9_isWhole σ k = some (rr, ρ)) : Gw p l e rm_X9_isWhole s m args below meth c (MQ below (QcI dC dI ad cy sz rr ρ) args s 0 0 (AW ad sz)) dC dI ad cy 3 sz 0 0 0 [(0, .ref (ad k))] [] σ := by
  unfold fX9_isWhole at hf
  refine g_iconst (v := 0) C dX9_isWhole_0 (by decide) ?_
  refine g_istore_n (lv2 := [(0, .ref (ad k)), (1, .int 0)]) C dX9_isWhole_1 rfl (by decide) [1, 0] rfl ?_
  exact g_sub [0, 1] rfl (fX9_isWhole_h2_ok C 400 σ k 0 hk hf)
theorem c_X9_isWhole (l : Launch) (dC : Nat → ClassId) (dI : Nat → Nat → Nat) (ad : Nat → Nat) (cy : Nat → ClassId) (k : Nat) (hk : isTown k) : ConI l yX9_isWhole cX9_isWhole 3 (some .boolean) rm_X9_isWhole dC dI ad cy [.ref (ad k)] (fun σ => fX9_isWhole σ k) := con_i (own := RX9) (by decide) rfl (Nat.le_of_ble_eq_true rfl) (fun _ _ _ _ _ _ _ _ σ _ _ C hf => fX9_isWhole_ok C σ k hk hf)
theorem cal_X9_isWhole : CalV yX9_isWhole RX9 cX9_isWhole 3 (some .boolean) 0 := ⟨hI_X9_isWhole, hS_X9_isWhole, hIni_X9, hC_X9_isWhole, by decide +kernel⟩
abbrev rm_X6_play : Room := { frames := 0, cells := 0, slots := 0, locals := 0 }
def fX6_play_b159 (sf_22 : S0 → Int32 → Int32 → Int32 → Int32 → Option (Int32 × S0)) (σ : S0) (x1 : Int32) (x2 : Int32) (x3 : Int32) (x4 : Int32) : Option (Int32 × S0) := ol (x4 + 1) (fun v1 => sf_22 σ x1 x2 x3 v1)
set_option maxHeartbeats 1000000 in
set_option maxRecDepth 100000 in
theorem fX6_play_b159_ok {p : Program} {l : Launch} {e : Env} {s : State} {m : MethodId} {args : Array Value} {below : List Frame} {meth : Method} {c : Code} {dC : Nat → ClassId} {dI : Nat → Nat → Nat} {ad : Nat → Nat} {cy : Nat → ClassId} {sz : Nat} (C : Cx p s m args meth c RX6 cX6_play 7 none dC dI ad cy sz) {rr : Int32} {ρ : S0} (sf_22 : S0 → Int32 → Int32 → Int32 → Int32 → Option (Int32 × S0)) (hs_22 : ∀ (σ : S0) (x1 : Int32) (x2 : Int32) (x3 : Int32) (x4 : Int32) , sf_22 σ x1 x2 x3 x4 = some (rr, ρ) → Gw p l e rm_X6_play s m args below meth c (MQ below (QcV dC dI ad cy sz ρ) args s 0 0 (AW ad sz)) dC dI ad cy 7 sz 0 0 22 [(0, .ref (ad 40)), (1, .int x1), (2, .int x2), (3, .int x3), (4, .int x4)] [] σ) (σ : S0) (x1 : Int32) (x2 : Int32) (x3 : Int32) (x4 : Int32)  (hf : fX6_play_b159 sf_22 σ x1 x2 x3 x4 = some (rr, ρ)) : Gw p l e rm_X6_play s m args below meth c (MQ below (QcV dC dI ad cy sz ρ) args s 0 0 (AW ad sz)) dC dI ad cy 7 sz 0 0 159 [(0, .ref (ad 40)), (1, .int x1), (2, .int x2), (3, .int x3), (4, .int x4)] [] σ := by
  unfold fX6_play_b159 at hf
  obtain ⟨v1, ev1, hf⟩ := ol_e hf
  refine g_iinc (j := 4) (w := 1) (lv2 := [(0, .ref (ad 40)), (1, .int x1), (2, .int x2), (3, .int x3), (4, .int v1)]) C dX6_play_159 rfl (by decide) ev1 (by decide) [1, 2, 3, 4, 0] rfl ?_
  refine g_goto (tgt := 22) C dX6_play_162 (by decide) ?_
  exact g_sub [0, 1, 2, 3, 4] rfl (hs_22 σ x1 x2 x3 v1 hf)
def fX6_play_b84 (sf_22 : S0 → Int32 → Int32 → Int32 → Int32 → Option (Int32 × S0)) (σ : S0) (x1 : Int32) (x2 : Int32) (x3 : Int32) (x4 : Int32) : Option (Int32 × S0) := ol ((σ 40 4) ||| ((1 : Int32) <<< (x4 &&& 31))) (fun v1 => ol (su σ 40 4 v1) (fun σ2 => ol (x2 + (σ2 22 1)) (fun v3 => fX6_play_b159 sf_22 σ2 x1 v3 x3 x4)))
set_option maxHeartbeats 1000000 in
set_option maxRecDepth 100000 in
theorem fX6_play_b84_ok {p : Program} {l : Launch} {e : Env} {s : State} {m : MethodId} {args : Array Value} {below : List Frame} {meth : Method} {c : Code} {dC : Nat → ClassId} {dI : Nat → Nat → Nat} {ad : Nat → Nat} {cy : Nat → ClassId} {sz : Nat} (C : Cx p s m args meth c RX6 cX6_play 7 none dC dI ad cy sz) {rr : Int32} {ρ : S0} (sf_22 : S0 → Int32 → Int32 → Int32 → Int32 → Option (Int32 × S0)) (hs_22 : ∀ (σ : S0) (x1 : Int32) (x2 : Int32) (x3 : Int32) (x4 : Int32) , sf_22 σ x1 x2 x3 x4 = some (rr, ρ) → Gw p l e rm_X6_play s m args below meth c (MQ below (QcV dC dI ad cy sz ρ) args s 0 0 (AW ad sz)) dC dI ad cy 7 sz 0 0 22 [(0, .ref (ad 40)), (1, .int x1), (2, .int x2), (3, .int x3), (4, .int x4)] [] σ) (σ : S0) (x1 : Int32) (x2 : Int32) (x3 : Int32) (x4 : Int32)  (hf : fX6_play_b84 sf_22 σ x1 x2 x3 x4 = some (rr, ρ)) : Gw p l e rm_X6_play s m args below meth c (MQ below (QcV dC dI ad cy sz ρ) args s 0 0 (AW ad sz)) dC dI ad cy 7 sz 0 0 84 [(0, .ref (ad 40)), (1, .int x1), (2, .int x2), (3, .int x3), (4, .int x4)] [] σ := by
  unfold fX6_play_b84 at hf
  refine g_aload_n C dX6_play_84 rfl 0 rfl ?_
  refine g_dup C dX6_play_85 rfl ?_
  refine g_get C (a_40 ad cy _) rfl hin_X6 4 (by decide) hF_X6_29 rfl rfl dX6_play_86 ?_
  refine g_iconst (v := 1) C dX6_play_89 (by decide) ?_
  refine g_iload C dX6_play_90 4 rfl ?_
  refine g_ishl C dX6_play_92 ?_
  refine g_ior C dX6_play_93 ?_
  obtain ⟨v1, ev1, hf⟩ := ol_e hf
  refine g_nm ev1 ?_
  obtain ⟨σ2, eσ2, hf⟩ := ol_e hf
  refine g_put (ty := .int) C (a_40 ad cy _) rfl hin_X6 tyX6 tyX6_ok nmX6 4 (by decide) hF_X6_29 rfl rfl (by decide +kernel) rfl rfl (Nat.le_of_ble_eq_true rfl) (p_40_4 ad cy _ _) eσ2 dX6_play_94 ?_
  refine g_iload_n C dX6_play_97 rfl 2 rfl ?_
  refine g_aload_n C dX6_play_98 rfl 0 rfl ?_
  refine g_get C (a_40 ad cy _) rfl hin_X6 0 (by decide) hF_X6_9 rfl rfl dX6_play_99 ?_
  refine g_get C (a_22 ad cy _) rfl hin_X9 1 (by decide) hF_X6_48 rfl rfl dX6_play_102 ?_
  refine g_iadd C dX6_play_105 ?_
  obtain ⟨v3, ev3, hf⟩ := ol_e hf
  refine g_nm ev3 ?_
  refine g_istore_n (lv2 := [(0, .ref (ad 40)), (1, .int x1), (2, .int v3), (3, .int x3), (4, .int x4)]) C dX6_play_106 rfl (by decide) [1, 2, 0, 3, 4] rfl ?_
  refine g_goto (tgt := 159) C dX6_play_107 (by decide) ?_
  exact g_sub [0, 1, 2, 3, 4] rfl (fX6_play_b159_ok C sf_22 hs_22 σ2 x1 v3 x3 x4 hf)
def fX6_play_b22 (sf_22 : S0 → Int32 → Int32 → Int32 → Int32 → Option (Int32 × S0)) (σ : S0) (x1 : Int32) (x2 : Int32) (x3 : Int32) (x4 : Int32) : Option (Int32 × S0) := og (¬ (x1 < 0 ∨ 6 ≤ x1.toNatClampNeg)) (ol (σ 24 x1.toNatClampNeg) (fun v2 => if v2 ≤ x4 then (og (¬ (x1 < 0 ∨ 6 ≤ x1.toNatClampNeg)) (ol (σ 23 x1.toNatClampNeg) (fun v5 => ol (((v5 - (σ 40 2)) - (σ 40 3)) - x2) (fun v6 => ol (su σ 40 5 v6) (fun σ7 => some (0, σ7)))))) else (og (¬ (x1 < 0 ∨ 6 ≤ x1.toNatClampNeg)) (ol (26 + 1 * x1.toNatClampNeg) (fun q9 => og (¬ (x4 < 0 ∨ 12 ≤ x4.toNatClampNeg)) (ol (σ q9 x4.toNatClampNeg) (fun v11 => og (¬ (v11 < 0 ∨ 12 ≤ v11.toNatClampNeg)) (ol (σ 33 v11.toNatClampNeg) (fun v13 => og (¬ (v11 < 0 ∨ 12 ≤ v11.toNatClampNeg)) (ol (σ 36 v11.toNatClampNeg) (fun v15 => if ¬ v15 = 0 then (fX6_play_b84 sf_22 σ x1 x2 x3 x4) else (if (x3 &&& ((1 : Int32) <<< (v13 &&& 31))) = 0 then (og (¬ (v11 < 0 ∨ 12 ≤ v11.toNatClampNeg)) (ol (σ 34 v11.toNatClampNeg) (fun v19 => ol ((σ 40 2) + v19) (fun v20 => ol (su σ 40 2 v20) (fun σ21 => og (¬ (v11 < 0 ∨ 12 ≤ v11.toNatClampNeg)) (ol (σ21 35 v11.toNatClampNeg) (fun v23 => ol ((σ21 40 3) + v23) (fun v24 => ol (su σ21 40 3 v24) (fun σ25 => og (¬ (v13 < 0 ∨ 6 ≤ v13.toNatClampNeg)) (ol (σ25 38 v13.toNatClampNeg) (fun v27 => fX6_play_b159 sf_22 σ25 x1 x2 v27 x4))))))))))) else (fX6_play_b84 sf_22 σ x1 x2 x3 x4)))))))))))))
set_option maxHeartbeats 1000000 in
set_option maxRecDepth 100000 in
theorem fX6_play_b22_ok {p : Program} {l : Launch} {e : Env} {s : State} {m : MethodId} {args : Array Value} {below : List Frame} {meth : Method} {c : Code} {dC : Nat → ClassId} {dI : Nat → Nat → Nat} {ad : Nat → Nat} {cy : Nat → ClassId} {sz : Nat} (C : Cx p s m args meth c RX6 cX6_play 7 none dC dI ad cy sz) {rr : Int32} {ρ : S0} (sf_22 : S0 → Int32 → Int32 → Int32 → Int32 → Option (Int32 × S0)) (hs_22 : ∀ (σ : S0) (x1 : Int32) (x2 : Int32) (x3 : Int32) (x4 : Int32) , sf_22 σ x1 x2 x3 x4 = some (rr, ρ) → Gw p l e rm_X6_play s m args below meth c (MQ below (QcV dC dI ad cy sz ρ) args s 0 0 (AW ad sz)) dC dI ad cy 7 sz 0 0 22 [(0, .ref (ad 40)), (1, .int x1), (2, .int x2), (3, .int x3), (4, .int x4)] [] σ) (σ : S0) (x1 : Int32) (x2 : Int32) (x3 : Int32) (x4 : Int32)  (hf : fX6_play_b22 sf_22 σ x1 x2 x3 x4 = some (rr, ρ)) : Gw p l e rm_X6_play s m args below meth c (MQ below (QcV dC dI ad cy sz ρ) args s 0 0 (AW ad sz)) dC dI ad cy 7 sz 0 0 22 [(0, .ref (ad 40)), (1, .int x1), (2, .int x2), (3, .int x3), (4, .int x4)] [] σ := by
  unfold fX6_play_b22 at hf
  refine g_iload C dX6_play_22 4 rfl ?_
  refine g_aload_n C dX6_play_24 rfl 0 rfl ?_
  refine g_get C (a_40 ad cy _) rfl hin_X6 0 (by decide) hF_X6_9 rfl rfl dX6_play_25 ?_
  refine g_get C (a_22 ad cy _) rfl hin_X9 4 (by decide) hF_X6_32 rfl rfl dX6_play_28 ?_
  refine g_iload_n C dX6_play_31 rfl 1 rfl ?_
  obtain ⟨h1, hf⟩ := og_e hf
  refine g_iald C (a_24 ad cy _) h1 dX6_play_32 ?_
  obtain ⟨v2, ev2, hf⟩ := ol_e hf
  refine g_nm ev2 ?_
  rcases oi_e hf with ⟨c3, hf⟩ | ⟨c3, hf⟩
  · refine g_icmp_ge_t (tgt := 165) C dX6_play_33 (by decide) c3 ?_
    refine g_aload_n C dX6_play_165 rfl 0 rfl ?_
    refine g_aload_n C dX6_play_166 rfl 0 rfl ?_
    refine g_get C (a_40 ad cy _) rfl hin_X6 0 (by decide) hF_X6_9 rfl rfl dX6_play_167 ?_
    refine g_get C (a_22 ad cy _) rfl hin_X9 3 (by decide) hF_X6_60 rfl rfl dX6_play_170 ?_
    refine g_iload_n C dX6_play_173 rfl 1 rfl ?_
    obtain ⟨h4, hf⟩ := og_e hf
    refine g_iald C (a_23 ad cy _) h4 dX6_play_174 ?_
    obtain ⟨v5, ev5, hf⟩ := ol_e hf
    refine g_nm ev5 ?_
    refine g_aload_n C dX6_play_175 rfl 0 rfl ?_
    refine g_get C (a_40 ad cy _) rfl hin_X6 2 (by decide) hF_X6_22 rfl rfl dX6_play_176 ?_
    refine g_isub C dX6_play_179 ?_
    refine g_aload_n C dX6_play_180 rfl 0 rfl ?_
    refine g_get C (a_40 ad cy _) rfl hin_X6 3 (by decide) hF_X6_26 rfl rfl dX6_play_181 ?_
    refine g_isub C dX6_play_184 ?_
    refine g_iload_n C dX6_play_185 rfl 2 rfl ?_
    refine g_isub C dX6_play_186 ?_
    obtain ⟨v6, ev6, hf⟩ := ol_e hf
    refine g_nm ev6 ?_
    obtain ⟨σ7, eσ7, hf⟩ := ol_e hf
    refine g_put (ty := .int) C (a_40 ad cy _) rfl hin_X6 tyX6 tyX6_ok nmX6 5 (by decide) hF_X6_63 rfl rfl (by decide +kernel) rfl rfl (Nat.le_of_ble_eq_true rfl) (p_40_5 ad cy _ _) eσ7 dX6_play_187 ?_
    obtain ⟨rfl, rfl⟩ := os_e hf
    exact g_vret C rfl dX6_play_190
  · refine g_icmp_ge_f (tgt := 165) C dX6_play_33 (by decide) c3 ?_
    refine g_aload_n C dX6_play_36 rfl 0 rfl ?_
    refine g_get C (a_40 ad cy _) rfl hin_X6 0 (by decide) hF_X6_9 rfl rfl dX6_play_37 ?_
    refine g_get C (a_22 ad cy _) rfl hin_X9 5 (by decide) hF_X6_36 rfl rfl dX6_play_40 ?_
    refine g_iload_n C dX6_play_43 rfl 1 rfl ?_
    obtain ⟨h8, hf⟩ := og_e hf
    obtain ⟨q9, eq9, hf⟩ := ol_e hf
    refine g_aald C (a_25 ad cy _) rfl rfl h8 dX6_play_44 ?_
    refine g_nmr eq9 ?_
    have hq9 := (o_25 h8 eq9)
    refine g_iload C dX6_play_45 4 rfl ?_
    obtain ⟨h10, hf⟩ := og_e hf
    refine g_iald C (s_row hq9 ad cy _) h10 dX6_play_47 ?_
    obtain ⟨v11, ev11, hf⟩ := ol_e hf
    refine g_nm ev11 ?_
    refine g_istore (lv2 := [(0, .ref (ad 40)), (1, .int x1), (2, .int x2), (3, .int x3), (4, .int x4), (5, .int v11)]) C dX6_play_48 (by decide) [1, 2, 3, 4, 5, 0] rfl ?_
    refine g_aload_n C dX6_play_50 rfl 0 rfl ?_
    refine g_get C (a_40 ad cy _) rfl hin_X6 1 (by decide) hF_X6_21 rfl rfl dX6_play_51 ?_
    refine g_get C (a_32 ad cy _) rfl hin_X1 1 (by decide) hF_X6_40 rfl rfl dX6_play_54 ?_
    refine g_iload C dX6_play_57 5 rfl ?_
    obtain ⟨h12, hf⟩ := og_e hf
    refine g_iald C (a_33 ad cy _) h12 dX6_play_59 ?_
    obtain ⟨v13, ev13, hf⟩ := ol_e hf
    refine g_nm ev13 ?_
    refine g_istore (lv2 := [(0, .ref (ad 40)), (1, .int x1), (2, .int x2), (3, .int x3), (4, .int x4), (5, .int v11), (6, .int v13)]) C dX6_play_60 (by decide) [1, 2, 3, 4, 5, 6, 0] rfl ?_
    refine g_aload_n C dX6_play_62 rfl 0 rfl ?_
    refine g_get C (a_40 ad cy _) rfl hin_X6 1 (by decide) hF_X6_21 rfl rfl dX6_play_63 ?_
    refine g_get C (a_32 ad cy _) rfl hin_X1 4 (by decide) hF_X6_45 rfl rfl dX6_play_66 ?_
    refine g_iload C dX6_play_69 5 rfl ?_
    obtain ⟨h14, hf⟩ := og_e hf
    refine g_iald C (a_36 ad cy _) h14 dX6_play_71 ?_
    obtain ⟨v15, ev15, hf⟩ := ol_e hf
    refine g_nm ev15 ?_
    rcases oi_e hf with ⟨c16, hf⟩ | ⟨c16, hf⟩
    · refine g_if_ne_t (tgt := 84) C dX6_play_72 (by decide) c16 ?_
      exact g_sub [0, 1, 2, 3, 4] rfl (fX6_play_b84_ok C sf_22 hs_22 σ x1 x2 x3 x4 hf)
    · refine g_if_ne_f (tgt := 84) C dX6_play_72 (by decide) (Decidable.of_not_not c16) ?_
      refine g_iload_n C dX6_play_75 rfl 3 rfl ?_
      refine g_iconst (v := 1) C dX6_play_76 (by decide) ?_
      refine g_iload C dX6_play_77 6 rfl ?_
      refine g_ishl C dX6_play_79 ?_
      refine g_iand C dX6_play_80 ?_
      rcases oi_e hf with ⟨c17, hf⟩ | ⟨c17, hf⟩
      · refine g_if_eq_t (tgt := 110) C dX6_play_81 (by decide) c17 ?_
        refine g_aload_n C dX6_play_110 rfl 0 rfl ?_
        refine g_dup C dX6_play_111 rfl ?_
        refine g_get C (a_40 ad cy _) rfl hin_X6 2 (by decide) hF_X6_22 rfl rfl dX6_play_112 ?_
        refine g_aload_n C dX6_play_115 rfl 0 rfl ?_
        refine g_get C (a_40 ad cy _) rfl hin_X6 1 (by decide) hF_X6_21 rfl rfl dX6_play_116 ?_
        refine g_get C (a_32 ad cy _) rfl hin_X1 2 (by decide) hF_X6_51 rfl rfl dX6_play_119 ?_
        refine g_iload C dX6_play_122 5 rfl ?_
        obtain ⟨h18, hf⟩ := og_e hf
        refine g_iald C (a_34 ad cy _) h18 dX6_play_124 ?_
        obtain ⟨v19, ev19, hf⟩ := ol_e hf
        refine g_nm ev19 ?_
        refine g_iadd C dX6_play_125 ?_
        obtain ⟨v20, ev20, hf⟩ := ol_e hf
        refine g_nm ev20 ?_
        obtain ⟨σ21, eσ21, hf⟩ := ol_e hf
        refine g_put (ty := .int) C (a_40 ad cy _) rfl hin_X6 tyX6 tyX6_ok nmX6 2 (by decide) hF_X6_22 rfl rfl (by decide +kernel) rfl rfl (Nat.le_of_ble_eq_true rfl) (p_40_2 ad cy _ _) eσ21 dX6_play_126 ?_
        refine g_aload_n C dX6_play_129 rfl 0 rfl ?_
        refine g_dup C dX6_play_130 rfl ?_
        refine g_get C (a_40 ad cy _) rfl hin_X6 3 (by decide) hF_X6_26 rfl rfl dX6_play_131 ?_
        refine g_aload_n C dX6_play_134 rfl 0 rfl ?_
        refine g_get C (a_40 ad cy _) rfl hin_X6 1 (by decide) hF_X6_21 rfl rfl dX6_play_135 ?_
        refine g_get C (a_32 ad cy _) rfl hin_X1 3 (by decide) hF_X6_54 rfl rfl dX6_play_138 ?_
        refine g_iload C dX6_play_141 5 rfl ?_
        obtain ⟨h22, hf⟩ := og_e hf
        refine g_iald C (a_35 ad cy _) h22 dX6_play_143 ?_
        obtain ⟨v23, ev23, hf⟩ := ol_e hf
        refine g_nm ev23 ?_
        refine g_iadd C dX6_play_144 ?_
        obtain ⟨v24, ev24, hf⟩ := ol_e hf
        refine g_nm ev24 ?_
        obtain ⟨σ25, eσ25, hf⟩ := ol_e hf
        refine g_put (ty := .int) C (a_40 ad cy _) rfl hin_X6 tyX6 tyX6_ok nmX6 3 (by decide) hF_X6_26 rfl rfl (by decide +kernel) rfl rfl (Nat.le_of_ble_eq_true rfl) (p_40_3 ad cy _ _) eσ25 dX6_play_145 ?_
        refine g_aload_n C dX6_play_148 rfl 0 rfl ?_
        refine g_get C (a_40 ad cy _) rfl hin_X6 1 (by decide) hF_X6_21 rfl rfl dX6_play_149 ?_
        refine g_get C (a_32 ad cy _) rfl hin_X1 6 (by decide) hF_X6_57 rfl rfl dX6_play_152 ?_
        refine g_iload C dX6_play_155 6 rfl ?_
        obtain ⟨h26, hf⟩ := og_e hf
        refine g_iald C (a_38 ad cy _) h26 dX6_play_157 ?_
        obtain ⟨v27, ev27, hf⟩ := ol_e hf
        refine g_nm ev27 ?_
        refine g_istore_n (lv2 := [(0, .ref (ad 40)), (1, .int x1), (2, .int x2), (3, .int v27), (4, .int x4), (5, .int v11), (6, .int v13)]) C dX6_play_158 rfl (by decide) [1, 2, 3, 0, 4, 5, 6] rfl ?_
        exact g_sub [0, 1, 2, 3, 4] rfl (fX6_play_b159_ok C sf_22 hs_22 σ25 x1 x2 v27 x4 hf)
      · refine g_if_eq_f (tgt := 110) C dX6_play_81 (by decide) c17 ?_
        exact g_sub [0, 1, 2, 3, 4] rfl (fX6_play_b84_ok C sf_22 hs_22 σ x1 x2 x3 x4 hf)
def fX6_play_h22  : Nat → S0 → Int32 → Int32 → Int32 → Int32 → Option (Int32 × S0)
  | 0 => fun _ _ _ _ _ => none
  | n + 1 => fun σ x1 x2 x3 x4 => fX6_play_b22  (fX6_play_h22  n) σ x1 x2 x3 x4
set_option maxHeartbeats 1000000 in
set_option maxRecDepth 100000 in
theorem fX6_play_h22_ok {p : Program} {l : Launch} {e : Env} {s : State} {m : MethodId} {args : Array Value} {below : List Frame} {meth : Method} {c : Code} {dC : Nat → ClassId} {dI : Nat → Nat → Nat} {ad : Nat → Nat} {cy : Nat → ClassId} {sz : Nat} (C : Cx p s m args meth c RX6 cX6_play 7 none dC dI ad cy sz) {rr : Int32} {ρ : S0}  : ∀ (n : Nat) (σ : S0) (x1 : Int32) (x2 : Int32) (x3 : Int32) (x4 : Int32)  (_hf : fX6_play_h22  n σ x1 x2 x3 x4 = some (rr, ρ)), Gw p l e rm_X6_play s m args below meth c (MQ below (QcV dC dI ad cy sz ρ) args s 0 0 (AW ad sz)) dC dI ad cy 7 sz 0 0 22 [(0, .ref (ad 40)), (1, .int x1), (2, .int x2), (3, .int x3), (4, .int x4)] [] σ
  | 0, _, _, _, _, _, hf => by cases hf
  | n + 1, σ, x1, x2, x3, x4, hf => fX6_play_b22_ok C  (fX6_play_h22  n) (fX6_play_h22_ok C  n) σ x1 x2 x3 x4 hf
def fX6_play (σ : S0) (x1 : Int32) : Option (Int32 × S0) := ol (su σ 40 2 0) (fun σ1 => ol (su σ1 40 3 0) (fun σ2 => ol (su σ2 40 4 0) (fun σ3 => fX6_play_h22 400 σ3 x1 0 0 0)))
set_option maxHeartbeats 1000000 in
set_option maxRecDepth 100000 in
theorem fX6_play_ok {p : Program} {l : Launch} {e : Env} {s : State} {m : MethodId} {args : Array Value} {below : List Frame} {meth : Method} {c : Code} {dC : Nat → ClassId} {dI : Nat → Nat → Nat} {ad : Nat → Nat} {cy : Nat → ClassId} {sz : Nat} (C : Cx p s m args meth c RX6 cX6_play 7 none dC dI ad cy sz) {rr : Int32} {ρ : S0} (σ : S0) (x1 : Int32)  (hf : fX6_play σ x1 = some (rr, ρ)) : Gw p l e rm_X6_play s m args below meth c (MQ below (QcV dC dI ad cy sz ρ) args s 0 0 (AW ad sz)) dC dI ad cy 7 sz 0 0 0 [(0, .ref (ad 40)), (1, .int x1)] [] σ := by
  unfold fX6_play at hf
  refine g_aload_n C dX6_play_0 rfl 0 rfl ?_
  refine g_iconst (v := 0) C dX6_play_1 (by decide) ?_
  obtain ⟨σ1, eσ1, hf⟩ := ol_e hf
  refine g_put (ty := .int) C (a_40 ad cy _) rfl hin_X6 tyX6 tyX6_ok nmX6 2 (by decide) hF_X6_22 rfl rfl (by decide +kernel) rfl rfl (Nat.le_of_ble_eq_true rfl) (p_40_2 ad cy _ _) eσ1 dX6_play_2 ?_
  refine g_aload_n C dX6_play_5 rfl 0 rfl ?_
  refine g_iconst (v := 0) C dX6_play_6 (by decide) ?_
  obtain ⟨σ2, eσ2, hf⟩ := ol_e hf
  refine g_put (ty := .int) C (a_40 ad cy _) rfl hin_X6 tyX6 tyX6_ok nmX6 3 (by decide) hF_X6_26 rfl rfl (by decide +kernel) rfl rfl (Nat.le_of_ble_eq_true rfl) (p_40_3 ad cy _ _) eσ2 dX6_play_7 ?_
  refine g_aload_n C dX6_play_10 rfl 0 rfl ?_
  refine g_iconst (v := 0) C dX6_play_11 (by decide) ?_
  obtain ⟨σ3, eσ3, hf⟩ := ol_e hf
  refine g_put (ty := .int) C (a_40 ad cy _) rfl hin_X6 tyX6 tyX6_ok nmX6 4 (by decide) hF_X6_29 rfl rfl (by decide +kernel) rfl rfl (Nat.le_of_ble_eq_true rfl) (p_40_4 ad cy _ _) eσ3 dX6_play_12 ?_
  refine g_iconst (v := 0) C dX6_play_15 (by decide) ?_
  refine g_istore_n (lv2 := [(0, .ref (ad 40)), (1, .int x1), (2, .int 0)]) C dX6_play_16 rfl (by decide) [1, 2, 0] rfl ?_
  refine g_iconst (v := 0) C dX6_play_17 (by decide) ?_
  refine g_istore_n (lv2 := [(0, .ref (ad 40)), (1, .int x1), (2, .int 0), (3, .int 0)]) C dX6_play_18 rfl (by decide) [1, 2, 3, 0] rfl ?_
  refine g_iconst (v := 0) C dX6_play_19 (by decide) ?_
  refine g_istore (lv2 := [(0, .ref (ad 40)), (1, .int x1), (2, .int 0), (3, .int 0), (4, .int 0)]) C dX6_play_20 (by decide) [1, 2, 3, 4, 0] rfl ?_
  exact g_sub [0, 1, 2, 3, 4] rfl (fX6_play_h22_ok C 400 σ3 x1 0 0 0 hf)
theorem c_X6_play (l : Launch) (dC : Nat → ClassId) (dI : Nat → Nat → Nat) (ad : Nat → Nat) (cy : Nat → ClassId) (x1 : Int32) : ConV l yX6_play cX6_play 7 none rm_X6_play dC dI ad cy [.ref (ad 40), .int x1] (fun σ => fX6_play σ x1) := con_v (own := RX6) (by decide) rfl (Nat.le_of_ble_eq_true rfl) (fun _ _ _ _ _ _ _ _ σ _ _ C hf => fX6_play_ok C σ x1 hf)
theorem cal_X6_play : CalV yX6_play RX6 cX6_play 7 none 1 := ⟨hI_X6_play, hS_X6_play, hIni_X6, hC_X6_play, by decide +kernel⟩
abbrev rm_X6_rang : Room := { frames := 0, cells := 0, slots := 0, locals := 0 }
def fX6_rang (σ : S0) (x1 : Int32) : Option (Int32 × S0) := if ¬ ((σ 40 4) &&& ((1 : Int32) <<< (x1 &&& 31))) = 0 then (some (0, σ)) else (some (1, σ))
set_option maxHeartbeats 1000000 in
set_option maxRecDepth 100000 in
theorem fX6_rang_ok {p : Program} {l : Launch} {e : Env} {s : State} {m : MethodId} {args : Array Value} {below : List Frame} {meth : Method} {c : Code} {dC : Nat → ClassId} {dI : Nat → Nat → Nat} {ad : Nat → Nat} {cy : Nat → ClassId} {sz : Nat} (C : Cx p s m args meth c RX6 cX6_rang 2 (some .boolean) dC dI ad cy sz) {rr : Int32} {ρ : S0} (σ : S0) (x1 : Int32)  (hf : fX6_rang σ x1 = some (rr, ρ)) : Gw p l e rm_X6_rang s m args below meth c (MQ below (QcI dC dI ad cy sz rr ρ) args s 0 0 (AW ad sz)) dC dI ad cy 2 sz 0 0 0 [(0, .ref (ad 40)), (1, .int x1)] [] σ := by
  unfold fX6_rang at hf
  refine g_aload_n C dX6_rang_0 rfl 0 rfl ?_
  refine g_get C (a_40 ad cy _) rfl hin_X6 4 (by decide) hF_X6_29 rfl rfl dX6_rang_1 ?_
  refine g_iconst (v := 1) C dX6_rang_4 (by decide) ?_
  refine g_iload_n C dX6_rang_5 rfl 1 rfl ?_
  refine g_ishl C dX6_rang_6 ?_
  refine g_iand C dX6_rang_7 ?_
  rcases oi_e hf with ⟨c1, hf⟩ | ⟨c1, hf⟩
  · refine g_if_ne_t (tgt := 15) C dX6_rang_8 (by decide) c1 ?_
    refine g_iconst (v := 0) C dX6_rang_15 (by decide) ?_
    obtain ⟨rfl, rfl⟩ := os_e hf
    exact g_zret C rfl (by decide) dX6_rang_16
  · refine g_if_ne_f (tgt := 15) C dX6_rang_8 (by decide) (Decidable.of_not_not c1) ?_
    refine g_iconst (v := 1) C dX6_rang_11 (by decide) ?_
    refine g_goto (tgt := 16) C dX6_rang_12 (by decide) ?_
    obtain ⟨rfl, rfl⟩ := os_e hf
    exact g_zret C rfl (by decide) dX6_rang_16
theorem c_X6_rang (l : Launch) (dC : Nat → ClassId) (dI : Nat → Nat → Nat) (ad : Nat → Nat) (cy : Nat → ClassId) (x1 : Int32) : ConI l yX6_rang cX6_rang 2 (some .boolean) rm_X6_rang dC dI ad cy [.ref (ad 40), .int x1] (fun σ => fX6_rang σ x1) := con_i (own := RX6) (by decide) rfl (Nat.le_of_ble_eq_true rfl) (fun _ _ _ _ _ _ _ _ σ _ _ C hf => fX6_rang_ok C σ x1 hf)
theorem cal_X6_rang : CalV yX6_rang RX6 cX6_rang 2 (some .boolean) 1 := ⟨hI_X6_rang, hS_X6_rang, hIni_X6, hC_X6_rang, by decide +kernel⟩
abbrev rm_X6_tuneTaken : Room := { frames := 1, cells := 0, slots := 0, locals := 26 }
def fX6_tuneTaken_b38 (sf_7 : S0 → Int32 → Int32 → Int32 → Option (Int32 × S0)) (σ : S0) (x1 : Int32) (x2 : Int32) (x3 : Int32) : Option (Int32 × S0) := ol (x3 + 1) (fun v1 => sf_7 σ x1 x2 v1)
set_option maxHeartbeats 1000000 in
set_option maxRecDepth 100000 in
theorem fX6_tuneTaken_b38_ok {p : Program} {l : Launch} {e : Env} {s : State} {m : MethodId} {args : Array Value} {below : List Frame} {meth : Method} {c : Code} {dC : Nat → ClassId} {dI : Nat → Nat → Nat} {ad : Nat → Nat} {cy : Nat → ClassId} {sz : Nat} (C : Cx p s m args meth c RX6 cX6_tuneTaken 4 (some .int) dC dI ad cy sz) {rr : Int32} {ρ : S0} (sf_7 : S0 → Int32 → Int32 → Int32 → Option (Int32 × S0)) (hs_7 : ∀ (σ : S0) (x1 : Int32) (x2 : Int32) (x3 : Int32) , sf_7 σ x1 x2 x3 = some (rr, ρ) → Gw p l e rm_X6_tuneTaken s m args below meth c (MQ below (QcI dC dI ad cy sz rr ρ) args s 0 0 (AW ad sz)) dC dI ad cy 4 sz 0 0 7 [(0, .ref (ad 40)), (1, .int x1), (2, .int x2), (3, .int x3)] [] σ) (σ : S0) (x1 : Int32) (x2 : Int32) (x3 : Int32)  (hf : fX6_tuneTaken_b38 sf_7 σ x1 x2 x3 = some (rr, ρ)) : Gw p l e rm_X6_tuneTaken s m args below meth c (MQ below (QcI dC dI ad cy sz rr ρ) args s 0 0 (AW ad sz)) dC dI ad cy 4 sz 0 0 38 [(0, .ref (ad 40)), (1, .int x1), (2, .int x2), (3, .int x3)] [] σ := by
  unfold fX6_tuneTaken_b38 at hf
  obtain ⟨v1, ev1, hf⟩ := ol_e hf
  refine g_iinc (j := 3) (w := 1) (lv2 := [(0, .ref (ad 40)), (1, .int x1), (2, .int x2), (3, .int v1)]) C dX6_tuneTaken_38 rfl (by decide) ev1 (by decide) [1, 2, 3, 0] rfl ?_
  refine g_goto (tgt := 7) C dX6_tuneTaken_41 (by decide) ?_
  exact g_sub [0, 1, 2, 3] rfl (hs_7 σ x1 x2 v1 hf)
def fX6_tuneTaken_b7 (sf_7 : S0 → Int32 → Int32 → Int32 → Option (Int32 × S0)) (σ : S0) (x1 : Int32) (x2 : Int32) (x3 : Int32) : Option (Int32 × S0) := if (σ 22 2) ≤ x3 then (some (x1, σ)) else (obp (fX6_play σ x3) (fun r2 σ3 => if (σ3 40 5) ≤ x2 then (fX6_tuneTaken_b38 sf_7 σ3 x1 x2 x3) else (ol (σ3 40 5) (fun v6 => fX6_tuneTaken_b38 sf_7 σ3 x3 v6 x3))))
set_option maxHeartbeats 1000000 in
set_option maxRecDepth 100000 in
theorem fX6_tuneTaken_b7_ok {p : Program} {l : Launch} {e : Env} {s : State} {m : MethodId} {args : Array Value} {below : List Frame} {meth : Method} {c : Code} {dC : Nat → ClassId} {dI : Nat → Nat → Nat} {ad : Nat → Nat} {cy : Nat → ClassId} {sz : Nat} (C : Cx p s m args meth c RX6 cX6_tuneTaken 4 (some .int) dC dI ad cy sz) {rr : Int32} {ρ : S0} (sf_7 : S0 → Int32 → Int32 → Int32 → Option (Int32 × S0)) (hs_7 : ∀ (σ : S0) (x1 : Int32) (x2 : Int32) (x3 : Int32) , sf_7 σ x1 x2 x3 = some (rr, ρ) → Gw p l e rm_X6_tuneTaken s m args below meth c (MQ below (QcI dC dI ad cy sz rr ρ) args s 0 0 (AW ad sz)) dC dI ad cy 4 sz 0 0 7 [(0, .ref (ad 40)), (1, .int x1), (2, .int x2), (3, .int x3)] [] σ) (σ : S0) (x1 : Int32) (x2 : Int32) (x3 : Int32)  (hf : fX6_tuneTaken_b7 sf_7 σ x1 x2 x3 = some (rr, ρ)) : Gw p l e rm_X6_tuneTaken s m args below meth c (MQ below (QcI dC dI ad cy sz rr ρ) args s 0 0 (AW ad sz)) dC dI ad cy 4 sz 0 0 7 [(0, .ref (ad 40)), (1, .int x1), (2, .int x2), (3, .int x3)] [] σ := by
  unfold fX6_tuneTaken_b7 at hf
  refine g_iload_n C dX6_tuneTaken_7 rfl 3 rfl ?_
  refine g_aload_n C dX6_tuneTaken_8 rfl 0 rfl ?_
  refine g_get C (a_40 ad cy _) rfl hin_X6 0 (by decide) hF_X6_9 rfl rfl dX6_tuneTaken_9 ?_
  refine g_get C (a_22 ad cy _) rfl hin_X9 2 (by decide) hF_X6_66 rfl rfl dX6_tuneTaken_12 ?_
  rcases oi_e hf with ⟨c1, hf⟩ | ⟨c1, hf⟩
  · refine g_icmp_ge_t (tgt := 44) C dX6_tuneTaken_15 (by decide) c1 ?_
    refine g_iload_n C dX6_tuneTaken_44 rfl 1 rfl ?_
    obtain ⟨rfl, rfl⟩ := os_e hf
    exact g_iret C rfl dX6_tuneTaken_45
  · refine g_icmp_ge_f (tgt := 44) C dX6_tuneTaken_15 (by decide) c1 ?_
    refine g_aload_n C dX6_tuneTaken_18 rfl 0 rfl ?_
    refine g_iload_n C dX6_tuneTaken_19 rfl 3 rfl ?_
    obtain ⟨r2, σ3, h4, hf⟩ := obp_e hf
    refine g_callVv (As := [.int x3]) (rest := []) C (a_40 ad cy _) rfl (c_X6_play l dC dI ad cy x3) h4 hM_X6_69 cal_X6_play ⟨Nat.zero_le _, Nat.zero_le _⟩ ⟨rfl, rfl⟩ ⟨Nat.le_of_ble_eq_true rfl, Nat.le_of_ble_eq_true rfl⟩ rfl rfl (Nat.le_of_ble_eq_true rfl) dX6_tuneTaken_20 ?_
    refine g_aload_n C dX6_tuneTaken_23 rfl 0 rfl ?_
    refine g_get C (a_40 ad cy _) rfl hin_X6 5 (by decide) hF_X6_63 rfl rfl dX6_tuneTaken_24 ?_
    refine g_iload_n C dX6_tuneTaken_27 rfl 2 rfl ?_
    rcases oi_e hf with ⟨c5, hf⟩ | ⟨c5, hf⟩
    · refine g_icmp_le_t (tgt := 38) C dX6_tuneTaken_28 (by decide) c5 ?_
      exact g_sub [0, 1, 2, 3] rfl (fX6_tuneTaken_b38_ok C sf_7 hs_7 σ3 x1 x2 x3 hf)
    · refine g_icmp_le_f (tgt := 38) C dX6_tuneTaken_28 (by decide) c5 ?_
      refine g_aload_n C dX6_tuneTaken_31 rfl 0 rfl ?_
      refine g_get C (a_40 ad cy _) rfl hin_X6 5 (by decide) hF_X6_63 rfl rfl dX6_tuneTaken_32 ?_
      obtain ⟨v6, ev6, hf⟩ := ol_e hf
      refine g_nm ev6 ?_
      refine g_istore_n (lv2 := [(0, .ref (ad 40)), (1, .int x1), (2, .int v6), (3, .int x3)]) C dX6_tuneTaken_35 rfl (by decide) [1, 2, 0, 3] rfl ?_
      refine g_iload_n C dX6_tuneTaken_36 rfl 3 rfl ?_
      refine g_istore_n (lv2 := [(0, .ref (ad 40)), (1, .int x3), (2, .int v6), (3, .int x3)]) C dX6_tuneTaken_37 rfl (by decide) [1, 0, 2, 3] rfl ?_
      exact g_sub [0, 1, 2, 3] rfl (fX6_tuneTaken_b38_ok C sf_7 hs_7 σ3 x3 v6 x3 hf)
def fX6_tuneTaken_h7  : Nat → S0 → Int32 → Int32 → Int32 → Option (Int32 × S0)
  | 0 => fun _ _ _ _ => none
  | n + 1 => fun σ x1 x2 x3 => fX6_tuneTaken_b7  (fX6_tuneTaken_h7  n) σ x1 x2 x3
set_option maxHeartbeats 1000000 in
set_option maxRecDepth 100000 in
theorem fX6_tuneTaken_h7_ok {p : Program} {l : Launch} {e : Env} {s : State} {m : MethodId} {args : Array Value} {below : List Frame} {meth : Method} {c : Code} {dC : Nat → ClassId} {dI : Nat → Nat → Nat} {ad : Nat → Nat} {cy : Nat → ClassId} {sz : Nat} (C : Cx p s m args meth c RX6 cX6_tuneTaken 4 (some .int) dC dI ad cy sz) {rr : Int32} {ρ : S0}  : ∀ (n : Nat) (σ : S0) (x1 : Int32) (x2 : Int32) (x3 : Int32)  (_hf : fX6_tuneTaken_h7  n σ x1 x2 x3 = some (rr, ρ)), Gw p l e rm_X6_tuneTaken s m args below meth c (MQ below (QcI dC dI ad cy sz rr ρ) args s 0 0 (AW ad sz)) dC dI ad cy 4 sz 0 0 7 [(0, .ref (ad 40)), (1, .int x1), (2, .int x2), (3, .int x3)] [] σ
  | 0, _, _, _, _, hf => by cases hf
  | n + 1, σ, x1, x2, x3, hf => fX6_tuneTaken_b7_ok C  (fX6_tuneTaken_h7  n) (fX6_tuneTaken_h7_ok C  n) σ x1 x2 x3 hf
def fX6_tuneTaken (σ : S0)  : Option (Int32 × S0) := fX6_tuneTaken_h7 400 σ ((-4)) 0 0
set_option maxHeartbeats 1000000 in
set_option maxRecDepth 100000 in
theorem fX6_tuneTaken_ok {p : Program} {l : Launch} {e : Env} {s : State} {m : MethodId} {args : Array Value} {below : List Frame} {meth : Method} {c : Code} {dC : Nat → ClassId} {dI : Nat → Nat → Nat} {ad : Nat → Nat} {cy : Nat → ClassId} {sz : Nat} (C : Cx p s m args meth c RX6 cX6_tuneTaken 4 (some .int) dC dI ad cy sz) {rr : Int32} {ρ : S0} (σ : S0)   (hf : fX6_tuneTaken σ = some (rr, ρ)) : Gw p l e rm_X6_tuneTaken s m args below meth c (MQ below (QcI dC dI ad cy sz rr ρ) args s 0 0 (AW ad sz)) dC dI ad cy 4 sz 0 0 0 [(0, .ref (ad 40))] [] σ := by
  unfold fX6_tuneTaken at hf
  refine g_bipush (v := (-4)) C dX6_tuneTaken_0 (by decide) ?_
  refine g_istore_n (lv2 := [(0, .ref (ad 40)), (1, .int ((-4)))]) C dX6_tuneTaken_2 rfl (by decide) [1, 0] rfl ?_
  refine g_iconst (v := 0) C dX6_tuneTaken_3 (by decide) ?_
  refine g_istore_n (lv2 := [(0, .ref (ad 40)), (1, .int ((-4))), (2, .int 0)]) C dX6_tuneTaken_4 rfl (by decide) [1, 2, 0] rfl ?_
  refine g_iconst (v := 0) C dX6_tuneTaken_5 (by decide) ?_
  refine g_istore_n (lv2 := [(0, .ref (ad 40)), (1, .int ((-4))), (2, .int 0), (3, .int 0)]) C dX6_tuneTaken_6 rfl (by decide) [1, 2, 3, 0] rfl ?_
  exact g_sub [0, 1, 2, 3] rfl (fX6_tuneTaken_h7_ok C 400 σ ((-4)) 0 0 hf)
theorem c_X6_tuneTaken (l : Launch) (dC : Nat → ClassId) (dI : Nat → Nat → Nat) (ad : Nat → Nat) (cy : Nat → ClassId)  : ConI l yX6_tuneTaken cX6_tuneTaken 4 (some .int) rm_X6_tuneTaken dC dI ad cy [.ref (ad 40)] (fun σ => fX6_tuneTaken σ) := con_i (own := RX6) (by decide) rfl (Nat.le_of_ble_eq_true rfl) (fun _ _ _ _ _ _ _ _ σ _ _ C hf => fX6_tuneTaken_ok C σ  hf)
theorem cal_X6_tuneTaken : CalV yX6_tuneTaken RX6 cX6_tuneTaken 4 (some .int) 0 := ⟨hI_X6_tuneTaken, hS_X6_tuneTaken, hIni_X6, hC_X6_tuneTaken, by decide +kernel⟩
abbrev rm_X6_shareOf : Room := { frames := 2, cells := 0, slots := 0, locals := 44 }
def fX6_shareOf_b56 (sf_10 : S0 → Int32 → Int32 → Int32 → Int32 → Option (Int32 × S0)) (σ : S0) (x1 : Int32) (x2 : Int32) (x3 : Int32) (x4 : Int32) : Option (Int32 × S0) := ol (x4 + 1) (fun v1 => sf_10 σ x1 x2 x3 v1)
set_option maxHeartbeats 1000000 in
set_option maxRecDepth 100000 in
theorem fX6_shareOf_b56_ok {p : Program} {l : Launch} {e : Env} {s : State} {m : MethodId} {args : Array Value} {below : List Frame} {meth : Method} {c : Code} {dC : Nat → ClassId} {dI : Nat → Nat → Nat} {ad : Nat → Nat} {cy : Nat → ClassId} {sz : Nat} (C : Cx p s m args meth c RX6 cX6_shareOf 5 (some .int) dC dI ad cy sz) {rr : Int32} {ρ : S0} (sf_10 : S0 → Int32 → Int32 → Int32 → Int32 → Option (Int32 × S0)) (hs_10 : ∀ (σ : S0) (x1 : Int32) (x2 : Int32) (x3 : Int32) (x4 : Int32) , sf_10 σ x1 x2 x3 x4 = some (rr, ρ) → Gw p l e rm_X6_shareOf s m args below meth c (MQ below (QcI dC dI ad cy sz rr ρ) args s 0 0 (AW ad sz)) dC dI ad cy 5 sz 0 0 10 [(0, .ref (ad 40)), (1, .int x1), (2, .int x2), (3, .int x3), (4, .int x4)] [] σ) (σ : S0) (x1 : Int32) (x2 : Int32) (x3 : Int32) (x4 : Int32)  (hf : fX6_shareOf_b56 sf_10 σ x1 x2 x3 x4 = some (rr, ρ)) : Gw p l e rm_X6_shareOf s m args below meth c (MQ below (QcI dC dI ad cy sz rr ρ) args s 0 0 (AW ad sz)) dC dI ad cy 5 sz 0 0 56 [(0, .ref (ad 40)), (1, .int x1), (2, .int x2), (3, .int x3), (4, .int x4)] [] σ := by
  unfold fX6_shareOf_b56 at hf
  obtain ⟨v1, ev1, hf⟩ := ol_e hf
  refine g_iinc (j := 4) (w := 1) (lv2 := [(0, .ref (ad 40)), (1, .int x1), (2, .int x2), (3, .int x3), (4, .int v1)]) C dX6_shareOf_56 rfl (by decide) ev1 (by decide) [1, 2, 3, 4, 0] rfl ?_
  refine g_goto (tgt := 10) C dX6_shareOf_59 (by decide) ?_
  exact g_sub [0, 1, 2, 3, 4] rfl (hs_10 σ x1 x2 x3 v1 hf)
def fX6_shareOf_b10 (sf_10 : S0 → Int32 → Int32 → Int32 → Int32 → Option (Int32 × S0)) (σ : S0) (x1 : Int32) (x2 : Int32) (x3 : Int32) (x4 : Int32) : Option (Int32 × S0) := og (¬ (x2 < 0 ∨ 6 ≤ x2.toNatClampNeg)) (ol (σ 24 x2.toNatClampNeg) (fun v2 => if v2 ≤ x4 then (some (x3, σ)) else (obp (fX6_rang σ x4) (fun r4 σ5 => if r4 = 0 then (fX6_shareOf_b56 sf_10 σ5 x1 x2 x3 x4) else (og (¬ (x2 < 0 ∨ 6 ≤ x2.toNatClampNeg)) (ol (26 + 1 * x2.toNatClampNeg) (fun q9 => og (¬ (x4 < 0 ∨ 12 ≤ x4.toNatClampNeg)) (ol (σ5 q9 x4.toNatClampNeg) (fun v11 => obp (fX1_shareOf σ5 32 x1 v11) (fun r12 σ13 => ol (x3 + r12) (fun v15 => fX6_shareOf_b56 sf_10 σ13 x1 x2 v15 x4)))))))))))
set_option maxHeartbeats 1000000 in
set_option maxRecDepth 100000 in
theorem fX6_shareOf_b10_ok {p : Program} {l : Launch} {e : Env} {s : State} {m : MethodId} {args : Array Value} {below : List Frame} {meth : Method} {c : Code} {dC : Nat → ClassId} {dI : Nat → Nat → Nat} {ad : Nat → Nat} {cy : Nat → ClassId} {sz : Nat} (C : Cx p s m args meth c RX6 cX6_shareOf 5 (some .int) dC dI ad cy sz) {rr : Int32} {ρ : S0} (sf_10 : S0 → Int32 → Int32 → Int32 → Int32 → Option (Int32 × S0)) (hs_10 : ∀ (σ : S0) (x1 : Int32) (x2 : Int32) (x3 : Int32) (x4 : Int32) , sf_10 σ x1 x2 x3 x4 = some (rr, ρ) → Gw p l e rm_X6_shareOf s m args below meth c (MQ below (QcI dC dI ad cy sz rr ρ) args s 0 0 (AW ad sz)) dC dI ad cy 5 sz 0 0 10 [(0, .ref (ad 40)), (1, .int x1), (2, .int x2), (3, .int x3), (4, .int x4)] [] σ) (σ : S0) (x1 : Int32) (x2 : Int32) (x3 : Int32) (x4 : Int32)  (hf : fX6_shareOf_b10 sf_10 σ x1 x2 x3 x4 = some (rr, ρ)) : Gw p l e rm_X6_shareOf s m args below meth c (MQ below (QcI dC dI ad cy sz rr ρ) args s 0 0 (AW ad sz)) dC dI ad cy 5 sz 0 0 10 [(0, .ref (ad 40)), (1, .int x1), (2, .int x2), (3, .int x3), (4, .int x4)] [] σ := by
  unfold fX6_shareOf_b10 at hf
  refine g_iload C dX6_shareOf_10 4 rfl ?_
  refine g_aload_n C dX6_shareOf_12 rfl 0 rfl ?_
  refine g_get C (a_40 ad cy _) rfl hin_X6 0 (by decide) hF_X6_9 rfl rfl dX6_shareOf_13 ?_
  refine g_get C (a_22 ad cy _) rfl hin_X9 4 (by decide) hF_X6_32 rfl rfl dX6_shareOf_16 ?_
  refine g_iload_n C dX6_shareOf_19 rfl 2 rfl ?_
  obtain ⟨h1, hf⟩ := og_e hf
  refine g_iald C (a_24 ad cy _) h1 dX6_shareOf_20 ?_
  obtain ⟨v2, ev2, hf⟩ := ol_e hf
  refine g_nm ev2 ?_
  rcases oi_e hf with ⟨c3, hf⟩ | ⟨c3, hf⟩
  · refine g_icmp_ge_t (tgt := 62) C dX6_shareOf_21 (by decide) c3 ?_
    refine g_iload_n C dX6_shareOf_62 rfl 3 rfl ?_
    obtain ⟨rfl, rfl⟩ := os_e hf
    exact g_iret C rfl dX6_shareOf_63
  · refine g_icmp_ge_f (tgt := 62) C dX6_shareOf_21 (by decide) c3 ?_
    refine g_aload_n C dX6_shareOf_24 rfl 0 rfl ?_
    refine g_iload C dX6_shareOf_25 4 rfl ?_
    obtain ⟨r4, σ5, h6, hf⟩ := obp_e hf
    refine g_callVi (As := [.int x4]) (rest := []) C (a_40 ad cy _) rfl (c_X6_rang l dC dI ad cy x4) h6 hM_X6_73 cal_X6_rang ⟨Nat.zero_le _, Nat.zero_le _⟩ ⟨rfl, rfl⟩ ⟨Nat.le_of_ble_eq_true rfl, Nat.le_of_ble_eq_true rfl⟩ rfl rfl (Nat.le_of_ble_eq_true rfl) dX6_shareOf_27 ?_
    rcases oi_e hf with ⟨c7, hf⟩ | ⟨c7, hf⟩
    · refine g_if_eq_t (tgt := 56) C dX6_shareOf_30 (by decide) c7 ?_
      exact g_sub [0, 1, 2, 3, 4] rfl (fX6_shareOf_b56_ok C sf_10 hs_10 σ5 x1 x2 x3 x4 hf)
    · refine g_if_eq_f (tgt := 56) C dX6_shareOf_30 (by decide) c7 ?_
      refine g_iload_n C dX6_shareOf_33 rfl 3 rfl ?_
      refine g_aload_n C dX6_shareOf_34 rfl 0 rfl ?_
      refine g_get C (a_40 ad cy _) rfl hin_X6 1 (by decide) hF_X6_21 rfl rfl dX6_shareOf_35 ?_
      refine g_iload_n C dX6_shareOf_38 rfl 1 rfl ?_
      refine g_aload_n C dX6_shareOf_39 rfl 0 rfl ?_
      refine g_get C (a_40 ad cy _) rfl hin_X6 0 (by decide) hF_X6_9 rfl rfl dX6_shareOf_40 ?_
      refine g_get C (a_22 ad cy _) rfl hin_X9 5 (by decide) hF_X6_36 rfl rfl dX6_shareOf_43 ?_
      refine g_iload_n C dX6_shareOf_46 rfl 2 rfl ?_
      obtain ⟨h8, hf⟩ := og_e hf
      obtain ⟨q9, eq9, hf⟩ := ol_e hf
      refine g_aald C (a_25 ad cy _) rfl rfl h8 dX6_shareOf_47 ?_
      refine g_nmr eq9 ?_
      have hq9 := (o_25 h8 eq9)
      refine g_iload C dX6_shareOf_48 4 rfl ?_
      obtain ⟨h10, hf⟩ := og_e hf
      refine g_iald C (s_row hq9 ad cy _) h10 dX6_shareOf_50 ?_
      obtain ⟨v11, ev11, hf⟩ := ol_e hf
      refine g_nm ev11 ?_
      obtain ⟨r12, σ13, h14, hf⟩ := obp_e hf
      refine g_callVi (As := [.int x1, .int v11]) (rest := [.int x3]) C (a_32 ad cy _) rfl (c_X1_shareOf l dC dI ad cy 32 k_isChimes_32 x1 v11) h14 hM_X6_77 cal_X1_shareOf ⟨Nat.zero_le _, Nat.zero_le _⟩ ⟨rfl, rfl⟩ ⟨Nat.le_of_ble_eq_true rfl, Nat.le_of_ble_eq_true rfl⟩ rfl rfl (Nat.le_of_ble_eq_true rfl) dX6_shareOf_51 ?_
      refine g_iadd C dX6_shareOf_54 ?_
      obtain ⟨v15, ev15, hf⟩ := ol_e hf
      refine g_nm ev15 ?_
      refine g_istore_n (lv2 := [(0, .ref (ad 40)), (1, .int x1), (2, .int x2), (3, .int v15), (4, .int x4)]) C dX6_shareOf_55 rfl (by decide) [1, 2, 3, 0, 4] rfl ?_
      exact g_sub [0, 1, 2, 3, 4] rfl (fX6_shareOf_b56_ok C sf_10 hs_10 σ13 x1 x2 v15 x4 hf)
def fX6_shareOf_h10  : Nat → S0 → Int32 → Int32 → Int32 → Int32 → Option (Int32 × S0)
  | 0 => fun _ _ _ _ _ => none
  | n + 1 => fun σ x1 x2 x3 x4 => fX6_shareOf_b10  (fX6_shareOf_h10  n) σ x1 x2 x3 x4
set_option maxHeartbeats 1000000 in
set_option maxRecDepth 100000 in
theorem fX6_shareOf_h10_ok {p : Program} {l : Launch} {e : Env} {s : State} {m : MethodId} {args : Array Value} {below : List Frame} {meth : Method} {c : Code} {dC : Nat → ClassId} {dI : Nat → Nat → Nat} {ad : Nat → Nat} {cy : Nat → ClassId} {sz : Nat} (C : Cx p s m args meth c RX6 cX6_shareOf 5 (some .int) dC dI ad cy sz) {rr : Int32} {ρ : S0}  : ∀ (n : Nat) (σ : S0) (x1 : Int32) (x2 : Int32) (x3 : Int32) (x4 : Int32)  (_hf : fX6_shareOf_h10  n σ x1 x2 x3 x4 = some (rr, ρ)), Gw p l e rm_X6_shareOf s m args below meth c (MQ below (QcI dC dI ad cy sz rr ρ) args s 0 0 (AW ad sz)) dC dI ad cy 5 sz 0 0 10 [(0, .ref (ad 40)), (1, .int x1), (2, .int x2), (3, .int x3), (4, .int x4)] [] σ
  | 0, _, _, _, _, _, hf => by cases hf
  | n + 1, σ, x1, x2, x3, x4, hf => fX6_shareOf_b10_ok C  (fX6_shareOf_h10  n) (fX6_shareOf_h10_ok C  n) σ x1 x2 x3 x4 hf
def fX6_shareOf (σ : S0) (x1 : Int32) (x2 : Int32) : Option (Int32 × S0) := obp (fX6_play σ x2) (fun r1 σ2 => fX6_shareOf_h10 400 σ2 x1 x2 0 0)
set_option maxHeartbeats 1000000 in
set_option maxRecDepth 100000 in
theorem fX6_shareOf_ok {p : Program} {l : Launch} {e : Env} {s : State} {m : MethodId} {args : Array Value} {below : List Frame} {meth : Method} {c : Code} {dC : Nat → ClassId} {dI : Nat → Nat → Nat} {ad : Nat → Nat} {cy : Nat → ClassId} {sz : Nat} (C : Cx p s m args meth c RX6 cX6_shareOf 5 (some .int) dC dI ad cy sz) {rr : Int32} {ρ : S0} (σ : S0) (x1 : Int32) (x2 : Int32)  (hf : fX6_shareOf σ x1 x2 = some (rr, ρ)) : Gw p l e rm_X6_shareOf s m args below meth c (MQ below (QcI dC dI ad cy sz rr ρ) args s 0 0 (AW ad sz)) dC dI ad cy 5 sz 0 0 0 [(0, .ref (ad 40)), (1, .int x1), (2, .int x2)] [] σ := by
  unfold fX6_shareOf at hf
  refine g_aload_n C dX6_shareOf_0 rfl 0 rfl ?_
  refine g_iload_n C dX6_shareOf_1 rfl 2 rfl ?_
  obtain ⟨r1, σ2, h3, hf⟩ := obp_e hf
  refine g_callVv (As := [.int x2]) (rest := []) C (a_40 ad cy _) rfl (c_X6_play l dC dI ad cy x2) h3 hM_X6_69 cal_X6_play ⟨Nat.zero_le _, Nat.zero_le _⟩ ⟨rfl, rfl⟩ ⟨Nat.le_of_ble_eq_true rfl, Nat.le_of_ble_eq_true rfl⟩ rfl rfl (Nat.le_of_ble_eq_true rfl) dX6_shareOf_2 ?_
  refine g_iconst (v := 0) C dX6_shareOf_5 (by decide) ?_
  refine g_istore_n (lv2 := [(0, .ref (ad 40)), (1, .int x1), (2, .int x2), (3, .int 0)]) C dX6_shareOf_6 rfl (by decide) [1, 2, 3, 0] rfl ?_
  refine g_iconst (v := 0) C dX6_shareOf_7 (by decide) ?_
  refine g_istore (lv2 := [(0, .ref (ad 40)), (1, .int x1), (2, .int x2), (3, .int 0), (4, .int 0)]) C dX6_shareOf_8 (by decide) [1, 2, 3, 4, 0] rfl ?_
  exact g_sub [0, 1, 2, 3, 4] rfl (fX6_shareOf_h10_ok C 400 σ2 x1 x2 0 0 hf)
theorem c_X6_shareOf (l : Launch) (dC : Nat → ClassId) (dI : Nat → Nat → Nat) (ad : Nat → Nat) (cy : Nat → ClassId) (x1 : Int32) (x2 : Int32) : ConI l yX6_shareOf cX6_shareOf 5 (some .int) rm_X6_shareOf dC dI ad cy [.ref (ad 40), .int x1, .int x2] (fun σ => fX6_shareOf σ x1 x2) := con_i (own := RX6) (by decide) rfl (Nat.le_of_ble_eq_true rfl) (fun _ _ _ _ _ _ _ _ σ _ _ C hf => fX6_shareOf_ok C σ x1 x2 hf)
theorem cal_X6_shareOf : CalV yX6_shareOf RX6 cX6_shareOf 5 (some .int) 2 := ⟨hI_X6_shareOf, hS_X6_shareOf, hIni_X6, hC_X6_shareOf, by decide +kernel⟩
abbrev rm_X6_wageOf : Room := { frames := 3, cells := 0, slots := 0, locals := 68 }
def fX6_wageOf (σ : S0) (x1 : Int32) : Option (Int32 × S0) := obp (fX6_tuneTaken σ) (fun r1 σ2 => if ¬ r1 = ((-4)) then (obp (fX6_shareOf σ2 x1 r1) (fun r5 σ6 => some (r5, σ6))) else (some (0, σ2)))
set_option maxHeartbeats 1000000 in
set_option maxRecDepth 100000 in
theorem fX6_wageOf_ok {p : Program} {l : Launch} {e : Env} {s : State} {m : MethodId} {args : Array Value} {below : List Frame} {meth : Method} {c : Code} {dC : Nat → ClassId} {dI : Nat → Nat → Nat} {ad : Nat → Nat} {cy : Nat → ClassId} {sz : Nat} (C : Cx p s m args meth c RX6 cX6_wageOf 3 (some .int) dC dI ad cy sz) {rr : Int32} {ρ : S0} (σ : S0) (x1 : Int32)  (hf : fX6_wageOf σ x1 = some (rr, ρ)) : Gw p l e rm_X6_wageOf s m args below meth c (MQ below (QcI dC dI ad cy sz rr ρ) args s 0 0 (AW ad sz)) dC dI ad cy 3 sz 0 0 0 [(0, .ref (ad 40)), (1, .int x1)] [] σ := by
  unfold fX6_wageOf at hf
  refine g_aload_n C dX6_wageOf_0 rfl 0 rfl ?_
  obtain ⟨r1, σ2, h3, hf⟩ := obp_e hf
  refine g_callVi (As := []) (rest := []) C (a_40 ad cy _) rfl (c_X6_tuneTaken l dC dI ad cy ) h3 hM_X6_81 cal_X6_tuneTaken ⟨Nat.zero_le _, Nat.zero_le _⟩ ⟨rfl, rfl⟩ ⟨Nat.le_of_ble_eq_true rfl, Nat.le_of_ble_eq_true rfl⟩ rfl rfl (Nat.le_of_ble_eq_true rfl) dX6_wageOf_1 ?_
  refine g_istore_n (lv2 := [(0, .ref (ad 40)), (1, .int x1), (2, .int r1)]) C dX6_wageOf_4 rfl (by decide) [1, 2, 0] rfl ?_
  refine g_iload_n C dX6_wageOf_5 rfl 2 rfl ?_
  refine g_bipush (v := (-4)) C dX6_wageOf_6 (by decide) ?_
  rcases oi_e hf with ⟨c4, hf⟩ | ⟨c4, hf⟩
  · refine g_icmp_ne_t (tgt := 15) C dX6_wageOf_8 (by decide) c4 ?_
    refine g_aload_n C dX6_wageOf_15 rfl 0 rfl ?_
    refine g_iload_n C dX6_wageOf_16 rfl 1 rfl ?_
    refine g_iload_n C dX6_wageOf_17 rfl 2 rfl ?_
    obtain ⟨r5, σ6, h7, hf⟩ := obp_e hf
    refine g_callVi (As := [.int x1, .int r1]) (rest := []) C (a_40 ad cy _) rfl (c_X6_shareOf l dC dI ad cy x1 r1) h7 hM_X6_85 cal_X6_shareOf ⟨Nat.zero_le _, Nat.zero_le _⟩ ⟨rfl, rfl⟩ ⟨Nat.le_of_ble_eq_true rfl, Nat.le_of_ble_eq_true rfl⟩ rfl rfl (Nat.le_of_ble_eq_true rfl) dX6_wageOf_18 ?_
    obtain ⟨rfl, rfl⟩ := os_e hf
    exact g_iret C rfl dX6_wageOf_21
  · refine g_icmp_ne_f (tgt := 15) C dX6_wageOf_8 (by decide) (Decidable.of_not_not c4) ?_
    refine g_iconst (v := 0) C dX6_wageOf_11 (by decide) ?_
    refine g_goto (tgt := 21) C dX6_wageOf_12 (by decide) ?_
    obtain ⟨rfl, rfl⟩ := os_e hf
    exact g_iret C rfl dX6_wageOf_21
theorem c_X6_wageOf (l : Launch) (dC : Nat → ClassId) (dI : Nat → Nat → Nat) (ad : Nat → Nat) (cy : Nat → ClassId) (x1 : Int32) : ConI l yX6_wageOf cX6_wageOf 3 (some .int) rm_X6_wageOf dC dI ad cy [.ref (ad 40), .int x1] (fun σ => fX6_wageOf σ x1) := con_i (own := RX6) (by decide) rfl (Nat.le_of_ble_eq_true rfl) (fun _ _ _ _ _ _ _ _ σ _ _ C hf => fX6_wageOf_ok C σ x1 hf)
theorem cal_X6_wageOf : CalV yX6_wageOf RX6 cX6_wageOf 3 (some .int) 1 := ⟨hI_X6_wageOf, hS_X6_wageOf, hIni_X6, hC_X6_wageOf, by decide +kernel⟩
abbrev rm_X0_weighTune : Room := { frames := 1, cells := 0, slots := 0, locals := 26 }
def fX0_weighTune_b175 (sf_44 : S0 → Int32 → Int32 → Int32 → Option (Int32 × S0)) (σ : S0) (x1 : Int32) (x2 : Int32) (x3 : Int32) : Option (Int32 × S0) := ol (x3 + 1) (fun v1 => sf_44 σ x1 x2 v1)
set_option maxHeartbeats 1000000 in
set_option maxRecDepth 100000 in
theorem fX0_weighTune_b175_ok {p : Program} {l : Launch} {e : Env} {s : State} {m : MethodId} {args : Array Value} {below : List Frame} {meth : Method} {c : Code} {dC : Nat → ClassId} {dI : Nat → Nat → Nat} {ad : Nat → Nat} {cy : Nat → ClassId} {sz : Nat} (C : Cx p s m args meth c RX0 cX0_weighTune 6 none dC dI ad cy sz) {rr : Int32} {ρ : S0} (sf_44 : S0 → Int32 → Int32 → Int32 → Option (Int32 × S0)) (hs_44 : ∀ (σ : S0) (x1 : Int32) (x2 : Int32) (x3 : Int32) , sf_44 σ x1 x2 x3 = some (rr, ρ) → Gw p l e rm_X0_weighTune s m args below meth c (MQ below (QcV dC dI ad cy sz ρ) args s 0 0 (AW ad sz)) dC dI ad cy 6 sz 0 0 44 [(0, .ref (ad 41)), (1, .int x1), (2, .int x2), (3, .int x3)] [] σ) (σ : S0) (x1 : Int32) (x2 : Int32) (x3 : Int32)  (hf : fX0_weighTune_b175 sf_44 σ x1 x2 x3 = some (rr, ρ)) : Gw p l e rm_X0_weighTune s m args below meth c (MQ below (QcV dC dI ad cy sz ρ) args s 0 0 (AW ad sz)) dC dI ad cy 6 sz 0 0 175 [(0, .ref (ad 41)), (1, .int x1), (2, .int x2), (3, .int x3)] [] σ := by
  unfold fX0_weighTune_b175 at hf
  obtain ⟨v1, ev1, hf⟩ := ol_e hf
  refine g_iinc (j := 3) (w := 1) (lv2 := [(0, .ref (ad 41)), (1, .int x1), (2, .int x2), (3, .int v1)]) C dX0_weighTune_175 rfl (by decide) ev1 (by decide) [1, 2, 3, 0] rfl ?_
  refine g_goto (tgt := 44) C dX0_weighTune_178 (by decide) ?_
  exact g_sub [0, 1, 2, 3] rfl (hs_44 σ x1 x2 v1 hf)
def fX0_weighTune_b44 (sf_44 : S0 → Int32 → Int32 → Int32 → Option (Int32 × S0)) (σ : S0) (x1 : Int32) (x2 : Int32) (x3 : Int32) : Option (Int32 × S0) := og (¬ (x2 < 0 ∨ 6 ≤ x2.toNatClampNeg)) (ol (σ 24 x2.toNatClampNeg) (fun v2 => if v2 ≤ x3 then (some (0, σ)) else (obp (fX6_rang σ x3) (fun r4 σ5 => if ¬ r4 = 0 then (og (¬ (x2 < 0 ∨ 6 ≤ x2.toNatClampNeg)) (ol (26 + 1 * x2.toNatClampNeg) (fun q9 => og (¬ (x3 < 0 ∨ 12 ≤ x3.toNatClampNeg)) (ol (σ5 q9 x3.toNatClampNeg) (fun v11 => obp (fX1_partsOf σ5 32 x1 v11) (fun r12 σ13 => og (¬ (v11 < 0 ∨ 12 ≤ v11.toNatClampNeg)) (ol (σ13 33 v11.toNatClampNeg) (fun v16 => if ¬ v16 = x1 then (og (¬ (x2 < 0 ∨ 6 ≤ x2.toNatClampNeg)) (ol (σ13 45 x2.toNatClampNeg) (fun v19 => og (¬ (v11 < 0 ∨ 12 ≤ v11.toNatClampNeg)) (ol (σ13 34 v11.toNatClampNeg) (fun v21 => ol (v19 + (r12 * v21)) (fun v22 => og (¬ (x2 < 0 ∨ 6 ≤ x2.toNatClampNeg)) (ol (su σ13 45 x2.toNatClampNeg v22) (fun σ24 => fX0_weighTune_b175 sf_44 σ24 x1 x2 x3)))))))) else (og (¬ (x2 < 0 ∨ 6 ≤ x2.toNatClampNeg)) (ol (σ13 42 x2.toNatClampNeg) (fun v26 => og (¬ (v11 < 0 ∨ 12 ≤ v11.toNatClampNeg)) (ol (σ13 34 v11.toNatClampNeg) (fun v28 => ol (v26 + v28) (fun v29 => og (¬ (x2 < 0 ∨ 6 ≤ x2.toNatClampNeg)) (ol (su σ13 42 x2.toNatClampNeg v29) (fun σ31 => og (¬ (x2 < 0 ∨ 6 ≤ x2.toNatClampNeg)) (ol (σ31 43 x2.toNatClampNeg) (fun v33 => ol (v33 + 1) (fun v34 => og (¬ (x2 < 0 ∨ 6 ≤ x2.toNatClampNeg)) (ol (su σ31 43 x2.toNatClampNeg v34) (fun σ36 => og (¬ (x2 < 0 ∨ 6 ≤ x2.toNatClampNeg)) (ol (σ36 44 x2.toNatClampNeg) (fun v38 => ol (v38 + r12) (fun v39 => og (¬ (x2 < 0 ∨ 6 ≤ x2.toNatClampNeg)) (ol (su σ36 44 x2.toNatClampNeg v39) (fun σ41 => fX0_weighTune_b175 sf_44 σ41 x1 x2 x3)))))))))))))))))))))))))) else (fX0_weighTune_b175 sf_44 σ5 x1 x2 x3)))))
set_option maxHeartbeats 1000000 in
set_option maxRecDepth 100000 in
theorem fX0_weighTune_b44_ok {p : Program} {l : Launch} {e : Env} {s : State} {m : MethodId} {args : Array Value} {below : List Frame} {meth : Method} {c : Code} {dC : Nat → ClassId} {dI : Nat → Nat → Nat} {ad : Nat → Nat} {cy : Nat → ClassId} {sz : Nat} (C : Cx p s m args meth c RX0 cX0_weighTune 6 none dC dI ad cy sz) {rr : Int32} {ρ : S0} (sf_44 : S0 → Int32 → Int32 → Int32 → Option (Int32 × S0)) (hs_44 : ∀ (σ : S0) (x1 : Int32) (x2 : Int32) (x3 : Int32) , sf_44 σ x1 x2 x3 = some (rr, ρ) → Gw p l e rm_X0_weighTune s m args below meth c (MQ below (QcV dC dI ad cy sz ρ) args s 0 0 (AW ad sz)) dC dI ad cy 6 sz 0 0 44 [(0, .ref (ad 41)), (1, .int x1), (2, .int x2), (3, .int x3)] [] σ) (σ : S0) (x1 : Int32) (x2 : Int32) (x3 : Int32)  (hf : fX0_weighTune_b44 sf_44 σ x1 x2 x3 = some (rr, ρ)) : Gw p l e rm_X0_weighTune s m args below meth c (MQ below (QcV dC dI ad cy sz ρ) args s 0 0 (AW ad sz)) dC dI ad cy 6 sz 0 0 44 [(0, .ref (ad 41)), (1, .int x1), (2, .int x2), (3, .int x3)] [] σ := by
  unfold fX0_weighTune_b44 at hf
  refine g_iload_n C dX0_weighTune_44 rfl 3 rfl ?_
  refine g_aload_n C dX0_weighTune_45 rfl 0 rfl ?_
  refine g_get C (a_41 ad cy _) rfl hin_X0 0 (by decide) hF_X0_24 rfl rfl dX0_weighTune_46 ?_
  refine g_get C (a_22 ad cy _) rfl hin_X9 4 (by decide) hF_X0_56 rfl rfl dX0_weighTune_49 ?_
  refine g_iload_n C dX0_weighTune_52 rfl 2 rfl ?_
  obtain ⟨h1, hf⟩ := og_e hf
  refine g_iald C (a_24 ad cy _) h1 dX0_weighTune_53 ?_
  obtain ⟨v2, ev2, hf⟩ := ol_e hf
  refine g_nm ev2 ?_
  rcases oi_e hf with ⟨c3, hf⟩ | ⟨c3, hf⟩
  · refine g_icmp_ge_t (tgt := 181) C dX0_weighTune_54 (by decide) c3 ?_
    obtain ⟨rfl, rfl⟩ := os_e hf
    exact g_vret C rfl dX0_weighTune_181
  · refine g_icmp_ge_f (tgt := 181) C dX0_weighTune_54 (by decide) c3 ?_
    refine g_aload_n C dX0_weighTune_57 rfl 0 rfl ?_
    refine g_get C (a_41 ad cy _) rfl hin_X0 2 (by decide) hF_X0_35 rfl rfl dX0_weighTune_58 ?_
    refine g_iload_n C dX0_weighTune_61 rfl 3 rfl ?_
    obtain ⟨r4, σ5, h6, hf⟩ := obp_e hf
    refine g_callVi (As := [.int x3]) (rest := []) C (a_40 ad cy _) rfl (c_X6_rang l dC dI ad cy x3) h6 hM_X0_59 cal_X6_rang ⟨Nat.zero_le _, Nat.zero_le _⟩ ⟨rfl, rfl⟩ ⟨Nat.le_of_ble_eq_true rfl, Nat.le_of_ble_eq_true rfl⟩ rfl rfl (Nat.le_of_ble_eq_true rfl) dX0_weighTune_62 ?_
    rcases oi_e hf with ⟨c7, hf⟩ | ⟨c7, hf⟩
    · refine g_if_ne_t (tgt := 71) C dX0_weighTune_65 (by decide) c7 ?_
      refine g_aload_n C dX0_weighTune_71 rfl 0 rfl ?_
      refine g_get C (a_41 ad cy _) rfl hin_X0 0 (by decide) hF_X0_24 rfl rfl dX0_weighTune_72 ?_
      refine g_get C (a_22 ad cy _) rfl hin_X9 5 (by decide) hF_X0_63 rfl rfl dX0_weighTune_75 ?_
      refine g_iload_n C dX0_weighTune_78 rfl 2 rfl ?_
      obtain ⟨h8, hf⟩ := og_e hf
      obtain ⟨q9, eq9, hf⟩ := ol_e hf
      refine g_aald C (a_25 ad cy _) rfl rfl h8 dX0_weighTune_79 ?_
      refine g_nmr eq9 ?_
      have hq9 := (o_25 h8 eq9)
      refine g_iload_n C dX0_weighTune_80 rfl 3 rfl ?_
      obtain ⟨h10, hf⟩ := og_e hf
      refine g_iald C (s_row hq9 ad cy _) h10 dX0_weighTune_81 ?_
      obtain ⟨v11, ev11, hf⟩ := ol_e hf
      refine g_nm ev11 ?_
      refine g_istore (lv2 := [(0, .ref (ad 41)), (1, .int x1), (2, .int x2), (3, .int x3), (4, .int v11)]) C dX0_weighTune_82 (by decide) [1, 2, 3, 4, 0] rfl ?_
      refine g_aload_n C dX0_weighTune_84 rfl 0 rfl ?_
      refine g_get C (a_41 ad cy _) rfl hin_X0 1 (by decide) hF_X0_34 rfl rfl dX0_weighTune_85 ?_
      refine g_iload_n C dX0_weighTune_88 rfl 1 rfl ?_
      refine g_iload C dX0_weighTune_89 4 rfl ?_
      obtain ⟨r12, σ13, h14, hf⟩ := obp_e hf
      refine g_callVi (As := [.int x1, .int v11]) (rest := []) C (a_32 ad cy _) rfl (c_X1_partsOf l dC dI ad cy 32 k_isChimes_32 x1 v11) h14 hM_X0_67 cal_X1_partsOf ⟨Nat.zero_le _, Nat.zero_le _⟩ ⟨rfl, rfl⟩ ⟨Nat.le_of_ble_eq_true rfl, Nat.le_of_ble_eq_true rfl⟩ rfl rfl (Nat.le_of_ble_eq_true rfl) dX0_weighTune_91 ?_
      refine g_istore (lv2 := [(0, .ref (ad 41)), (1, .int x1), (2, .int x2), (3, .int x3), (4, .int v11), (5, .int r12)]) C dX0_weighTune_94 (by decide) [1, 2, 3, 4, 5, 0] rfl ?_
      refine g_aload_n C dX0_weighTune_96 rfl 0 rfl ?_
      refine g_get C (a_41 ad cy _) rfl hin_X0 1 (by decide) hF_X0_34 rfl rfl dX0_weighTune_97 ?_
      refine g_get C (a_32 ad cy _) rfl hin_X1 1 (by decide) hF_X0_73 rfl rfl dX0_weighTune_100 ?_
      refine g_iload C dX0_weighTune_103 4 rfl ?_
      obtain ⟨h15, hf⟩ := og_e hf
      refine g_iald C (a_33 ad cy _) h15 dX0_weighTune_105 ?_
      obtain ⟨v16, ev16, hf⟩ := ol_e hf
      refine g_nm ev16 ?_
      refine g_iload_n C dX0_weighTune_106 rfl 1 rfl ?_
      rcases oi_e hf with ⟨c17, hf⟩ | ⟨c17, hf⟩
      · refine g_icmp_ne_t (tgt := 153) C dX0_weighTune_107 (by decide) c17 ?_
        refine g_aload_n C dX0_weighTune_153 rfl 0 rfl ?_
        refine g_get C (a_41 ad cy _) rfl hin_X0 6 (by decide) hF_X0_21 rfl rfl dX0_weighTune_154 ?_
        refine g_iload_n C dX0_weighTune_157 rfl 2 rfl ?_
        refine g_dup2 C dX0_weighTune_158 rfl rfl ?_
        obtain ⟨h18, hf⟩ := og_e hf
        refine g_iald C (a_45 ad cy _) h18 dX0_weighTune_159 ?_
        obtain ⟨v19, ev19, hf⟩ := ol_e hf
        refine g_nm ev19 ?_
        refine g_iload C dX0_weighTune_160 5 rfl ?_
        refine g_aload_n C dX0_weighTune_162 rfl 0 rfl ?_
        refine g_get C (a_41 ad cy _) rfl hin_X0 1 (by decide) hF_X0_34 rfl rfl dX0_weighTune_163 ?_
        refine g_get C (a_32 ad cy _) rfl hin_X1 2 (by decide) hF_X0_76 rfl rfl dX0_weighTune_166 ?_
        refine g_iload C dX0_weighTune_169 4 rfl ?_
        obtain ⟨h20, hf⟩ := og_e hf
        refine g_iald C (a_34 ad cy _) h20 dX0_weighTune_171 ?_
        obtain ⟨v21, ev21, hf⟩ := ol_e hf
        refine g_nm ev21 ?_
        refine g_imul C dX0_weighTune_172 ?_
        refine g_iadd C dX0_weighTune_173 ?_
        obtain ⟨v22, ev22, hf⟩ := ol_e hf
        refine g_nm ev22 ?_
        obtain ⟨h23, hf⟩ := og_e hf
        obtain ⟨σ24, eσ24, hf⟩ := ol_e hf
        refine g_iast C (a_45 ad cy _) h23 (w_45 ad cy _) eσ24 dX0_weighTune_174 ?_
        exact g_sub [0, 1, 2, 3] rfl (fX0_weighTune_b175_ok C sf_44 hs_44 σ24 x1 x2 x3 hf)
      · refine g_icmp_ne_f (tgt := 153) C dX0_weighTune_107 (by decide) (Decidable.of_not_not c17) ?_
        refine g_aload_n C dX0_weighTune_110 rfl 0 rfl ?_
        refine g_get C (a_41 ad cy _) rfl hin_X0 3 (by decide) hF_X0_9 rfl rfl dX0_weighTune_111 ?_
        refine g_iload_n C dX0_weighTune_114 rfl 2 rfl ?_
        refine g_dup2 C dX0_weighTune_115 rfl rfl ?_
        obtain ⟨h25, hf⟩ := og_e hf
        refine g_iald C (a_42 ad cy _) h25 dX0_weighTune_116 ?_
        obtain ⟨v26, ev26, hf⟩ := ol_e hf
        refine g_nm ev26 ?_
        refine g_aload_n C dX0_weighTune_117 rfl 0 rfl ?_
        refine g_get C (a_41 ad cy _) rfl hin_X0 1 (by decide) hF_X0_34 rfl rfl dX0_weighTune_118 ?_
        refine g_get C (a_32 ad cy _) rfl hin_X1 2 (by decide) hF_X0_76 rfl rfl dX0_weighTune_121 ?_
        refine g_iload C dX0_weighTune_124 4 rfl ?_
        obtain ⟨h27, hf⟩ := og_e hf
        refine g_iald C (a_34 ad cy _) h27 dX0_weighTune_126 ?_
        obtain ⟨v28, ev28, hf⟩ := ol_e hf
        refine g_nm ev28 ?_
        refine g_iadd C dX0_weighTune_127 ?_
        obtain ⟨v29, ev29, hf⟩ := ol_e hf
        refine g_nm ev29 ?_
        obtain ⟨h30, hf⟩ := og_e hf
        obtain ⟨σ31, eσ31, hf⟩ := ol_e hf
        refine g_iast C (a_42 ad cy _) h30 (w_42 ad cy _) eσ31 dX0_weighTune_128 ?_
        refine g_aload_n C dX0_weighTune_129 rfl 0 rfl ?_
        refine g_get C (a_41 ad cy _) rfl hin_X0 4 (by decide) hF_X0_15 rfl rfl dX0_weighTune_130 ?_
        refine g_iload_n C dX0_weighTune_133 rfl 2 rfl ?_
        refine g_dup2 C dX0_weighTune_134 rfl rfl ?_
        obtain ⟨h32, hf⟩ := og_e hf
        refine g_iald C (a_43 ad cy _) h32 dX0_weighTune_135 ?_
        obtain ⟨v33, ev33, hf⟩ := ol_e hf
        refine g_nm ev33 ?_
        refine g_iconst (v := 1) C dX0_weighTune_136 (by decide) ?_
        refine g_iadd C dX0_weighTune_137 ?_
        obtain ⟨v34, ev34, hf⟩ := ol_e hf
        refine g_nm ev34 ?_
        obtain ⟨h35, hf⟩ := og_e hf
        obtain ⟨σ36, eσ36, hf⟩ := ol_e hf
        refine g_iast C (a_43 ad cy _) h35 (w_43 ad cy _) eσ36 dX0_weighTune_138 ?_
        refine g_aload_n C dX0_weighTune_139 rfl 0 rfl ?_
        refine g_get C (a_41 ad cy _) rfl hin_X0 5 (by decide) hF_X0_18 rfl rfl dX0_weighTune_140 ?_
        refine g_iload_n C dX0_weighTune_143 rfl 2 rfl ?_
        refine g_dup2 C dX0_weighTune_144 rfl rfl ?_
        obtain ⟨h37, hf⟩ := og_e hf
        refine g_iald C (a_44 ad cy _) h37 dX0_weighTune_145 ?_
        obtain ⟨v38, ev38, hf⟩ := ol_e hf
        refine g_nm ev38 ?_
        refine g_iload C dX0_weighTune_146 5 rfl ?_
        refine g_iadd C dX0_weighTune_148 ?_
        obtain ⟨v39, ev39, hf⟩ := ol_e hf
        refine g_nm ev39 ?_
        obtain ⟨h40, hf⟩ := og_e hf
        obtain ⟨σ41, eσ41, hf⟩ := ol_e hf
        refine g_iast C (a_44 ad cy _) h40 (w_44 ad cy _) eσ41 dX0_weighTune_149 ?_
        refine g_goto (tgt := 175) C dX0_weighTune_150 (by decide) ?_
        exact g_sub [0, 1, 2, 3] rfl (fX0_weighTune_b175_ok C sf_44 hs_44 σ41 x1 x2 x3 hf)
    · refine g_if_ne_f (tgt := 71) C dX0_weighTune_65 (by decide) (Decidable.of_not_not c7) ?_
      refine g_goto (tgt := 175) C dX0_weighTune_68 (by decide) ?_
      exact g_sub [0, 1, 2, 3] rfl (fX0_weighTune_b175_ok C sf_44 hs_44 σ5 x1 x2 x3 hf)
def fX0_weighTune_h44  : Nat → S0 → Int32 → Int32 → Int32 → Option (Int32 × S0)
  | 0 => fun _ _ _ _ => none
  | n + 1 => fun σ x1 x2 x3 => fX0_weighTune_b44  (fX0_weighTune_h44  n) σ x1 x2 x3
set_option maxHeartbeats 1000000 in
set_option maxRecDepth 100000 in
theorem fX0_weighTune_h44_ok {p : Program} {l : Launch} {e : Env} {s : State} {m : MethodId} {args : Array Value} {below : List Frame} {meth : Method} {c : Code} {dC : Nat → ClassId} {dI : Nat → Nat → Nat} {ad : Nat → Nat} {cy : Nat → ClassId} {sz : Nat} (C : Cx p s m args meth c RX0 cX0_weighTune 6 none dC dI ad cy sz) {rr : Int32} {ρ : S0}  : ∀ (n : Nat) (σ : S0) (x1 : Int32) (x2 : Int32) (x3 : Int32)  (_hf : fX0_weighTune_h44  n σ x1 x2 x3 = some (rr, ρ)), Gw p l e rm_X0_weighTune s m args below meth c (MQ below (QcV dC dI ad cy sz ρ) args s 0 0 (AW ad sz)) dC dI ad cy 6 sz 0 0 44 [(0, .ref (ad 41)), (1, .int x1), (2, .int x2), (3, .int x3)] [] σ
  | 0, _, _, _, _, hf => by cases hf
  | n + 1, σ, x1, x2, x3, hf => fX0_weighTune_b44_ok C  (fX0_weighTune_h44  n) (fX0_weighTune_h44_ok C  n) σ x1 x2 x3 hf
def fX0_weighTune (σ : S0) (x1 : Int32) (x2 : Int32) : Option (Int32 × S0) := obp (fX6_play σ x2) (fun r1 σ2 => ol (σ2 40 5) (fun v4 => og (¬ (x2 < 0 ∨ 6 ≤ x2.toNatClampNeg)) (ol (su σ2 42 x2.toNatClampNeg v4) (fun σ6 => og (¬ (x2 < 0 ∨ 6 ≤ x2.toNatClampNeg)) (ol (su σ6 43 x2.toNatClampNeg 0) (fun σ8 => og (¬ (x2 < 0 ∨ 6 ≤ x2.toNatClampNeg)) (ol (su σ8 44 x2.toNatClampNeg 0) (fun σ10 => og (¬ (x2 < 0 ∨ 6 ≤ x2.toNatClampNeg)) (ol (su σ10 45 x2.toNatClampNeg 0) (fun σ12 => fX0_weighTune_h44 400 σ12 x1 x2 0))))))))))
set_option maxHeartbeats 1000000 in
set_option maxRecDepth 100000 in
theorem fX0_weighTune_ok {p : Program} {l : Launch} {e : Env} {s : State} {m : MethodId} {args : Array Value} {below : List Frame} {meth : Method} {c : Code} {dC : Nat → ClassId} {dI : Nat → Nat → Nat} {ad : Nat → Nat} {cy : Nat → ClassId} {sz : Nat} (C : Cx p s m args meth c RX0 cX0_weighTune 6 none dC dI ad cy sz) {rr : Int32} {ρ : S0} (σ : S0) (x1 : Int32) (x2 : Int32)  (hf : fX0_weighTune σ x1 x2 = some (rr, ρ)) : Gw p l e rm_X0_weighTune s m args below meth c (MQ below (QcV dC dI ad cy sz ρ) args s 0 0 (AW ad sz)) dC dI ad cy 6 sz 0 0 0 [(0, .ref (ad 41)), (1, .int x1), (2, .int x2)] [] σ := by
  unfold fX0_weighTune at hf
  refine g_aload_n C dX0_weighTune_0 rfl 0 rfl ?_
  refine g_get C (a_41 ad cy _) rfl hin_X0 2 (by decide) hF_X0_35 rfl rfl dX0_weighTune_1 ?_
  refine g_iload_n C dX0_weighTune_4 rfl 2 rfl ?_
  obtain ⟨r1, σ2, h3, hf⟩ := obp_e hf
  refine g_callVv (As := [.int x2]) (rest := []) C (a_40 ad cy _) rfl (c_X6_play l dC dI ad cy x2) h3 hM_X0_47 cal_X6_play ⟨Nat.zero_le _, Nat.zero_le _⟩ ⟨rfl, rfl⟩ ⟨Nat.le_of_ble_eq_true rfl, Nat.le_of_ble_eq_true rfl⟩ rfl rfl (Nat.le_of_ble_eq_true rfl) dX0_weighTune_5 ?_
  refine g_aload_n C dX0_weighTune_8 rfl 0 rfl ?_
  refine g_get C (a_41 ad cy _) rfl hin_X0 3 (by decide) hF_X0_9 rfl rfl dX0_weighTune_9 ?_
  refine g_iload_n C dX0_weighTune_12 rfl 2 rfl ?_
  refine g_aload_n C dX0_weighTune_13 rfl 0 rfl ?_
  refine g_get C (a_41 ad cy _) rfl hin_X0 2 (by decide) hF_X0_35 rfl rfl dX0_weighTune_14 ?_
  refine g_get C (a_40 ad cy _) rfl hin_X6 5 (by decide) hF_X0_53 rfl rfl dX0_weighTune_17 ?_
  obtain ⟨v4, ev4, hf⟩ := ol_e hf
  refine g_nm ev4 ?_
  obtain ⟨h5, hf⟩ := og_e hf
  obtain ⟨σ6, eσ6, hf⟩ := ol_e hf
  refine g_iast C (a_42 ad cy _) h5 (w_42 ad cy _) eσ6 dX0_weighTune_20 ?_
  refine g_aload_n C dX0_weighTune_21 rfl 0 rfl ?_
  refine g_get C (a_41 ad cy _) rfl hin_X0 4 (by decide) hF_X0_15 rfl rfl dX0_weighTune_22 ?_
  refine g_iload_n C dX0_weighTune_25 rfl 2 rfl ?_
  refine g_iconst (v := 0) C dX0_weighTune_26 (by decide) ?_
  obtain ⟨h7, hf⟩ := og_e hf
  obtain ⟨σ8, eσ8, hf⟩ := ol_e hf
  refine g_iast C (a_43 ad cy _) h7 (w_43 ad cy _) eσ8 dX0_weighTune_27 ?_
  refine g_aload_n C dX0_weighTune_28 rfl 0 rfl ?_
  refine g_get C (a_41 ad cy _) rfl hin_X0 5 (by decide) hF_X0_18 rfl rfl dX0_weighTune_29 ?_
  refine g_iload_n C dX0_weighTune_32 rfl 2 rfl ?_
  refine g_iconst (v := 0) C dX0_weighTune_33 (by decide) ?_
  obtain ⟨h9, hf⟩ := og_e hf
  obtain ⟨σ10, eσ10, hf⟩ := ol_e hf
  refine g_iast C (a_44 ad cy _) h9 (w_44 ad cy _) eσ10 dX0_weighTune_34 ?_
  refine g_aload_n C dX0_weighTune_35 rfl 0 rfl ?_
  refine g_get C (a_41 ad cy _) rfl hin_X0 6 (by decide) hF_X0_21 rfl rfl dX0_weighTune_36 ?_
  refine g_iload_n C dX0_weighTune_39 rfl 2 rfl ?_
  refine g_iconst (v := 0) C dX0_weighTune_40 (by decide) ?_
  obtain ⟨h11, hf⟩ := og_e hf
  obtain ⟨σ12, eσ12, hf⟩ := ol_e hf
  refine g_iast C (a_45 ad cy _) h11 (w_45 ad cy _) eσ12 dX0_weighTune_41 ?_
  refine g_iconst (v := 0) C dX0_weighTune_42 (by decide) ?_
  refine g_istore_n (lv2 := [(0, .ref (ad 41)), (1, .int x1), (2, .int x2), (3, .int 0)]) C dX0_weighTune_43 rfl (by decide) [1, 2, 3, 0] rfl ?_
  exact g_sub [0, 1, 2, 3] rfl (fX0_weighTune_h44_ok C 400 σ12 x1 x2 0 hf)
theorem c_X0_weighTune (l : Launch) (dC : Nat → ClassId) (dI : Nat → Nat → Nat) (ad : Nat → Nat) (cy : Nat → ClassId) (x1 : Int32) (x2 : Int32) : ConV l yX0_weighTune cX0_weighTune 6 none rm_X0_weighTune dC dI ad cy [.ref (ad 41), .int x1, .int x2] (fun σ => fX0_weighTune σ x1 x2) := con_v (own := RX0) (by decide) rfl (Nat.le_of_ble_eq_true rfl) (fun _ _ _ _ _ _ _ _ σ _ _ C hf => fX0_weighTune_ok C σ x1 x2 hf)
theorem cal_X0_weighTune : CalV yX0_weighTune RX0 cX0_weighTune 6 none 2 := ⟨hI_X0_weighTune, hS_X0_weighTune, hIni_X0, hC_X0_weighTune, by decide +kernel⟩
abbrev rm_X0_weigh : Room := { frames := 2, cells := 0, slots := 0, locals := 51 }
def fX0_weigh_b2 (sf_2 : S0 → Int32 → Int32 → Option (Int32 × S0)) (σ : S0) (x1 : Int32) (x2 : Int32) : Option (Int32 × S0) := if (σ 22 2) ≤ x2 then (some (0, σ)) else (obp (fX0_weighTune σ x1 x2) (fun r2 σ3 => ol (x2 + 1) (fun v5 => sf_2 σ3 x1 v5)))
set_option maxHeartbeats 1000000 in
set_option maxRecDepth 100000 in
theorem fX0_weigh_b2_ok {p : Program} {l : Launch} {e : Env} {s : State} {m : MethodId} {args : Array Value} {below : List Frame} {meth : Method} {c : Code} {dC : Nat → ClassId} {dI : Nat → Nat → Nat} {ad : Nat → Nat} {cy : Nat → ClassId} {sz : Nat} (C : Cx p s m args meth c RX0 cX0_weigh 3 none dC dI ad cy sz) {rr : Int32} {ρ : S0} (sf_2 : S0 → Int32 → Int32 → Option (Int32 × S0)) (hs_2 : ∀ (σ : S0) (x1 : Int32) (x2 : Int32) , sf_2 σ x1 x2 = some (rr, ρ) → Gw p l e rm_X0_weigh s m args below meth c (MQ below (QcV dC dI ad cy sz ρ) args s 0 0 (AW ad sz)) dC dI ad cy 3 sz 0 0 2 [(0, .ref (ad 41)), (1, .int x1), (2, .int x2)] [] σ) (σ : S0) (x1 : Int32) (x2 : Int32)  (hf : fX0_weigh_b2 sf_2 σ x1 x2 = some (rr, ρ)) : Gw p l e rm_X0_weigh s m args below meth c (MQ below (QcV dC dI ad cy sz ρ) args s 0 0 (AW ad sz)) dC dI ad cy 3 sz 0 0 2 [(0, .ref (ad 41)), (1, .int x1), (2, .int x2)] [] σ := by
  unfold fX0_weigh_b2 at hf
  refine g_iload_n C dX0_weigh_2 rfl 2 rfl ?_
  refine g_aload_n C dX0_weigh_3 rfl 0 rfl ?_
  refine g_get C (a_41 ad cy _) rfl hin_X0 0 (by decide) hF_X0_24 rfl rfl dX0_weigh_4 ?_
  refine g_get C (a_22 ad cy _) rfl hin_X9 2 (by decide) hF_X0_39 rfl rfl dX0_weigh_7 ?_
  rcases oi_e hf with ⟨c1, hf⟩ | ⟨c1, hf⟩
  · refine g_icmp_ge_t (tgt := 25) C dX0_weigh_10 (by decide) c1 ?_
    obtain ⟨rfl, rfl⟩ := os_e hf
    exact g_vret C rfl dX0_weigh_25
  · refine g_icmp_ge_f (tgt := 25) C dX0_weigh_10 (by decide) c1 ?_
    refine g_aload_n C dX0_weigh_13 rfl 0 rfl ?_
    refine g_iload_n C dX0_weigh_14 rfl 1 rfl ?_
    refine g_iload_n C dX0_weigh_15 rfl 2 rfl ?_
    obtain ⟨r2, σ3, h4, hf⟩ := obp_e hf
    refine g_callVv (As := [.int x1, .int x2]) (rest := []) C (a_41 ad cy _) rfl (c_X0_weighTune l dC dI ad cy x1 x2) h4 hM_X0_43 cal_X0_weighTune ⟨Nat.zero_le _, Nat.zero_le _⟩ ⟨rfl, rfl⟩ ⟨Nat.le_of_ble_eq_true rfl, Nat.le_of_ble_eq_true rfl⟩ rfl rfl (Nat.le_of_ble_eq_true rfl) dX0_weigh_16 ?_
    obtain ⟨v5, ev5, hf⟩ := ol_e hf
    refine g_iinc (j := 2) (w := 1) (lv2 := [(0, .ref (ad 41)), (1, .int x1), (2, .int v5)]) C dX0_weigh_19 rfl (by decide) ev5 (by decide) [1, 2, 0] rfl ?_
    refine g_goto (tgt := 2) C dX0_weigh_22 (by decide) ?_
    exact g_sub [0, 1, 2] rfl (hs_2 σ3 x1 v5 hf)
def fX0_weigh_h2  : Nat → S0 → Int32 → Int32 → Option (Int32 × S0)
  | 0 => fun _ _ _ => none
  | n + 1 => fun σ x1 x2 => fX0_weigh_b2  (fX0_weigh_h2  n) σ x1 x2
set_option maxHeartbeats 1000000 in
set_option maxRecDepth 100000 in
theorem fX0_weigh_h2_ok {p : Program} {l : Launch} {e : Env} {s : State} {m : MethodId} {args : Array Value} {below : List Frame} {meth : Method} {c : Code} {dC : Nat → ClassId} {dI : Nat → Nat → Nat} {ad : Nat → Nat} {cy : Nat → ClassId} {sz : Nat} (C : Cx p s m args meth c RX0 cX0_weigh 3 none dC dI ad cy sz) {rr : Int32} {ρ : S0}  : ∀ (n : Nat) (σ : S0) (x1 : Int32) (x2 : Int32)  (_hf : fX0_weigh_h2  n σ x1 x2 = some (rr, ρ)), Gw p l e rm_X0_weigh s m args below meth c (MQ below (QcV dC dI ad cy sz ρ) args s 0 0 (AW ad sz)) dC dI ad cy 3 sz 0 0 2 [(0, .ref (ad 41)), (1, .int x1), (2, .int x2)] [] σ
  | 0, _, _, _, hf => by cases hf
  | n + 1, σ, x1, x2, hf => fX0_weigh_b2_ok C  (fX0_weigh_h2  n) (fX0_weigh_h2_ok C  n) σ x1 x2 hf
def fX0_weigh (σ : S0) (x1 : Int32) : Option (Int32 × S0) := fX0_weigh_h2 400 σ x1 0
set_option maxHeartbeats 1000000 in
set_option maxRecDepth 100000 in
theorem fX0_weigh_ok {p : Program} {l : Launch} {e : Env} {s : State} {m : MethodId} {args : Array Value} {below : List Frame} {meth : Method} {c : Code} {dC : Nat → ClassId} {dI : Nat → Nat → Nat} {ad : Nat → Nat} {cy : Nat → ClassId} {sz : Nat} (C : Cx p s m args meth c RX0 cX0_weigh 3 none dC dI ad cy sz) {rr : Int32} {ρ : S0} (σ : S0) (x1 : Int32)  (hf : fX0_weigh σ x1 = some (rr, ρ)) : Gw p l e rm_X0_weigh s m args below meth c (MQ below (QcV dC dI ad cy sz ρ) args s 0 0 (AW ad sz)) dC dI ad cy 3 sz 0 0 0 [(0, .ref (ad 41)), (1, .int x1)] [] σ := by
  unfold fX0_weigh at hf
  refine g_iconst (v := 0) C dX0_weigh_0 (by decide) ?_
  refine g_istore_n (lv2 := [(0, .ref (ad 41)), (1, .int x1), (2, .int 0)]) C dX0_weigh_1 rfl (by decide) [1, 2, 0] rfl ?_
  exact g_sub [0, 1, 2] rfl (fX0_weigh_h2_ok C 400 σ x1 0 hf)
theorem c_X0_weigh (l : Launch) (dC : Nat → ClassId) (dI : Nat → Nat → Nat) (ad : Nat → Nat) (cy : Nat → ClassId) (x1 : Int32) : ConV l yX0_weigh cX0_weigh 3 none rm_X0_weigh dC dI ad cy [.ref (ad 41), .int x1] (fun σ => fX0_weigh σ x1) := con_v (own := RX0) (by decide) rfl (Nat.le_of_ble_eq_true rfl) (fun _ _ _ _ _ _ _ _ σ _ _ C hf => fX0_weigh_ok C σ x1 hf)
theorem cal_X0_weigh : CalV yX0_weigh RX0 cX0_weigh 3 none 1 := ⟨hI_X0_weigh, hS_X0_weigh, hIni_X0, hC_X0_weigh, by decide +kernel⟩
abbrev rm_X0_bringsAt : Room := { frames := 0, cells := 0, slots := 0, locals := 0 }
def fX0_bringsAt_b65 (sf_7 : S0 → Int32 → Int32 → Int32 → Int32 → Option (Int32 × S0)) (σ : S0) (x1 : Int32) (x2 : Int32) (x3 : Int32) (x4 : Int32) : Option (Int32 × S0) := ol (x4 + 1) (fun v1 => sf_7 σ x1 x2 x3 v1)
set_option maxHeartbeats 1000000 in
set_option maxRecDepth 100000 in
theorem fX0_bringsAt_b65_ok {p : Program} {l : Launch} {e : Env} {s : State} {m : MethodId} {args : Array Value} {below : List Frame} {meth : Method} {c : Code} {dC : Nat → ClassId} {dI : Nat → Nat → Nat} {ad : Nat → Nat} {cy : Nat → ClassId} {sz : Nat} (C : Cx p s m args meth c RX0 cX0_bringsAt 6 (some .int) dC dI ad cy sz) {rr : Int32} {ρ : S0} (sf_7 : S0 → Int32 → Int32 → Int32 → Int32 → Option (Int32 × S0)) (hs_7 : ∀ (σ : S0) (x1 : Int32) (x2 : Int32) (x3 : Int32) (x4 : Int32) , sf_7 σ x1 x2 x3 x4 = some (rr, ρ) → Gw p l e rm_X0_bringsAt s m args below meth c (MQ below (QcI dC dI ad cy sz rr ρ) args s 0 0 (AW ad sz)) dC dI ad cy 6 sz 0 0 7 [(0, .ref (ad 41)), (1, .int x1), (2, .int x2), (3, .int x3), (4, .int x4)] [] σ) (σ : S0) (x1 : Int32) (x2 : Int32) (x3 : Int32) (x4 : Int32)  (hf : fX0_bringsAt_b65 sf_7 σ x1 x2 x3 x4 = some (rr, ρ)) : Gw p l e rm_X0_bringsAt s m args below meth c (MQ below (QcI dC dI ad cy sz rr ρ) args s 0 0 (AW ad sz)) dC dI ad cy 6 sz 0 0 65 [(0, .ref (ad 41)), (1, .int x1), (2, .int x2), (3, .int x3), (4, .int x4)] [] σ := by
  unfold fX0_bringsAt_b65 at hf
  obtain ⟨v1, ev1, hf⟩ := ol_e hf
  refine g_iinc (j := 4) (w := 1) (lv2 := [(0, .ref (ad 41)), (1, .int x1), (2, .int x2), (3, .int x3), (4, .int v1)]) C dX0_bringsAt_65 rfl (by decide) ev1 (by decide) [1, 2, 3, 4, 0] rfl ?_
  refine g_goto (tgt := 7) C dX0_bringsAt_68 (by decide) ?_
  exact g_sub [0, 1, 2, 3, 4] rfl (hs_7 σ x1 x2 x3 v1 hf)
def fX0_bringsAt_b7 (sf_7 : S0 → Int32 → Int32 → Int32 → Int32 → Option (Int32 × S0)) (σ : S0) (x1 : Int32) (x2 : Int32) (x3 : Int32) (x4 : Int32) : Option (Int32 × S0) := if (σ 22 2) ≤ x4 then (some (x2, σ)) else (og (¬ (x4 < 0 ∨ 6 ≤ x4.toNatClampNeg)) (ol (σ 42 x4.toNatClampNeg) (fun v3 => og (¬ (x4 < 0 ∨ 6 ≤ x4.toNatClampNeg)) (ol (σ 43 x4.toNatClampNeg) (fun v5 => ol (v3 - (x1 * v5)) (fun v6 => if v6 ≤ x3 then (fX0_bringsAt_b65 sf_7 σ x1 x2 x3 x4) else (og (¬ (x4 < 0 ∨ 6 ≤ x4.toNatClampNeg)) (ol (σ 44 x4.toNatClampNeg) (fun v9 => og (¬ (x4 < 0 ∨ 6 ≤ x4.toNatClampNeg)) (ol (σ 45 x4.toNatClampNeg) (fun v11 => ol ((x1 * v9) + v11) (fun v12 => fX0_bringsAt_b65 sf_7 σ x1 v12 v6 x4))))))))))))
set_option maxHeartbeats 1000000 in
set_option maxRecDepth 100000 in
theorem fX0_bringsAt_b7_ok {p : Program} {l : Launch} {e : Env} {s : State} {m : MethodId} {args : Array Value} {below : List Frame} {meth : Method} {c : Code} {dC : Nat → ClassId} {dI : Nat → Nat → Nat} {ad : Nat → Nat} {cy : Nat → ClassId} {sz : Nat} (C : Cx p s m args meth c RX0 cX0_bringsAt 6 (some .int) dC dI ad cy sz) {rr : Int32} {ρ : S0} (sf_7 : S0 → Int32 → Int32 → Int32 → Int32 → Option (Int32 × S0)) (hs_7 : ∀ (σ : S0) (x1 : Int32) (x2 : Int32) (x3 : Int32) (x4 : Int32) , sf_7 σ x1 x2 x3 x4 = some (rr, ρ) → Gw p l e rm_X0_bringsAt s m args below meth c (MQ below (QcI dC dI ad cy sz rr ρ) args s 0 0 (AW ad sz)) dC dI ad cy 6 sz 0 0 7 [(0, .ref (ad 41)), (1, .int x1), (2, .int x2), (3, .int x3), (4, .int x4)] [] σ) (σ : S0) (x1 : Int32) (x2 : Int32) (x3 : Int32) (x4 : Int32)  (hf : fX0_bringsAt_b7 sf_7 σ x1 x2 x3 x4 = some (rr, ρ)) : Gw p l e rm_X0_bringsAt s m args below meth c (MQ below (QcI dC dI ad cy sz rr ρ) args s 0 0 (AW ad sz)) dC dI ad cy 6 sz 0 0 7 [(0, .ref (ad 41)), (1, .int x1), (2, .int x2), (3, .int x3), (4, .int x4)] [] σ := by
  unfold fX0_bringsAt_b7 at hf
  refine g_iload C dX0_bringsAt_7 4 rfl ?_
  refine g_aload_n C dX0_bringsAt_9 rfl 0 rfl ?_
  refine g_get C (a_41 ad cy _) rfl hin_X0 0 (by decide) hF_X0_24 rfl rfl dX0_bringsAt_10 ?_
  refine g_get C (a_22 ad cy _) rfl hin_X9 2 (by decide) hF_X0_39 rfl rfl dX0_bringsAt_13 ?_
  rcases oi_e hf with ⟨c1, hf⟩ | ⟨c1, hf⟩
  · refine g_icmp_ge_t (tgt := 71) C dX0_bringsAt_16 (by decide) c1 ?_
    refine g_iload_n C dX0_bringsAt_71 rfl 2 rfl ?_
    obtain ⟨rfl, rfl⟩ := os_e hf
    exact g_iret C rfl dX0_bringsAt_72
  · refine g_icmp_ge_f (tgt := 71) C dX0_bringsAt_16 (by decide) c1 ?_
    refine g_aload_n C dX0_bringsAt_19 rfl 0 rfl ?_
    refine g_get C (a_41 ad cy _) rfl hin_X0 3 (by decide) hF_X0_9 rfl rfl dX0_bringsAt_20 ?_
    refine g_iload C dX0_bringsAt_23 4 rfl ?_
    obtain ⟨h2, hf⟩ := og_e hf
    refine g_iald C (a_42 ad cy _) h2 dX0_bringsAt_25 ?_
    obtain ⟨v3, ev3, hf⟩ := ol_e hf
    refine g_nm ev3 ?_
    refine g_iload_n C dX0_bringsAt_26 rfl 1 rfl ?_
    refine g_aload_n C dX0_bringsAt_27 rfl 0 rfl ?_
    refine g_get C (a_41 ad cy _) rfl hin_X0 4 (by decide) hF_X0_15 rfl rfl dX0_bringsAt_28 ?_
    refine g_iload C dX0_bringsAt_31 4 rfl ?_
    obtain ⟨h4, hf⟩ := og_e hf
    refine g_iald C (a_43 ad cy _) h4 dX0_bringsAt_33 ?_
    obtain ⟨v5, ev5, hf⟩ := ol_e hf
    refine g_nm ev5 ?_
    refine g_imul C dX0_bringsAt_34 ?_
    refine g_isub C dX0_bringsAt_35 ?_
    obtain ⟨v6, ev6, hf⟩ := ol_e hf
    refine g_nm ev6 ?_
    refine g_istore (lv2 := [(0, .ref (ad 41)), (1, .int x1), (2, .int x2), (3, .int x3), (4, .int x4), (5, .int v6)]) C dX0_bringsAt_36 (by decide) [1, 2, 3, 4, 5, 0] rfl ?_
    refine g_iload C dX0_bringsAt_38 5 rfl ?_
    refine g_iload_n C dX0_bringsAt_40 rfl 3 rfl ?_
    rcases oi_e hf with ⟨c7, hf⟩ | ⟨c7, hf⟩
    · refine g_icmp_le_t (tgt := 65) C dX0_bringsAt_41 (by decide) c7 ?_
      exact g_sub [0, 1, 2, 3, 4] rfl (fX0_bringsAt_b65_ok C sf_7 hs_7 σ x1 x2 x3 x4 hf)
    · refine g_icmp_le_f (tgt := 65) C dX0_bringsAt_41 (by decide) c7 ?_
      refine g_iload C dX0_bringsAt_44 5 rfl ?_
      refine g_istore_n (lv2 := [(0, .ref (ad 41)), (1, .int x1), (2, .int x2), (3, .int v6), (4, .int x4), (5, .int v6)]) C dX0_bringsAt_46 rfl (by decide) [1, 2, 3, 0, 4, 5] rfl ?_
      refine g_iload_n C dX0_bringsAt_47 rfl 1 rfl ?_
      refine g_aload_n C dX0_bringsAt_48 rfl 0 rfl ?_
      refine g_get C (a_41 ad cy _) rfl hin_X0 5 (by decide) hF_X0_18 rfl rfl dX0_bringsAt_49 ?_
      refine g_iload C dX0_bringsAt_52 4 rfl ?_
      obtain ⟨h8, hf⟩ := og_e hf
      refine g_iald C (a_44 ad cy _) h8 dX0_bringsAt_54 ?_
      obtain ⟨v9, ev9, hf⟩ := ol_e hf
      refine g_nm ev9 ?_
      refine g_imul C dX0_bringsAt_55 ?_
      refine g_aload_n C dX0_bringsAt_56 rfl 0 rfl ?_
      refine g_get C (a_41 ad cy _) rfl hin_X0 6 (by decide) hF_X0_21 rfl rfl dX0_bringsAt_57 ?_
      refine g_iload C dX0_bringsAt_60 4 rfl ?_
      obtain ⟨h10, hf⟩ := og_e hf
      refine g_iald C (a_45 ad cy _) h10 dX0_bringsAt_62 ?_
      obtain ⟨v11, ev11, hf⟩ := ol_e hf
      refine g_nm ev11 ?_
      refine g_iadd C dX0_bringsAt_63 ?_
      obtain ⟨v12, ev12, hf⟩ := ol_e hf
      refine g_nm ev12 ?_
      refine g_istore_n (lv2 := [(0, .ref (ad 41)), (1, .int x1), (2, .int v12), (3, .int v6), (4, .int x4), (5, .int v6)]) C dX0_bringsAt_64 rfl (by decide) [1, 2, 0, 3, 4, 5] rfl ?_
      exact g_sub [0, 1, 2, 3, 4] rfl (fX0_bringsAt_b65_ok C sf_7 hs_7 σ x1 v12 v6 x4 hf)
def fX0_bringsAt_h7  : Nat → S0 → Int32 → Int32 → Int32 → Int32 → Option (Int32 × S0)
  | 0 => fun _ _ _ _ _ => none
  | n + 1 => fun σ x1 x2 x3 x4 => fX0_bringsAt_b7  (fX0_bringsAt_h7  n) σ x1 x2 x3 x4
set_option maxHeartbeats 1000000 in
set_option maxRecDepth 100000 in
theorem fX0_bringsAt_h7_ok {p : Program} {l : Launch} {e : Env} {s : State} {m : MethodId} {args : Array Value} {below : List Frame} {meth : Method} {c : Code} {dC : Nat → ClassId} {dI : Nat → Nat → Nat} {ad : Nat → Nat} {cy : Nat → ClassId} {sz : Nat} (C : Cx p s m args meth c RX0 cX0_bringsAt 6 (some .int) dC dI ad cy sz) {rr : Int32} {ρ : S0}  : ∀ (n : Nat) (σ : S0) (x1 : Int32) (x2 : Int32) (x3 : Int32) (x4 : Int32)  (_hf : fX0_bringsAt_h7  n σ x1 x2 x3 x4 = some (rr, ρ)), Gw p l e rm_X0_bringsAt s m args below meth c (MQ below (QcI dC dI ad cy sz rr ρ) args s 0 0 (AW ad sz)) dC dI ad cy 6 sz 0 0 7 [(0, .ref (ad 41)), (1, .int x1), (2, .int x2), (3, .int x3), (4, .int x4)] [] σ
  | 0, _, _, _, _, _, hf => by cases hf
  | n + 1, σ, x1, x2, x3, x4, hf => fX0_bringsAt_b7_ok C  (fX0_bringsAt_h7  n) (fX0_bringsAt_h7_ok C  n) σ x1 x2 x3 x4 hf
def fX0_bringsAt (σ : S0) (x1 : Int32) : Option (Int32 × S0) := fX0_bringsAt_h7 400 σ x1 0 0 0
set_option maxHeartbeats 1000000 in
set_option maxRecDepth 100000 in
theorem fX0_bringsAt_ok {p : Program} {l : Launch} {e : Env} {s : State} {m : MethodId} {args : Array Value} {below : List Frame} {meth : Method} {c : Code} {dC : Nat → ClassId} {dI : Nat → Nat → Nat} {ad : Nat → Nat} {cy : Nat → ClassId} {sz : Nat} (C : Cx p s m args meth c RX0 cX0_bringsAt 6 (some .int) dC dI ad cy sz) {rr : Int32} {ρ : S0} (σ : S0) (x1 : Int32)  (hf : fX0_bringsAt σ x1 = some (rr, ρ)) : Gw p l e rm_X0_bringsAt s m args below meth c (MQ below (QcI dC dI ad cy sz rr ρ) args s 0 0 (AW ad sz)) dC dI ad cy 6 sz 0 0 0 [(0, .ref (ad 41)), (1, .int x1)] [] σ := by
  unfold fX0_bringsAt at hf
  refine g_iconst (v := 0) C dX0_bringsAt_0 (by decide) ?_
  refine g_istore_n (lv2 := [(0, .ref (ad 41)), (1, .int x1), (2, .int 0)]) C dX0_bringsAt_1 rfl (by decide) [1, 2, 0] rfl ?_
  refine g_iconst (v := 0) C dX0_bringsAt_2 (by decide) ?_
  refine g_istore_n (lv2 := [(0, .ref (ad 41)), (1, .int x1), (2, .int 0), (3, .int 0)]) C dX0_bringsAt_3 rfl (by decide) [1, 2, 3, 0] rfl ?_
  refine g_iconst (v := 0) C dX0_bringsAt_4 (by decide) ?_
  refine g_istore (lv2 := [(0, .ref (ad 41)), (1, .int x1), (2, .int 0), (3, .int 0), (4, .int 0)]) C dX0_bringsAt_5 (by decide) [1, 2, 3, 4, 0] rfl ?_
  exact g_sub [0, 1, 2, 3, 4] rfl (fX0_bringsAt_h7_ok C 400 σ x1 0 0 0 hf)
theorem c_X0_bringsAt (l : Launch) (dC : Nat → ClassId) (dI : Nat → Nat → Nat) (ad : Nat → Nat) (cy : Nat → ClassId) (x1 : Int32) : ConI l yX0_bringsAt cX0_bringsAt 6 (some .int) rm_X0_bringsAt dC dI ad cy [.ref (ad 41), .int x1] (fun σ => fX0_bringsAt σ x1) := con_i (own := RX0) (by decide) rfl (Nat.le_of_ble_eq_true rfl) (fun _ _ _ _ _ _ _ _ σ _ _ C hf => fX0_bringsAt_ok C σ x1 hf)
theorem cal_X0_bringsAt : CalV yX0_bringsAt RX0 cX0_bringsAt 6 (some .int) 1 := ⟨hI_X0_bringsAt, hS_X0_bringsAt, hIni_X0, hC_X0_bringsAt, by decide +kernel⟩
end
section
abbrev rm_X0_choose : Room := { frames := 3, cells := 0, slots := 0, locals := 73 }
def fX0_choose_b51 (sf_21 : S0 → Int32 → Option (Int32 × S0)) (σ : S0) (x2 : Int32) : Option (Int32 × S0) := ol (x2 + 1) (fun v1 => sf_21 σ v1)
set_option maxHeartbeats 1000000 in
set_option maxRecDepth 100000 in
theorem fX0_choose_b51_ok {p : Program} {l : Launch} {e : Env} {s : State} {m : MethodId} {args : Array Value} {below : List Frame} {meth : Method} {c : Code} {dC : Nat → ClassId} {dI : Nat → Nat → Nat} {ad : Nat → Nat} {cy : Nat → ClassId} {sz : Nat} (C : Cx p s m args meth c RX0 cX0_choose 4 none dC dI ad cy sz) {rr : Int32} {ρ : S0} (sf_21 : S0 → Int32 → Option (Int32 × S0)) (hs_21 : ∀ (σ : S0) (x2 : Int32) , sf_21 σ x2 = some (rr, ρ) → Gw p l e rm_X0_choose s m args below meth c (MQ below (QcV dC dI ad cy sz ρ) args s 0 0 (AW ad sz)) dC dI ad cy 4 sz 0 0 21 [(0, .ref (ad 41)), (2, .int x2)] [] σ) (σ : S0) (x2 : Int32)  (hf : fX0_choose_b51 sf_21 σ x2 = some (rr, ρ)) : Gw p l e rm_X0_choose s m args below meth c (MQ below (QcV dC dI ad cy sz ρ) args s 0 0 (AW ad sz)) dC dI ad cy 4 sz 0 0 51 [(0, .ref (ad 41)), (2, .int x2)] [] σ := by
  unfold fX0_choose_b51 at hf
  obtain ⟨v1, ev1, hf⟩ := ol_e hf
  refine g_iinc (j := 1) (w := 1) (lv2 := [(0, .ref (ad 41)), (2, .int v1)]) C dX0_choose_51 rfl (by decide) ev1 (by decide) [1, 0] rfl ?_
  refine g_goto (tgt := 21) C dX0_choose_54 (by decide) ?_
  exact g_sub [0, 1] rfl (hs_21 σ v1 hf)
def fX0_choose_b21 (sf_21 : S0 → Int32 → Option (Int32 × S0)) (σ : S0) (x2 : Int32) : Option (Int32 × S0) := if (20 : Int32) < x2 then (some (0, σ)) else (obp (fX0_bringsAt σ x2) (fun r2 σ3 => if r2 ≤ (σ3 41 8) then (fX0_choose_b51 sf_21 σ3 x2) else (ol (su σ3 41 8 r2) (fun σ6 => ol (su σ6 41 7 x2) (fun σ7 => fX0_choose_b51 sf_21 σ7 x2)))))
set_option maxHeartbeats 1000000 in
set_option maxRecDepth 100000 in
theorem fX0_choose_b21_ok {p : Program} {l : Launch} {e : Env} {s : State} {m : MethodId} {args : Array Value} {below : List Frame} {meth : Method} {c : Code} {dC : Nat → ClassId} {dI : Nat → Nat → Nat} {ad : Nat → Nat} {cy : Nat → ClassId} {sz : Nat} (C : Cx p s m args meth c RX0 cX0_choose 4 none dC dI ad cy sz) {rr : Int32} {ρ : S0} (sf_21 : S0 → Int32 → Option (Int32 × S0)) (hs_21 : ∀ (σ : S0) (x2 : Int32) , sf_21 σ x2 = some (rr, ρ) → Gw p l e rm_X0_choose s m args below meth c (MQ below (QcV dC dI ad cy sz ρ) args s 0 0 (AW ad sz)) dC dI ad cy 4 sz 0 0 21 [(0, .ref (ad 41)), (2, .int x2)] [] σ) (σ : S0) (x2 : Int32)  (hf : fX0_choose_b21 sf_21 σ x2 = some (rr, ρ)) : Gw p l e rm_X0_choose s m args below meth c (MQ below (QcV dC dI ad cy sz ρ) args s 0 0 (AW ad sz)) dC dI ad cy 4 sz 0 0 21 [(0, .ref (ad 41)), (2, .int x2)] [] σ := by
  unfold fX0_choose_b21 at hf
  refine g_iload_n C dX0_choose_21 rfl 1 rfl ?_
  refine g_bipush (v := 20) C dX0_choose_22 (by decide) ?_
  rcases oi_e hf with ⟨c1, hf⟩ | ⟨c1, hf⟩
  · refine g_icmp_gt_t (tgt := 57) C dX0_choose_24 (by decide) c1 ?_
    obtain ⟨rfl, rfl⟩ := os_e hf
    exact g_vret C rfl dX0_choose_57
  · refine g_icmp_gt_f (tgt := 57) C dX0_choose_24 (by decide) c1 ?_
    refine g_aload_n C dX0_choose_27 rfl 0 rfl ?_
    refine g_iload_n C dX0_choose_28 rfl 1 rfl ?_
    obtain ⟨r2, σ3, h4, hf⟩ := obp_e hf
    refine g_callVi (As := [.int x2]) (rest := []) C (a_41 ad cy _) rfl (c_X0_bringsAt l dC dI ad cy x2) h4 hM_X0_85 cal_X0_bringsAt ⟨Nat.zero_le _, Nat.zero_le _⟩ ⟨rfl, rfl⟩ ⟨Nat.le_of_ble_eq_true rfl, Nat.le_of_ble_eq_true rfl⟩ rfl rfl (Nat.le_of_ble_eq_true rfl) dX0_choose_29 ?_
    refine g_istore_n (lv2 := [(0, .ref (ad 41)), (2, .int x2), (3, .int r2)]) C dX0_choose_32 rfl (by decide) [1, 2, 0] rfl ?_
    refine g_iload_n C dX0_choose_33 rfl 2 rfl ?_
    refine g_aload_n C dX0_choose_34 rfl 0 rfl ?_
    refine g_get C (a_41 ad cy _) rfl hin_X0 8 (by decide) hF_X0_89 rfl rfl dX0_choose_35 ?_
    rcases oi_e hf with ⟨c5, hf⟩ | ⟨c5, hf⟩
    · refine g_icmp_le_t (tgt := 51) C dX0_choose_38 (by decide) c5 ?_
      exact g_sub [0, 1] rfl (fX0_choose_b51_ok C sf_21 hs_21 σ3 x2 hf)
    · refine g_icmp_le_f (tgt := 51) C dX0_choose_38 (by decide) c5 ?_
      refine g_aload_n C dX0_choose_41 rfl 0 rfl ?_
      refine g_iload_n C dX0_choose_42 rfl 2 rfl ?_
      obtain ⟨σ6, eσ6, hf⟩ := ol_e hf
      refine g_put (ty := .int) C (a_41 ad cy _) rfl hin_X0 tyX0 tyX0_ok nmX0 8 (by decide) hF_X0_89 rfl rfl (by decide +kernel) rfl rfl (Nat.le_of_ble_eq_true rfl) (p_41_8 ad cy _ _) eσ6 dX0_choose_43 ?_
      refine g_aload_n C dX0_choose_46 rfl 0 rfl ?_
      refine g_iload_n C dX0_choose_47 rfl 1 rfl ?_
      obtain ⟨σ7, eσ7, hf⟩ := ol_e hf
      refine g_put (ty := .int) C (a_41 ad cy _) rfl hin_X0 tyX0 tyX0_ok nmX0 7 (by decide) hF_X0_82 rfl rfl (by decide +kernel) rfl rfl (Nat.le_of_ble_eq_true rfl) (p_41_7 ad cy _ _) eσ7 dX0_choose_48 ?_
      exact g_sub [0, 1] rfl (fX0_choose_b51_ok C sf_21 hs_21 σ7 x2 hf)
def fX0_choose_h21  : Nat → S0 → Int32 → Option (Int32 × S0)
  | 0 => fun _ _ => none
  | n + 1 => fun σ x2 => fX0_choose_b21  (fX0_choose_h21  n) σ x2
set_option maxHeartbeats 1000000 in
set_option maxRecDepth 100000 in
theorem fX0_choose_h21_ok {p : Program} {l : Launch} {e : Env} {s : State} {m : MethodId} {args : Array Value} {below : List Frame} {meth : Method} {c : Code} {dC : Nat → ClassId} {dI : Nat → Nat → Nat} {ad : Nat → Nat} {cy : Nat → ClassId} {sz : Nat} (C : Cx p s m args meth c RX0 cX0_choose 4 none dC dI ad cy sz) {rr : Int32} {ρ : S0}  : ∀ (n : Nat) (σ : S0) (x2 : Int32)  (_hf : fX0_choose_h21  n σ x2 = some (rr, ρ)), Gw p l e rm_X0_choose s m args below meth c (MQ below (QcV dC dI ad cy sz ρ) args s 0 0 (AW ad sz)) dC dI ad cy 4 sz 0 0 21 [(0, .ref (ad 41)), (2, .int x2)] [] σ
  | 0, _, _, hf => by cases hf
  | n + 1, σ, x2, hf => fX0_choose_b21_ok C  (fX0_choose_h21  n) (fX0_choose_h21_ok C  n) σ x2 hf
def fX0_choose (σ : S0) (x1 : Int32) : Option (Int32 × S0) := obp (fX0_weigh σ x1) (fun r1 σ2 => ol (su σ2 41 7 0) (fun σ4 => obp (fX0_bringsAt σ4 ((0 : Int32))) (fun r5 σ6 => ol (su σ6 41 8 r5) (fun σ8 => fX0_choose_h21 400 σ8 1))))
set_option maxHeartbeats 1000000 in
set_option maxRecDepth 100000 in
theorem fX0_choose_ok {p : Program} {l : Launch} {e : Env} {s : State} {m : MethodId} {args : Array Value} {below : List Frame} {meth : Method} {c : Code} {dC : Nat → ClassId} {dI : Nat → Nat → Nat} {ad : Nat → Nat} {cy : Nat → ClassId} {sz : Nat} (C : Cx p s m args meth c RX0 cX0_choose 4 none dC dI ad cy sz) {rr : Int32} {ρ : S0} (σ : S0) (x1 : Int32)  (hf : fX0_choose σ x1 = some (rr, ρ)) : Gw p l e rm_X0_choose s m args below meth c (MQ below (QcV dC dI ad cy sz ρ) args s 0 0 (AW ad sz)) dC dI ad cy 4 sz 0 0 0 [(0, .ref (ad 41)), (1, .int x1)] [] σ := by
  unfold fX0_choose at hf
  refine g_aload_n C dX0_choose_0 rfl 0 rfl ?_
  refine g_iload_n C dX0_choose_1 rfl 1 rfl ?_
  obtain ⟨r1, σ2, h3, hf⟩ := obp_e hf
  refine g_callVv (As := [.int x1]) (rest := []) C (a_41 ad cy _) rfl (c_X0_weigh l dC dI ad cy x1) h3 hM_X0_79 cal_X0_weigh ⟨Nat.zero_le _, Nat.zero_le _⟩ ⟨rfl, rfl⟩ ⟨Nat.le_of_ble_eq_true rfl, Nat.le_of_ble_eq_true rfl⟩ rfl rfl (Nat.le_of_ble_eq_true rfl) dX0_choose_2 ?_
  refine g_aload_n C dX0_choose_5 rfl 0 rfl ?_
  refine g_iconst (v := 0) C dX0_choose_6 (by decide) ?_
  obtain ⟨σ4, eσ4, hf⟩ := ol_e hf
  refine g_put (ty := .int) C (a_41 ad cy _) rfl hin_X0 tyX0 tyX0_ok nmX0 7 (by decide) hF_X0_82 rfl rfl (by decide +kernel) rfl rfl (Nat.le_of_ble_eq_true rfl) (p_41_7 ad cy _ _) eσ4 dX0_choose_7 ?_
  refine g_aload_n C dX0_choose_10 rfl 0 rfl ?_
  refine g_aload_n C dX0_choose_11 rfl 0 rfl ?_
  refine g_iconst (v := 0) C dX0_choose_12 (by decide) ?_
  obtain ⟨r5, σ6, h7, hf⟩ := obp_e hf
  refine g_callVi (As := [.int 0]) (rest := [.ref (ad 41)]) C (a_41 ad cy _) rfl (c_X0_bringsAt l dC dI ad cy ((0 : Int32))) h7 hM_X0_85 cal_X0_bringsAt ⟨Nat.zero_le _, Nat.zero_le _⟩ ⟨rfl, rfl⟩ ⟨Nat.le_of_ble_eq_true rfl, Nat.le_of_ble_eq_true rfl⟩ rfl rfl (Nat.le_of_ble_eq_true rfl) dX0_choose_13 ?_
  obtain ⟨σ8, eσ8, hf⟩ := ol_e hf
  refine g_put (ty := .int) C (a_41 ad cy _) rfl hin_X0 tyX0 tyX0_ok nmX0 8 (by decide) hF_X0_89 rfl rfl (by decide +kernel) rfl rfl (Nat.le_of_ble_eq_true rfl) (p_41_8 ad cy _ _) eσ8 dX0_choose_16 ?_
  refine g_iconst (v := 1) C dX0_choose_19 (by decide) ?_
  refine g_istore_n (lv2 := [(0, .ref (ad 41)), (1, .int x1), (2, .int 1)]) C dX0_choose_20 rfl (by decide) [1, 2, 0] rfl ?_
  exact g_sub [0, 2] rfl (fX0_choose_h21_ok C 400 σ8 1 hf)
theorem c_X0_choose (l : Launch) (dC : Nat → ClassId) (dI : Nat → Nat → Nat) (ad : Nat → Nat) (cy : Nat → ClassId) (x1 : Int32) : ConV l yX0_choose cX0_choose 4 none rm_X0_choose dC dI ad cy [.ref (ad 41), .int x1] (fun σ => fX0_choose σ x1) := con_v (own := RX0) (by decide) rfl (Nat.le_of_ble_eq_true rfl) (fun _ _ _ _ _ _ _ _ σ _ _ C hf => fX0_choose_ok C σ x1 hf)
theorem cal_X0_choose : CalV yX0_choose RX0 cX0_choose 4 none 1 := ⟨hI_X0_choose, hS_X0_choose, hIni_X0, hC_X0_choose, by decide +kernel⟩
abbrev rm_X0_wantsOther : Room := { frames := 4, cells := 0, slots := 0, locals := 96 }
def fX0_wantsOther (σ : S0) (x1 : Int32) : Option (Int32 × S0) := obp (fX0_choose σ x1) (fun r1 σ2 => obp (fX6_wageOf σ2 x1) (fun r4 σ5 => if (σ2 41 8) ≤ r4 then (some (0, σ5)) else (some (1, σ5))))
set_option maxHeartbeats 1000000 in
set_option maxRecDepth 100000 in
theorem fX0_wantsOther_ok {p : Program} {l : Launch} {e : Env} {s : State} {m : MethodId} {args : Array Value} {below : List Frame} {meth : Method} {c : Code} {dC : Nat → ClassId} {dI : Nat → Nat → Nat} {ad : Nat → Nat} {cy : Nat → ClassId} {sz : Nat} (C : Cx p s m args meth c RX0 cX0_wantsOther 2 (some .boolean) dC dI ad cy sz) {rr : Int32} {ρ : S0} (σ : S0) (x1 : Int32)  (hf : fX0_wantsOther σ x1 = some (rr, ρ)) : Gw p l e rm_X0_wantsOther s m args below meth c (MQ below (QcI dC dI ad cy sz rr ρ) args s 0 0 (AW ad sz)) dC dI ad cy 2 sz 0 0 0 [(0, .ref (ad 41)), (1, .int x1)] [] σ := by
  unfold fX0_wantsOther at hf
  refine g_aload_n C dX0_wantsOther_0 rfl 0 rfl ?_
  refine g_iload_n C dX0_wantsOther_1 rfl 1 rfl ?_
  obtain ⟨r1, σ2, h3, hf⟩ := obp_e hf
  refine g_callVv (As := [.int x1]) (rest := []) C (a_41 ad cy _) rfl (c_X0_choose l dC dI ad cy x1) h3 hM_X0_92 cal_X0_choose ⟨Nat.zero_le _, Nat.zero_le _⟩ ⟨rfl, rfl⟩ ⟨Nat.le_of_ble_eq_true rfl, Nat.le_of_ble_eq_true rfl⟩ rfl rfl (Nat.le_of_ble_eq_true rfl) dX0_wantsOther_2 ?_
  refine g_aload_n C dX0_wantsOther_5 rfl 0 rfl ?_
  refine g_get C (a_41 ad cy _) rfl hin_X0 8 (by decide) hF_X0_89 rfl rfl dX0_wantsOther_6 ?_
  refine g_aload_n C dX0_wantsOther_9 rfl 0 rfl ?_
  refine g_get C (a_41 ad cy _) rfl hin_X0 2 (by decide) hF_X0_35 rfl rfl dX0_wantsOther_10 ?_
  refine g_iload_n C dX0_wantsOther_13 rfl 1 rfl ?_
  obtain ⟨r4, σ5, h6, hf⟩ := obp_e hf
  refine g_callVi (As := [.int x1]) (rest := [.int (σ2 41 8)]) C (a_40 ad cy _) rfl (c_X6_wageOf l dC dI ad cy x1) h6 hM_X0_95 cal_X6_wageOf ⟨Nat.zero_le _, Nat.zero_le _⟩ ⟨rfl, rfl⟩ ⟨Nat.le_of_ble_eq_true rfl, Nat.le_of_ble_eq_true rfl⟩ rfl rfl (Nat.le_of_ble_eq_true rfl) dX0_wantsOther_14 ?_
  rcases oi_e hf with ⟨c7, hf⟩ | ⟨c7, hf⟩
  · refine g_icmp_le_t (tgt := 24) C dX0_wantsOther_17 (by decide) c7 ?_
    refine g_iconst (v := 0) C dX0_wantsOther_24 (by decide) ?_
    obtain ⟨rfl, rfl⟩ := os_e hf
    exact g_zret C rfl (by decide) dX0_wantsOther_25
  · refine g_icmp_le_f (tgt := 24) C dX0_wantsOther_17 (by decide) c7 ?_
    refine g_iconst (v := 1) C dX0_wantsOther_20 (by decide) ?_
    refine g_goto (tgt := 25) C dX0_wantsOther_21 (by decide) ?_
    obtain ⟨rfl, rfl⟩ := os_e hf
    exact g_zret C rfl (by decide) dX0_wantsOther_25
theorem c_X0_wantsOther (l : Launch) (dC : Nat → ClassId) (dI : Nat → Nat → Nat) (ad : Nat → Nat) (cy : Nat → ClassId) (x1 : Int32) : ConI l yX0_wantsOther cX0_wantsOther 2 (some .boolean) rm_X0_wantsOther dC dI ad cy [.ref (ad 41), .int x1] (fun σ => fX0_wantsOther σ x1) := con_i (own := RX0) (by decide) rfl (Nat.le_of_ble_eq_true rfl) (fun _ _ _ _ _ _ _ _ σ _ _ C hf => fX0_wantsOther_ok C σ x1 hf)
theorem cal_X0_wantsOther : CalV yX0_wantsOther RX0 cX0_wantsOther 2 (some .boolean) 1 := ⟨hI_X0_wantsOther, hS_X0_wantsOther, hIni_X0, hC_X0_wantsOther, by decide +kernel⟩
abbrev rm_X0_setFees : Room := { frames := 0, cells := 0, slots := 0, locals := 0 }
def fX0_setFees_b36 (sf_2 : S0 → Int32 → Int32 → Int32 → Option (Int32 × S0)) (σ : S0) (x1 : Int32) (x2 : Int32) (x3 : Int32) : Option (Int32 × S0) := ol (x3 + 1) (fun v1 => sf_2 σ x1 x2 v1)
set_option maxHeartbeats 1000000 in
set_option maxRecDepth 100000 in
theorem fX0_setFees_b36_ok {p : Program} {l : Launch} {e : Env} {s : State} {m : MethodId} {args : Array Value} {below : List Frame} {meth : Method} {c : Code} {dC : Nat → ClassId} {dI : Nat → Nat → Nat} {ad : Nat → Nat} {cy : Nat → ClassId} {sz : Nat} (C : Cx p s m args meth c RX0 cX0_setFees 4 none dC dI ad cy sz) {rr : Int32} {ρ : S0} (sf_2 : S0 → Int32 → Int32 → Int32 → Option (Int32 × S0)) (hs_2 : ∀ (σ : S0) (x1 : Int32) (x2 : Int32) (x3 : Int32) , sf_2 σ x1 x2 x3 = some (rr, ρ) → Gw p l e rm_X0_setFees s m args below meth c (MQ below (QcV dC dI ad cy sz ρ) args s 0 0 (AW ad sz)) dC dI ad cy 4 sz 0 0 2 [(0, .ref (ad 41)), (1, .int x1), (2, .int x2), (3, .int x3)] [] σ) (σ : S0) (x1 : Int32) (x2 : Int32) (x3 : Int32)  (hf : fX0_setFees_b36 sf_2 σ x1 x2 x3 = some (rr, ρ)) : Gw p l e rm_X0_setFees s m args below meth c (MQ below (QcV dC dI ad cy sz ρ) args s 0 0 (AW ad sz)) dC dI ad cy 4 sz 0 0 36 [(0, .ref (ad 41)), (1, .int x1), (2, .int x2), (3, .int x3)] [] σ := by
  unfold fX0_setFees_b36 at hf
  obtain ⟨v1, ev1, hf⟩ := ol_e hf
  refine g_iinc (j := 3) (w := 1) (lv2 := [(0, .ref (ad 41)), (1, .int x1), (2, .int x2), (3, .int v1)]) C dX0_setFees_36 rfl (by decide) ev1 (by decide) [1, 2, 3, 0] rfl ?_
  refine g_goto (tgt := 2) C dX0_setFees_39 (by decide) ?_
  exact g_sub [0, 1, 2, 3] rfl (hs_2 σ x1 x2 v1 hf)
def fX0_setFees_b2 (sf_2 : S0 → Int32 → Int32 → Int32 → Option (Int32 × S0)) (σ : S0) (x1 : Int32) (x2 : Int32) (x3 : Int32) : Option (Int32 × S0) := if (σ 32 0) ≤ x3 then (some (0, σ)) else (og (¬ (x3 < 0 ∨ 12 ≤ x3.toNatClampNeg)) (ol (σ 33 x3.toNatClampNeg) (fun v3 => if ¬ v3 = x1 then (fX0_setFees_b36 sf_2 σ x1 x2 x3) else (og (¬ (x3 < 0 ∨ 12 ≤ x3.toNatClampNeg)) (ol (su σ 34 x3.toNatClampNeg x2) (fun σ6 => fX0_setFees_b36 sf_2 σ6 x1 x2 x3))))))
set_option maxHeartbeats 1000000 in
set_option maxRecDepth 100000 in
theorem fX0_setFees_b2_ok {p : Program} {l : Launch} {e : Env} {s : State} {m : MethodId} {args : Array Value} {below : List Frame} {meth : Method} {c : Code} {dC : Nat → ClassId} {dI : Nat → Nat → Nat} {ad : Nat → Nat} {cy : Nat → ClassId} {sz : Nat} (C : Cx p s m args meth c RX0 cX0_setFees 4 none dC dI ad cy sz) {rr : Int32} {ρ : S0} (sf_2 : S0 → Int32 → Int32 → Int32 → Option (Int32 × S0)) (hs_2 : ∀ (σ : S0) (x1 : Int32) (x2 : Int32) (x3 : Int32) , sf_2 σ x1 x2 x3 = some (rr, ρ) → Gw p l e rm_X0_setFees s m args below meth c (MQ below (QcV dC dI ad cy sz ρ) args s 0 0 (AW ad sz)) dC dI ad cy 4 sz 0 0 2 [(0, .ref (ad 41)), (1, .int x1), (2, .int x2), (3, .int x3)] [] σ) (σ : S0) (x1 : Int32) (x2 : Int32) (x3 : Int32)  (hf : fX0_setFees_b2 sf_2 σ x1 x2 x3 = some (rr, ρ)) : Gw p l e rm_X0_setFees s m args below meth c (MQ below (QcV dC dI ad cy sz ρ) args s 0 0 (AW ad sz)) dC dI ad cy 4 sz 0 0 2 [(0, .ref (ad 41)), (1, .int x1), (2, .int x2), (3, .int x3)] [] σ := by
  unfold fX0_setFees_b2 at hf
  refine g_iload_n C dX0_setFees_2 rfl 3 rfl ?_
  refine g_aload_n C dX0_setFees_3 rfl 0 rfl ?_
  refine g_get C (a_41 ad cy _) rfl hin_X0 1 (by decide) hF_X0_34 rfl rfl dX0_setFees_4 ?_
  refine g_get C (a_32 ad cy _) rfl hin_X1 0 (by decide) hF_X0_107 rfl rfl dX0_setFees_7 ?_
  rcases oi_e hf with ⟨c1, hf⟩ | ⟨c1, hf⟩
  · refine g_icmp_ge_t (tgt := 42) C dX0_setFees_10 (by decide) c1 ?_
    obtain ⟨rfl, rfl⟩ := os_e hf
    exact g_vret C rfl dX0_setFees_42
  · refine g_icmp_ge_f (tgt := 42) C dX0_setFees_10 (by decide) c1 ?_
    refine g_aload_n C dX0_setFees_13 rfl 0 rfl ?_
    refine g_get C (a_41 ad cy _) rfl hin_X0 1 (by decide) hF_X0_34 rfl rfl dX0_setFees_14 ?_
    refine g_get C (a_32 ad cy _) rfl hin_X1 1 (by decide) hF_X0_73 rfl rfl dX0_setFees_17 ?_
    refine g_iload_n C dX0_setFees_20 rfl 3 rfl ?_
    obtain ⟨h2, hf⟩ := og_e hf
    refine g_iald C (a_33 ad cy _) h2 dX0_setFees_21 ?_
    obtain ⟨v3, ev3, hf⟩ := ol_e hf
    refine g_nm ev3 ?_
    refine g_iload_n C dX0_setFees_22 rfl 1 rfl ?_
    rcases oi_e hf with ⟨c4, hf⟩ | ⟨c4, hf⟩
    · refine g_icmp_ne_t (tgt := 36) C dX0_setFees_23 (by decide) c4 ?_
      exact g_sub [0, 1, 2, 3] rfl (fX0_setFees_b36_ok C sf_2 hs_2 σ x1 x2 x3 hf)
    · refine g_icmp_ne_f (tgt := 36) C dX0_setFees_23 (by decide) (Decidable.of_not_not c4) ?_
      refine g_aload_n C dX0_setFees_26 rfl 0 rfl ?_
      refine g_get C (a_41 ad cy _) rfl hin_X0 1 (by decide) hF_X0_34 rfl rfl dX0_setFees_27 ?_
      refine g_get C (a_32 ad cy _) rfl hin_X1 2 (by decide) hF_X0_76 rfl rfl dX0_setFees_30 ?_
      refine g_iload_n C dX0_setFees_33 rfl 3 rfl ?_
      refine g_iload_n C dX0_setFees_34 rfl 2 rfl ?_
      obtain ⟨h5, hf⟩ := og_e hf
      obtain ⟨σ6, eσ6, hf⟩ := ol_e hf
      refine g_iast C (a_34 ad cy _) h5 (w_34 ad cy _) eσ6 dX0_setFees_35 ?_
      exact g_sub [0, 1, 2, 3] rfl (fX0_setFees_b36_ok C sf_2 hs_2 σ6 x1 x2 x3 hf)
def fX0_setFees_h2  : Nat → S0 → Int32 → Int32 → Int32 → Option (Int32 × S0)
  | 0 => fun _ _ _ _ => none
  | n + 1 => fun σ x1 x2 x3 => fX0_setFees_b2  (fX0_setFees_h2  n) σ x1 x2 x3
set_option maxHeartbeats 1000000 in
set_option maxRecDepth 100000 in
theorem fX0_setFees_h2_ok {p : Program} {l : Launch} {e : Env} {s : State} {m : MethodId} {args : Array Value} {below : List Frame} {meth : Method} {c : Code} {dC : Nat → ClassId} {dI : Nat → Nat → Nat} {ad : Nat → Nat} {cy : Nat → ClassId} {sz : Nat} (C : Cx p s m args meth c RX0 cX0_setFees 4 none dC dI ad cy sz) {rr : Int32} {ρ : S0}  : ∀ (n : Nat) (σ : S0) (x1 : Int32) (x2 : Int32) (x3 : Int32)  (_hf : fX0_setFees_h2  n σ x1 x2 x3 = some (rr, ρ)), Gw p l e rm_X0_setFees s m args below meth c (MQ below (QcV dC dI ad cy sz ρ) args s 0 0 (AW ad sz)) dC dI ad cy 4 sz 0 0 2 [(0, .ref (ad 41)), (1, .int x1), (2, .int x2), (3, .int x3)] [] σ
  | 0, _, _, _, _, hf => by cases hf
  | n + 1, σ, x1, x2, x3, hf => fX0_setFees_b2_ok C  (fX0_setFees_h2  n) (fX0_setFees_h2_ok C  n) σ x1 x2 x3 hf
def fX0_setFees (σ : S0) (x1 : Int32) (x2 : Int32) : Option (Int32 × S0) := fX0_setFees_h2 400 σ x1 x2 0
set_option maxHeartbeats 1000000 in
set_option maxRecDepth 100000 in
theorem fX0_setFees_ok {p : Program} {l : Launch} {e : Env} {s : State} {m : MethodId} {args : Array Value} {below : List Frame} {meth : Method} {c : Code} {dC : Nat → ClassId} {dI : Nat → Nat → Nat} {ad : Nat → Nat} {cy : Nat → ClassId} {sz : Nat} (C : Cx p s m args meth c RX0 cX0_setFees 4 none dC dI ad cy sz) {rr : Int32} {ρ : S0} (σ : S0) (x1 : Int32) (x2 : Int32)  (hf : fX0_setFees σ x1 x2 = some (rr, ρ)) : Gw p l e rm_X0_setFees s m args below meth c (MQ below (QcV dC dI ad cy sz ρ) args s 0 0 (AW ad sz)) dC dI ad cy 4 sz 0 0 0 [(0, .ref (ad 41)), (1, .int x1), (2, .int x2)] [] σ := by
  unfold fX0_setFees at hf
  refine g_iconst (v := 0) C dX0_setFees_0 (by decide) ?_
  refine g_istore_n (lv2 := [(0, .ref (ad 41)), (1, .int x1), (2, .int x2), (3, .int 0)]) C dX0_setFees_1 rfl (by decide) [1, 2, 3, 0] rfl ?_
  exact g_sub [0, 1, 2, 3] rfl (fX0_setFees_h2_ok C 400 σ x1 x2 0 hf)
theorem c_X0_setFees (l : Launch) (dC : Nat → ClassId) (dI : Nat → Nat → Nat) (ad : Nat → Nat) (cy : Nat → ClassId) (x1 : Int32) (x2 : Int32) : ConV l yX0_setFees cX0_setFees 4 none rm_X0_setFees dC dI ad cy [.ref (ad 41), .int x1, .int x2] (fun σ => fX0_setFees σ x1 x2) := con_v (own := RX0) (by decide) rfl (Nat.le_of_ble_eq_true rfl) (fun _ _ _ _ _ _ _ _ σ _ _ C hf => fX0_setFees_ok C σ x1 x2 hf)
theorem cal_X0_setFees : CalV yX0_setFees RX0 cX0_setFees 4 none 2 := ⟨hI_X0_setFees, hS_X0_setFees, hIni_X0, hC_X0_setFees, by decide +kernel⟩
abbrev rm_X0_changeInRound : Room := { frames := 5, cells := 0, slots := 0, locals := 117 }
def fX0_changeInRound_b34 (sf_4 : S0 → Int32 → Int32 → Option (Int32 × S0)) (σ : S0) (x1 : Int32) (x2 : Int32) : Option (Int32 × S0) := ol (x2 + 1) (fun v1 => sf_4 σ x1 v1)
set_option maxHeartbeats 1000000 in
set_option maxRecDepth 100000 in
theorem fX0_changeInRound_b34_ok {p : Program} {l : Launch} {e : Env} {s : State} {m : MethodId} {args : Array Value} {below : List Frame} {meth : Method} {c : Code} {dC : Nat → ClassId} {dI : Nat → Nat → Nat} {ad : Nat → Nat} {cy : Nat → ClassId} {sz : Nat} (C : Cx p s m args meth c RX0 cX0_changeInRound 3 (some .boolean) dC dI ad cy sz) {rr : Int32} {ρ : S0} (sf_4 : S0 → Int32 → Int32 → Option (Int32 × S0)) (hs_4 : ∀ (σ : S0) (x1 : Int32) (x2 : Int32) , sf_4 σ x1 x2 = some (rr, ρ) → Gw p l e rm_X0_changeInRound s m args below meth c (MQ below (QcI dC dI ad cy sz rr ρ) args s 0 0 (AW ad sz)) dC dI ad cy 3 sz 0 0 4 [(0, .ref (ad 41)), (1, .int x1), (2, .int x2)] [] σ) (σ : S0) (x1 : Int32) (x2 : Int32)  (hf : fX0_changeInRound_b34 sf_4 σ x1 x2 = some (rr, ρ)) : Gw p l e rm_X0_changeInRound s m args below meth c (MQ below (QcI dC dI ad cy sz rr ρ) args s 0 0 (AW ad sz)) dC dI ad cy 3 sz 0 0 34 [(0, .ref (ad 41)), (1, .int x1), (2, .int x2)] [] σ := by
  unfold fX0_changeInRound_b34 at hf
  obtain ⟨v1, ev1, hf⟩ := ol_e hf
  refine g_iinc (j := 2) (w := 1) (lv2 := [(0, .ref (ad 41)), (1, .int x1), (2, .int v1)]) C dX0_changeInRound_34 rfl (by decide) ev1 (by decide) [1, 2, 0] rfl ?_
  refine g_goto (tgt := 4) C dX0_changeInRound_37 (by decide) ?_
  exact g_sub [0, 1, 2] rfl (hs_4 σ x1 v1 hf)
def fX0_changeInRound_b4 (sf_4 : S0 → Int32 → Int32 → Option (Int32 × S0)) (σ : S0) (x1 : Int32) (x2 : Int32) : Option (Int32 × S0) := if (σ 22 0) ≤ x2 then (og (x1 = 0 ∨ x1 = 1) (some (x1, σ))) else (obp (fX0_wantsOther σ x2) (fun r3 σ4 => if r3 = 0 then (fX0_changeInRound_b34 sf_4 σ4 x1 x2) else (obp (fX0_setFees σ4 x2 (σ4 41 7)) (fun r7 σ8 => fX0_changeInRound_b34 sf_4 σ8 1 x2))))
set_option maxHeartbeats 1000000 in
set_option maxRecDepth 100000 in
theorem fX0_changeInRound_b4_ok {p : Program} {l : Launch} {e : Env} {s : State} {m : MethodId} {args : Array Value} {below : List Frame} {meth : Method} {c : Code} {dC : Nat → ClassId} {dI : Nat → Nat → Nat} {ad : Nat → Nat} {cy : Nat → ClassId} {sz : Nat} (C : Cx p s m args meth c RX0 cX0_changeInRound 3 (some .boolean) dC dI ad cy sz) {rr : Int32} {ρ : S0} (sf_4 : S0 → Int32 → Int32 → Option (Int32 × S0)) (hs_4 : ∀ (σ : S0) (x1 : Int32) (x2 : Int32) , sf_4 σ x1 x2 = some (rr, ρ) → Gw p l e rm_X0_changeInRound s m args below meth c (MQ below (QcI dC dI ad cy sz rr ρ) args s 0 0 (AW ad sz)) dC dI ad cy 3 sz 0 0 4 [(0, .ref (ad 41)), (1, .int x1), (2, .int x2)] [] σ) (σ : S0) (x1 : Int32) (x2 : Int32)  (hf : fX0_changeInRound_b4 sf_4 σ x1 x2 = some (rr, ρ)) : Gw p l e rm_X0_changeInRound s m args below meth c (MQ below (QcI dC dI ad cy sz rr ρ) args s 0 0 (AW ad sz)) dC dI ad cy 3 sz 0 0 4 [(0, .ref (ad 41)), (1, .int x1), (2, .int x2)] [] σ := by
  unfold fX0_changeInRound_b4 at hf
  refine g_iload_n C dX0_changeInRound_4 rfl 2 rfl ?_
  refine g_aload_n C dX0_changeInRound_5 rfl 0 rfl ?_
  refine g_get C (a_41 ad cy _) rfl hin_X0 0 (by decide) hF_X0_24 rfl rfl dX0_changeInRound_6 ?_
  refine g_get C (a_22 ad cy _) rfl hin_X9 0 (by decide) hF_X0_98 rfl rfl dX0_changeInRound_9 ?_
  rcases oi_e hf with ⟨c1, hf⟩ | ⟨c1, hf⟩
  · refine g_icmp_ge_t (tgt := 40) C dX0_changeInRound_12 (by decide) c1 ?_
    refine g_iload_n C dX0_changeInRound_40 rfl 1 rfl ?_
    obtain ⟨h2, hf⟩ := og_e hf
    obtain ⟨rfl, rfl⟩ := os_e hf
    exact g_zret C rfl (zb_ok h2) dX0_changeInRound_41
  · refine g_icmp_ge_f (tgt := 40) C dX0_changeInRound_12 (by decide) c1 ?_
    refine g_aload_n C dX0_changeInRound_15 rfl 0 rfl ?_
    refine g_iload_n C dX0_changeInRound_16 rfl 2 rfl ?_
    obtain ⟨r3, σ4, h5, hf⟩ := obp_e hf
    refine g_callVi (As := [.int x2]) (rest := []) C (a_41 ad cy _) rfl (c_X0_wantsOther l dC dI ad cy x2) h5 hM_X0_101 cal_X0_wantsOther ⟨Nat.zero_le _, Nat.zero_le _⟩ ⟨rfl, rfl⟩ ⟨Nat.le_of_ble_eq_true rfl, Nat.le_of_ble_eq_true rfl⟩ rfl rfl (Nat.le_of_ble_eq_true rfl) dX0_changeInRound_17 ?_
    rcases oi_e hf with ⟨c6, hf⟩ | ⟨c6, hf⟩
    · refine g_if_eq_t (tgt := 34) C dX0_changeInRound_20 (by decide) c6 ?_
      exact g_sub [0, 1, 2] rfl (fX0_changeInRound_b34_ok C sf_4 hs_4 σ4 x1 x2 hf)
    · refine g_if_eq_f (tgt := 34) C dX0_changeInRound_20 (by decide) c6 ?_
      refine g_aload_n C dX0_changeInRound_23 rfl 0 rfl ?_
      refine g_iload_n C dX0_changeInRound_24 rfl 2 rfl ?_
      refine g_aload_n C dX0_changeInRound_25 rfl 0 rfl ?_
      refine g_get C (a_41 ad cy _) rfl hin_X0 7 (by decide) hF_X0_82 rfl rfl dX0_changeInRound_26 ?_
      obtain ⟨r7, σ8, h9, hf⟩ := obp_e hf
      refine g_callVv (As := [.int x2, .int (σ4 41 7)]) (rest := []) C (a_41 ad cy _) rfl (c_X0_setFees l dC dI ad cy x2 (σ4 41 7)) h9 hM_X0_104 cal_X0_setFees ⟨Nat.zero_le _, Nat.zero_le _⟩ ⟨rfl, rfl⟩ ⟨Nat.le_of_ble_eq_true rfl, Nat.le_of_ble_eq_true rfl⟩ rfl rfl (Nat.le_of_ble_eq_true rfl) dX0_changeInRound_29 ?_
      refine g_iconst (v := 1) C dX0_changeInRound_32 (by decide) ?_
      refine g_istore_n (lv2 := [(0, .ref (ad 41)), (1, .int 1), (2, .int x2)]) C dX0_changeInRound_33 rfl (by decide) [1, 0, 2] rfl ?_
      exact g_sub [0, 1, 2] rfl (fX0_changeInRound_b34_ok C sf_4 hs_4 σ8 1 x2 hf)
def fX0_changeInRound_h4  : Nat → S0 → Int32 → Int32 → Option (Int32 × S0)
  | 0 => fun _ _ _ => none
  | n + 1 => fun σ x1 x2 => fX0_changeInRound_b4  (fX0_changeInRound_h4  n) σ x1 x2
set_option maxHeartbeats 1000000 in
set_option maxRecDepth 100000 in
theorem fX0_changeInRound_h4_ok {p : Program} {l : Launch} {e : Env} {s : State} {m : MethodId} {args : Array Value} {below : List Frame} {meth : Method} {c : Code} {dC : Nat → ClassId} {dI : Nat → Nat → Nat} {ad : Nat → Nat} {cy : Nat → ClassId} {sz : Nat} (C : Cx p s m args meth c RX0 cX0_changeInRound 3 (some .boolean) dC dI ad cy sz) {rr : Int32} {ρ : S0}  : ∀ (n : Nat) (σ : S0) (x1 : Int32) (x2 : Int32)  (_hf : fX0_changeInRound_h4  n σ x1 x2 = some (rr, ρ)), Gw p l e rm_X0_changeInRound s m args below meth c (MQ below (QcI dC dI ad cy sz rr ρ) args s 0 0 (AW ad sz)) dC dI ad cy 3 sz 0 0 4 [(0, .ref (ad 41)), (1, .int x1), (2, .int x2)] [] σ
  | 0, _, _, _, hf => by cases hf
  | n + 1, σ, x1, x2, hf => fX0_changeInRound_b4_ok C  (fX0_changeInRound_h4  n) (fX0_changeInRound_h4_ok C  n) σ x1 x2 hf
def fX0_changeInRound (σ : S0)  : Option (Int32 × S0) := fX0_changeInRound_h4 400 σ 0 0
set_option maxHeartbeats 1000000 in
set_option maxRecDepth 100000 in
theorem fX0_changeInRound_ok {p : Program} {l : Launch} {e : Env} {s : State} {m : MethodId} {args : Array Value} {below : List Frame} {meth : Method} {c : Code} {dC : Nat → ClassId} {dI : Nat → Nat → Nat} {ad : Nat → Nat} {cy : Nat → ClassId} {sz : Nat} (C : Cx p s m args meth c RX0 cX0_changeInRound 3 (some .boolean) dC dI ad cy sz) {rr : Int32} {ρ : S0} (σ : S0)   (hf : fX0_changeInRound σ = some (rr, ρ)) : Gw p l e rm_X0_changeInRound s m args below meth c (MQ below (QcI dC dI ad cy sz rr ρ) args s 0 0 (AW ad sz)) dC dI ad cy 3 sz 0 0 0 [(0, .ref (ad 41))] [] σ := by
  unfold fX0_changeInRound at hf
  refine g_iconst (v := 0) C dX0_changeInRound_0 (by decide) ?_
  refine g_istore_n (lv2 := [(0, .ref (ad 41)), (1, .int 0)]) C dX0_changeInRound_1 rfl (by decide) [1, 0] rfl ?_
  refine g_iconst (v := 0) C dX0_changeInRound_2 (by decide) ?_
  refine g_istore_n (lv2 := [(0, .ref (ad 41)), (1, .int 0), (2, .int 0)]) C dX0_changeInRound_3 rfl (by decide) [1, 2, 0] rfl ?_
  exact g_sub [0, 1, 2] rfl (fX0_changeInRound_h4_ok C 400 σ 0 0 hf)
theorem c_X0_changeInRound (l : Launch) (dC : Nat → ClassId) (dI : Nat → Nat → Nat) (ad : Nat → Nat) (cy : Nat → ClassId)  : ConI l yX0_changeInRound cX0_changeInRound 3 (some .boolean) rm_X0_changeInRound dC dI ad cy [.ref (ad 41)] (fun σ => fX0_changeInRound σ) := con_i (own := RX0) (by decide) rfl (Nat.le_of_ble_eq_true rfl) (fun _ _ _ _ _ _ _ _ σ _ _ C hf => fX0_changeInRound_ok C σ  hf)
theorem cal_X0_changeInRound : CalV yX0_changeInRound RX0 cX0_changeInRound 3 (some .boolean) 0 := ⟨hI_X0_changeInRound, hS_X0_changeInRound, hIni_X0, hC_X0_changeInRound, by decide +kernel⟩
abbrev rm_X2_ringAll : Room := { frames := 1, cells := 0, slots := 0, locals := 26 }
def fX2_ringAll_b103 (sf_2 : S0 → Int32 → Option (Int32 × S0)) (sf_46 : S0 → Int32 → Int32 → Option (Int32 × S0)) (σ : S0) (x1 : Int32) (x2 : Int32) : Option (Int32 × S0) := ol (x2 + 1) (fun v1 => sf_46 σ x1 v1)
set_option maxHeartbeats 1000000 in
set_option maxRecDepth 100000 in
theorem fX2_ringAll_b103_ok {p : Program} {l : Launch} {e : Env} {s : State} {m : MethodId} {args : Array Value} {below : List Frame} {meth : Method} {c : Code} {dC : Nat → ClassId} {dI : Nat → Nat → Nat} {ad : Nat → Nat} {cy : Nat → ClassId} {sz : Nat} (C : Cx p s m args meth c RX2 cX2_ringAll 3 none dC dI ad cy sz) {rr : Int32} {ρ : S0} (sf_2 : S0 → Int32 → Option (Int32 × S0)) (hs_2 : ∀ (σ : S0) (x1 : Int32) , sf_2 σ x1 = some (rr, ρ) → Gw p l e rm_X2_ringAll s m args below meth c (MQ below (QcV dC dI ad cy sz ρ) args s 0 0 (AW ad sz)) dC dI ad cy 3 sz 0 0 2 [(0, .ref (ad 46)), (1, .int x1)] [] σ) (sf_46 : S0 → Int32 → Int32 → Option (Int32 × S0)) (hs_46 : ∀ (σ : S0) (x1 : Int32) (x2 : Int32) , sf_46 σ x1 x2 = some (rr, ρ) → Gw p l e rm_X2_ringAll s m args below meth c (MQ below (QcV dC dI ad cy sz ρ) args s 0 0 (AW ad sz)) dC dI ad cy 3 sz 0 0 46 [(0, .ref (ad 46)), (1, .int x1), (2, .int x2)] [] σ) (σ : S0) (x1 : Int32) (x2 : Int32)  (hf : fX2_ringAll_b103 sf_2 sf_46 σ x1 x2 = some (rr, ρ)) : Gw p l e rm_X2_ringAll s m args below meth c (MQ below (QcV dC dI ad cy sz ρ) args s 0 0 (AW ad sz)) dC dI ad cy 3 sz 0 0 103 [(0, .ref (ad 46)), (1, .int x1), (2, .int x2)] [] σ := by
  unfold fX2_ringAll_b103 at hf
  obtain ⟨v1, ev1, hf⟩ := ol_e hf
  refine g_iinc (j := 2) (w := 1) (lv2 := [(0, .ref (ad 46)), (1, .int x1), (2, .int v1)]) C dX2_ringAll_103 rfl (by decide) ev1 (by decide) [1, 2, 0] rfl ?_
  refine g_goto (tgt := 46) C dX2_ringAll_106 (by decide) ?_
  exact g_sub [0, 1, 2] rfl (hs_46 σ x1 v1 hf)
def fX2_ringAll_b46 (sf_2 : S0 → Int32 → Option (Int32 × S0)) (sf_46 : S0 → Int32 → Int32 → Option (Int32 × S0)) (σ : S0) (x1 : Int32) (x2 : Int32) : Option (Int32 × S0) := og (¬ (x1 < 0 ∨ 6 ≤ x1.toNatClampNeg)) (ol (σ 24 x1.toNatClampNeg) (fun v2 => if v2 ≤ x2 then (ol (x1 + 1) (fun v4 => sf_2 σ v4)) else (obp (fX6_rang σ x2) (fun r5 σ6 => if r5 = 0 then (fX2_ringAll_b103 sf_2 sf_46 σ6 x1 x2) else (og (¬ (x1 < 0 ∨ 6 ≤ x1.toNatClampNeg)) (ol (49 + 1 * x1.toNatClampNeg) (fun q10 => og (¬ (x1 < 0 ∨ 6 ≤ x1.toNatClampNeg)) (ol (26 + 1 * x1.toNatClampNeg) (fun q12 => og (¬ (x2 < 0 ∨ 12 ≤ x2.toNatClampNeg)) (ol (σ6 q12 x2.toNatClampNeg) (fun v14 => og (¬ (v14 < 0 ∨ 12 ≤ v14.toNatClampNeg)) (ol (σ6 33 v14.toNatClampNeg) (fun v16 => og (¬ (v16 < 0 ∨ 6 ≤ v16.toNatClampNeg)) (ol (σ6 q10 v16.toNatClampNeg) (fun v18 => ol (v18 + 1) (fun v19 => og (¬ (v16 < 0 ∨ 6 ≤ v16.toNatClampNeg)) (ol (su σ6 q10 v16.toNatClampNeg v19) (fun σ21 => fX2_ringAll_b103 sf_2 sf_46 σ21 x1 x2))))))))))))))))))
set_option maxHeartbeats 1000000 in
set_option maxRecDepth 100000 in
theorem fX2_ringAll_b46_ok {p : Program} {l : Launch} {e : Env} {s : State} {m : MethodId} {args : Array Value} {below : List Frame} {meth : Method} {c : Code} {dC : Nat → ClassId} {dI : Nat → Nat → Nat} {ad : Nat → Nat} {cy : Nat → ClassId} {sz : Nat} (C : Cx p s m args meth c RX2 cX2_ringAll 3 none dC dI ad cy sz) {rr : Int32} {ρ : S0} (sf_2 : S0 → Int32 → Option (Int32 × S0)) (hs_2 : ∀ (σ : S0) (x1 : Int32) , sf_2 σ x1 = some (rr, ρ) → Gw p l e rm_X2_ringAll s m args below meth c (MQ below (QcV dC dI ad cy sz ρ) args s 0 0 (AW ad sz)) dC dI ad cy 3 sz 0 0 2 [(0, .ref (ad 46)), (1, .int x1)] [] σ) (sf_46 : S0 → Int32 → Int32 → Option (Int32 × S0)) (hs_46 : ∀ (σ : S0) (x1 : Int32) (x2 : Int32) , sf_46 σ x1 x2 = some (rr, ρ) → Gw p l e rm_X2_ringAll s m args below meth c (MQ below (QcV dC dI ad cy sz ρ) args s 0 0 (AW ad sz)) dC dI ad cy 3 sz 0 0 46 [(0, .ref (ad 46)), (1, .int x1), (2, .int x2)] [] σ) (σ : S0) (x1 : Int32) (x2 : Int32)  (hf : fX2_ringAll_b46 sf_2 sf_46 σ x1 x2 = some (rr, ρ)) : Gw p l e rm_X2_ringAll s m args below meth c (MQ below (QcV dC dI ad cy sz ρ) args s 0 0 (AW ad sz)) dC dI ad cy 3 sz 0 0 46 [(0, .ref (ad 46)), (1, .int x1), (2, .int x2)] [] σ := by
  unfold fX2_ringAll_b46 at hf
  refine g_iload_n C dX2_ringAll_46 rfl 2 rfl ?_
  refine g_aload_n C dX2_ringAll_47 rfl 0 rfl ?_
  refine g_get C (a_46 ad cy _) rfl hin_X2 0 (by decide) hF_X2_20 rfl rfl dX2_ringAll_48 ?_
  refine g_get C (a_22 ad cy _) rfl hin_X9 4 (by decide) hF_X2_49 rfl rfl dX2_ringAll_51 ?_
  refine g_iload_n C dX2_ringAll_54 rfl 1 rfl ?_
  obtain ⟨h1, hf⟩ := og_e hf
  refine g_iald C (a_24 ad cy _) h1 dX2_ringAll_55 ?_
  obtain ⟨v2, ev2, hf⟩ := ol_e hf
  refine g_nm ev2 ?_
  rcases oi_e hf with ⟨c3, hf⟩ | ⟨c3, hf⟩
  · refine g_icmp_ge_t (tgt := 109) C dX2_ringAll_56 (by decide) c3 ?_
    obtain ⟨v4, ev4, hf⟩ := ol_e hf
    refine g_iinc (j := 1) (w := 1) (lv2 := [(0, .ref (ad 46)), (1, .int v4), (2, .int x2)]) C dX2_ringAll_109 rfl (by decide) ev4 (by decide) [1, 0, 2] rfl ?_
    refine g_goto (tgt := 2) C dX2_ringAll_112 (by decide) ?_
    exact g_sub [0, 1] rfl (hs_2 σ v4 hf)
  · refine g_icmp_ge_f (tgt := 109) C dX2_ringAll_56 (by decide) c3 ?_
    refine g_aload_n C dX2_ringAll_59 rfl 0 rfl ?_
    refine g_get C (a_46 ad cy _) rfl hin_X2 1 (by decide) hF_X2_24 rfl rfl dX2_ringAll_60 ?_
    refine g_iload_n C dX2_ringAll_63 rfl 2 rfl ?_
    obtain ⟨r5, σ6, h7, hf⟩ := obp_e hf
    refine g_callVi (As := [.int x2]) (rest := []) C (a_40 ad cy _) rfl (c_X6_rang l dC dI ad cy x2) h7 hM_X2_52 cal_X6_rang ⟨Nat.zero_le _, Nat.zero_le _⟩ ⟨rfl, rfl⟩ ⟨Nat.le_of_ble_eq_true rfl, Nat.le_of_ble_eq_true rfl⟩ rfl rfl (Nat.le_of_ble_eq_true rfl) dX2_ringAll_64 ?_
    rcases oi_e hf with ⟨c8, hf⟩ | ⟨c8, hf⟩
    · refine g_if_eq_t (tgt := 103) C dX2_ringAll_67 (by decide) c8 ?_
      exact g_sub [0, 1, 2] rfl (fX2_ringAll_b103_ok C sf_2 hs_2 sf_46 hs_46 σ6 x1 x2 hf)
    · refine g_if_eq_f (tgt := 103) C dX2_ringAll_67 (by decide) c8 ?_
      refine g_aload_n C dX2_ringAll_70 rfl 0 rfl ?_
      refine g_get C (a_46 ad cy _) rfl hin_X2 3 (by decide) hF_X2_17 rfl rfl dX2_ringAll_71 ?_
      refine g_iload_n C dX2_ringAll_74 rfl 1 rfl ?_
      obtain ⟨h9, hf⟩ := og_e hf
      obtain ⟨q10, eq10, hf⟩ := ol_e hf
      refine g_aald C (a_48 ad cy _) rfl rfl h9 dX2_ringAll_75 ?_
      refine g_nmr eq10 ?_
      have hq10 := (o_48 h9 eq10)
      refine g_aload_n C dX2_ringAll_76 rfl 0 rfl ?_
      refine g_get C (a_46 ad cy _) rfl hin_X2 0 (by decide) hF_X2_20 rfl rfl dX2_ringAll_77 ?_
      refine g_get C (a_22 ad cy _) rfl hin_X9 6 (by decide) hF_X2_56 rfl rfl dX2_ringAll_80 ?_
      refine g_get C (a_32 ad cy _) rfl hin_X1 1 (by decide) hF_X2_60 rfl rfl dX2_ringAll_83 ?_
      refine g_aload_n C dX2_ringAll_86 rfl 0 rfl ?_
      refine g_get C (a_46 ad cy _) rfl hin_X2 0 (by decide) hF_X2_20 rfl rfl dX2_ringAll_87 ?_
      refine g_get C (a_22 ad cy _) rfl hin_X9 5 (by decide) hF_X2_65 rfl rfl dX2_ringAll_90 ?_
      refine g_iload_n C dX2_ringAll_93 rfl 1 rfl ?_
      obtain ⟨h11, hf⟩ := og_e hf
      obtain ⟨q12, eq12, hf⟩ := ol_e hf
      refine g_aald C (a_25 ad cy _) rfl rfl h11 dX2_ringAll_94 ?_
      refine g_nmr eq12 ?_
      have hq12 := (o_25 h11 eq12)
      refine g_iload_n C dX2_ringAll_95 rfl 2 rfl ?_
      obtain ⟨h13, hf⟩ := og_e hf
      refine g_iald C (s_row hq12 ad cy _) h13 dX2_ringAll_96 ?_
      obtain ⟨v14, ev14, hf⟩ := ol_e hf
      refine g_nm ev14 ?_
      obtain ⟨h15, hf⟩ := og_e hf
      refine g_iald C (a_33 ad cy _) h15 dX2_ringAll_97 ?_
      obtain ⟨v16, ev16, hf⟩ := ol_e hf
      refine g_nm ev16 ?_
      refine g_dup2 C dX2_ringAll_98 rfl rfl ?_
      obtain ⟨h17, hf⟩ := og_e hf
      refine g_iald C (s_row hq10 ad cy _) h17 dX2_ringAll_99 ?_
      obtain ⟨v18, ev18, hf⟩ := ol_e hf
      refine g_nm ev18 ?_
      refine g_iconst (v := 1) C dX2_ringAll_100 (by decide) ?_
      refine g_iadd C dX2_ringAll_101 ?_
      obtain ⟨v19, ev19, hf⟩ := ol_e hf
      refine g_nm ev19 ?_
      obtain ⟨h20, hf⟩ := og_e hf
      obtain ⟨σ21, eσ21, hf⟩ := ol_e hf
      refine g_iast C (s_row hq10 ad cy _) h20 (ws_row hq10 ad cy _) eσ21 dX2_ringAll_102 ?_
      exact g_sub [0, 1, 2] rfl (fX2_ringAll_b103_ok C sf_2 hs_2 sf_46 hs_46 σ21 x1 x2 hf)
def fX2_ringAll_h46 (sf_2 : S0 → Int32 → Option (Int32 × S0)) : Nat → S0 → Int32 → Int32 → Option (Int32 × S0)
  | 0 => fun _ _ _ => none
  | n + 1 => fun σ x1 x2 => fX2_ringAll_b46 sf_2 (fX2_ringAll_h46 sf_2 n) σ x1 x2
set_option maxHeartbeats 1000000 in
set_option maxRecDepth 100000 in
theorem fX2_ringAll_h46_ok {p : Program} {l : Launch} {e : Env} {s : State} {m : MethodId} {args : Array Value} {below : List Frame} {meth : Method} {c : Code} {dC : Nat → ClassId} {dI : Nat → Nat → Nat} {ad : Nat → Nat} {cy : Nat → ClassId} {sz : Nat} (C : Cx p s m args meth c RX2 cX2_ringAll 3 none dC dI ad cy sz) {rr : Int32} {ρ : S0} (sf_2 : S0 → Int32 → Option (Int32 × S0)) (hs_2 : ∀ (σ : S0) (x1 : Int32) , sf_2 σ x1 = some (rr, ρ) → Gw p l e rm_X2_ringAll s m args below meth c (MQ below (QcV dC dI ad cy sz ρ) args s 0 0 (AW ad sz)) dC dI ad cy 3 sz 0 0 2 [(0, .ref (ad 46)), (1, .int x1)] [] σ) : ∀ (n : Nat) (σ : S0) (x1 : Int32) (x2 : Int32)  (_hf : fX2_ringAll_h46 sf_2 n σ x1 x2 = some (rr, ρ)), Gw p l e rm_X2_ringAll s m args below meth c (MQ below (QcV dC dI ad cy sz ρ) args s 0 0 (AW ad sz)) dC dI ad cy 3 sz 0 0 46 [(0, .ref (ad 46)), (1, .int x1), (2, .int x2)] [] σ
  | 0, _, _, _, hf => by cases hf
  | n + 1, σ, x1, x2, hf => fX2_ringAll_b46_ok C sf_2 hs_2 (fX2_ringAll_h46 sf_2 n) (fX2_ringAll_h46_ok C sf_2 hs_2 n) σ x1 x2 hf
def fX2_ringAll_b2 (sf_2 : S0 → Int32 → Option (Int32 × S0)) (σ : S0) (x1 : Int32) : Option (Int32 × S0) := if (σ 22 2) ≤ x1 then (some (0, σ)) else (obp (fX6_play σ x1) (fun r2 σ3 => ol (σ3 40 2) (fun v5 => og (¬ (x1 < 0 ∨ 6 ≤ x1.toNatClampNeg)) (ol (su σ3 47 x1.toNatClampNeg v5) (fun σ7 => og (¬ (x1 < 0 ∨ 6 ≤ x1.toNatClampNeg)) (ol (49 + 1 * x1.toNatClampNeg) (fun q9 => obp (fJ7_fill_53178 σ7 6 q9 ((0 : Int32))) (fun r10 σ11 => fX2_ringAll_h46 sf_2 400 σ11 x1 0))))))))
set_option maxHeartbeats 1000000 in
set_option maxRecDepth 100000 in
theorem fX2_ringAll_b2_ok {p : Program} {l : Launch} {e : Env} {s : State} {m : MethodId} {args : Array Value} {below : List Frame} {meth : Method} {c : Code} {dC : Nat → ClassId} {dI : Nat → Nat → Nat} {ad : Nat → Nat} {cy : Nat → ClassId} {sz : Nat} (C : Cx p s m args meth c RX2 cX2_ringAll 3 none dC dI ad cy sz) {rr : Int32} {ρ : S0} (sf_2 : S0 → Int32 → Option (Int32 × S0)) (hs_2 : ∀ (σ : S0) (x1 : Int32) , sf_2 σ x1 = some (rr, ρ) → Gw p l e rm_X2_ringAll s m args below meth c (MQ below (QcV dC dI ad cy sz ρ) args s 0 0 (AW ad sz)) dC dI ad cy 3 sz 0 0 2 [(0, .ref (ad 46)), (1, .int x1)] [] σ) (σ : S0) (x1 : Int32)  (hf : fX2_ringAll_b2 sf_2 σ x1 = some (rr, ρ)) : Gw p l e rm_X2_ringAll s m args below meth c (MQ below (QcV dC dI ad cy sz ρ) args s 0 0 (AW ad sz)) dC dI ad cy 3 sz 0 0 2 [(0, .ref (ad 46)), (1, .int x1)] [] σ := by
  unfold fX2_ringAll_b2 at hf
  refine g_iload_n C dX2_ringAll_2 rfl 1 rfl ?_
  refine g_aload_n C dX2_ringAll_3 rfl 0 rfl ?_
  refine g_get C (a_46 ad cy _) rfl hin_X2 0 (by decide) hF_X2_20 rfl rfl dX2_ringAll_4 ?_
  refine g_get C (a_22 ad cy _) rfl hin_X9 2 (by decide) hF_X2_28 rfl rfl dX2_ringAll_7 ?_
  rcases oi_e hf with ⟨c1, hf⟩ | ⟨c1, hf⟩
  · refine g_icmp_ge_t (tgt := 115) C dX2_ringAll_10 (by decide) c1 ?_
    obtain ⟨rfl, rfl⟩ := os_e hf
    exact g_vret C rfl dX2_ringAll_115
  · refine g_icmp_ge_f (tgt := 115) C dX2_ringAll_10 (by decide) c1 ?_
    refine g_aload_n C dX2_ringAll_13 rfl 0 rfl ?_
    refine g_get C (a_46 ad cy _) rfl hin_X2 1 (by decide) hF_X2_24 rfl rfl dX2_ringAll_14 ?_
    refine g_iload_n C dX2_ringAll_17 rfl 1 rfl ?_
    obtain ⟨r2, σ3, h4, hf⟩ := obp_e hf
    refine g_callVv (As := [.int x1]) (rest := []) C (a_40 ad cy _) rfl (c_X6_play l dC dI ad cy x1) h4 hM_X2_34 cal_X6_play ⟨Nat.zero_le _, Nat.zero_le _⟩ ⟨rfl, rfl⟩ ⟨Nat.le_of_ble_eq_true rfl, Nat.le_of_ble_eq_true rfl⟩ rfl rfl (Nat.le_of_ble_eq_true rfl) dX2_ringAll_18 ?_
    refine g_aload_n C dX2_ringAll_21 rfl 0 rfl ?_
    refine g_get C (a_46 ad cy _) rfl hin_X2 2 (by decide) hF_X2_9 rfl rfl dX2_ringAll_22 ?_
    refine g_iload_n C dX2_ringAll_25 rfl 1 rfl ?_
    refine g_aload_n C dX2_ringAll_26 rfl 0 rfl ?_
    refine g_get C (a_46 ad cy _) rfl hin_X2 1 (by decide) hF_X2_24 rfl rfl dX2_ringAll_27 ?_
    refine g_get C (a_40 ad cy _) rfl hin_X6 2 (by decide) hF_X2_40 rfl rfl dX2_ringAll_30 ?_
    obtain ⟨v5, ev5, hf⟩ := ol_e hf
    refine g_nm ev5 ?_
    obtain ⟨h6, hf⟩ := og_e hf
    obtain ⟨σ7, eσ7, hf⟩ := ol_e hf
    refine g_iast C (a_47 ad cy _) h6 (w_47 ad cy _) eσ7 dX2_ringAll_33 ?_
    refine g_aload_n C dX2_ringAll_34 rfl 0 rfl ?_
    refine g_get C (a_46 ad cy _) rfl hin_X2 3 (by decide) hF_X2_17 rfl rfl dX2_ringAll_35 ?_
    refine g_iload_n C dX2_ringAll_38 rfl 1 rfl ?_
    obtain ⟨h8, hf⟩ := og_e hf
    obtain ⟨q9, eq9, hf⟩ := ol_e hf
    refine g_aald C (a_48 ad cy _) rfl rfl h8 dX2_ringAll_39 ?_
    refine g_nmr eq9 ?_
    have hq9 := (o_48 h8 eq9)
    refine g_iconst (v := 0) C dX2_ringAll_40 (by decide) ?_
    obtain ⟨r10, σ11, h12, hf⟩ := obp_e hf
    refine g_callSv (As := [.ref (ad q9), .int 0]) (rest := []) C (c_J7_fill_53178 l dC dI ad cy 6 q9 hq9 ((0 : Int32))) h12 hM_X2_43 cal_J7_fill_53178 ⟨Nat.zero_le _, Nat.zero_le _⟩ ⟨rfl, rfl⟩ ⟨Nat.le_of_ble_eq_true rfl, Nat.le_of_ble_eq_true rfl⟩ rfl rfl (Nat.le_of_ble_eq_true rfl) dX2_ringAll_41 ?_
    refine g_iconst (v := 0) C dX2_ringAll_44 (by decide) ?_
    refine g_istore_n (lv2 := [(0, .ref (ad 46)), (1, .int x1), (2, .int 0)]) C dX2_ringAll_45 rfl (by decide) [1, 2, 0] rfl ?_
    exact g_sub [0, 1, 2] rfl (fX2_ringAll_h46_ok C sf_2 hs_2 400 σ11 x1 0 hf)
def fX2_ringAll_h2  : Nat → S0 → Int32 → Option (Int32 × S0)
  | 0 => fun _ _ => none
  | n + 1 => fun σ x1 => fX2_ringAll_b2  (fX2_ringAll_h2  n) σ x1
set_option maxHeartbeats 1000000 in
set_option maxRecDepth 100000 in
theorem fX2_ringAll_h2_ok {p : Program} {l : Launch} {e : Env} {s : State} {m : MethodId} {args : Array Value} {below : List Frame} {meth : Method} {c : Code} {dC : Nat → ClassId} {dI : Nat → Nat → Nat} {ad : Nat → Nat} {cy : Nat → ClassId} {sz : Nat} (C : Cx p s m args meth c RX2 cX2_ringAll 3 none dC dI ad cy sz) {rr : Int32} {ρ : S0}  : ∀ (n : Nat) (σ : S0) (x1 : Int32)  (_hf : fX2_ringAll_h2  n σ x1 = some (rr, ρ)), Gw p l e rm_X2_ringAll s m args below meth c (MQ below (QcV dC dI ad cy sz ρ) args s 0 0 (AW ad sz)) dC dI ad cy 3 sz 0 0 2 [(0, .ref (ad 46)), (1, .int x1)] [] σ
  | 0, _, _, hf => by cases hf
  | n + 1, σ, x1, hf => fX2_ringAll_b2_ok C  (fX2_ringAll_h2  n) (fX2_ringAll_h2_ok C  n) σ x1 hf
def fX2_ringAll (σ : S0)  : Option (Int32 × S0) := fX2_ringAll_h2 400 σ 0
set_option maxHeartbeats 1000000 in
set_option maxRecDepth 100000 in
theorem fX2_ringAll_ok {p : Program} {l : Launch} {e : Env} {s : State} {m : MethodId} {args : Array Value} {below : List Frame} {meth : Method} {c : Code} {dC : Nat → ClassId} {dI : Nat → Nat → Nat} {ad : Nat → Nat} {cy : Nat → ClassId} {sz : Nat} (C : Cx p s m args meth c RX2 cX2_ringAll 3 none dC dI ad cy sz) {rr : Int32} {ρ : S0} (σ : S0)   (hf : fX2_ringAll σ = some (rr, ρ)) : Gw p l e rm_X2_ringAll s m args below meth c (MQ below (QcV dC dI ad cy sz ρ) args s 0 0 (AW ad sz)) dC dI ad cy 3 sz 0 0 0 [(0, .ref (ad 46))] [] σ := by
  unfold fX2_ringAll at hf
  refine g_iconst (v := 0) C dX2_ringAll_0 (by decide) ?_
  refine g_istore_n (lv2 := [(0, .ref (ad 46)), (1, .int 0)]) C dX2_ringAll_1 rfl (by decide) [1, 0] rfl ?_
  exact g_sub [0, 1] rfl (fX2_ringAll_h2_ok C 400 σ 0 hf)
theorem c_X2_ringAll (l : Launch) (dC : Nat → ClassId) (dI : Nat → Nat → Nat) (ad : Nat → Nat) (cy : Nat → ClassId)  : ConV l yX2_ringAll cX2_ringAll 3 none rm_X2_ringAll dC dI ad cy [.ref (ad 46)] (fun σ => fX2_ringAll σ) := con_v (own := RX2) (by decide) rfl (Nat.le_of_ble_eq_true rfl) (fun _ _ _ _ _ _ _ _ σ _ _ C hf => fX2_ringAll_ok C σ  hf)
theorem cal_X2_ringAll : CalV yX2_ringAll RX2 cX2_ringAll 3 none 0 := ⟨hI_X2_ringAll, hS_X2_ringAll, hIni_X2, hC_X2_ringAll, by decide +kernel⟩
abbrev rm_X2_strokesIn : Room := { frames := 0, cells := 0, slots := 0, locals := 0 }
def fX2_strokesIn_b38 (sf_5 : S0 → Int32 → Int32 → Int32 → Int32 → Option (Int32 × S0)) (σ : S0) (x1 : Int32) (x2 : Int32) (x3 : Int32) (x4 : Int32) : Option (Int32 × S0) := ol (x4 + 1) (fun v1 => sf_5 σ x1 x2 x3 v1)
set_option maxHeartbeats 1000000 in
set_option maxRecDepth 100000 in
theorem fX2_strokesIn_b38_ok {p : Program} {l : Launch} {e : Env} {s : State} {m : MethodId} {args : Array Value} {below : List Frame} {meth : Method} {c : Code} {dC : Nat → ClassId} {dI : Nat → Nat → Nat} {ad : Nat → Nat} {cy : Nat → ClassId} {sz : Nat} (C : Cx p s m args meth c RX2 cX2_strokesIn 5 (some .int) dC dI ad cy sz) {rr : Int32} {ρ : S0} (sf_5 : S0 → Int32 → Int32 → Int32 → Int32 → Option (Int32 × S0)) (hs_5 : ∀ (σ : S0) (x1 : Int32) (x2 : Int32) (x3 : Int32) (x4 : Int32) , sf_5 σ x1 x2 x3 x4 = some (rr, ρ) → Gw p l e rm_X2_strokesIn s m args below meth c (MQ below (QcI dC dI ad cy sz rr ρ) args s 0 0 (AW ad sz)) dC dI ad cy 5 sz 0 0 5 [(0, .ref (ad 46)), (1, .int x1), (2, .int x2), (3, .int x3), (4, .int x4)] [] σ) (σ : S0) (x1 : Int32) (x2 : Int32) (x3 : Int32) (x4 : Int32)  (hf : fX2_strokesIn_b38 sf_5 σ x1 x2 x3 x4 = some (rr, ρ)) : Gw p l e rm_X2_strokesIn s m args below meth c (MQ below (QcI dC dI ad cy sz rr ρ) args s 0 0 (AW ad sz)) dC dI ad cy 5 sz 0 0 38 [(0, .ref (ad 46)), (1, .int x1), (2, .int x2), (3, .int x3), (4, .int x4)] [] σ := by
  unfold fX2_strokesIn_b38 at hf
  obtain ⟨v1, ev1, hf⟩ := ol_e hf
  refine g_iinc (j := 4) (w := 1) (lv2 := [(0, .ref (ad 46)), (1, .int x1), (2, .int x2), (3, .int x3), (4, .int v1)]) C dX2_strokesIn_38 rfl (by decide) ev1 (by decide) [1, 2, 3, 4, 0] rfl ?_
  refine g_goto (tgt := 5) C dX2_strokesIn_41 (by decide) ?_
  exact g_sub [0, 1, 2, 3, 4] rfl (hs_5 σ x1 x2 x3 v1 hf)
def fX2_strokesIn_b5 (sf_5 : S0 → Int32 → Int32 → Int32 → Int32 → Option (Int32 × S0)) (σ : S0) (x1 : Int32) (x2 : Int32) (x3 : Int32) (x4 : Int32) : Option (Int32 × S0) := if (σ 22 2) ≤ x4 then (some (x3, σ)) else (if (x1 &&& ((1 : Int32) <<< (x4 &&& 31))) = 0 then (fX2_strokesIn_b38 sf_5 σ x1 x2 x3 x4) else (og (¬ (x4 < 0 ∨ 6 ≤ x4.toNatClampNeg)) (ol (49 + 1 * x4.toNatClampNeg) (fun q4 => og (¬ (x2 < 0 ∨ 6 ≤ x2.toNatClampNeg)) (ol (σ q4 x2.toNatClampNeg) (fun v6 => ol (x3 + v6) (fun v7 => fX2_strokesIn_b38 sf_5 σ x1 x2 v7 x4)))))))
set_option maxHeartbeats 1000000 in
set_option maxRecDepth 100000 in
theorem fX2_strokesIn_b5_ok {p : Program} {l : Launch} {e : Env} {s : State} {m : MethodId} {args : Array Value} {below : List Frame} {meth : Method} {c : Code} {dC : Nat → ClassId} {dI : Nat → Nat → Nat} {ad : Nat → Nat} {cy : Nat → ClassId} {sz : Nat} (C : Cx p s m args meth c RX2 cX2_strokesIn 5 (some .int) dC dI ad cy sz) {rr : Int32} {ρ : S0} (sf_5 : S0 → Int32 → Int32 → Int32 → Int32 → Option (Int32 × S0)) (hs_5 : ∀ (σ : S0) (x1 : Int32) (x2 : Int32) (x3 : Int32) (x4 : Int32) , sf_5 σ x1 x2 x3 x4 = some (rr, ρ) → Gw p l e rm_X2_strokesIn s m args below meth c (MQ below (QcI dC dI ad cy sz rr ρ) args s 0 0 (AW ad sz)) dC dI ad cy 5 sz 0 0 5 [(0, .ref (ad 46)), (1, .int x1), (2, .int x2), (3, .int x3), (4, .int x4)] [] σ) (σ : S0) (x1 : Int32) (x2 : Int32) (x3 : Int32) (x4 : Int32)  (hf : fX2_strokesIn_b5 sf_5 σ x1 x2 x3 x4 = some (rr, ρ)) : Gw p l e rm_X2_strokesIn s m args below meth c (MQ below (QcI dC dI ad cy sz rr ρ) args s 0 0 (AW ad sz)) dC dI ad cy 5 sz 0 0 5 [(0, .ref (ad 46)), (1, .int x1), (2, .int x2), (3, .int x3), (4, .int x4)] [] σ := by
  unfold fX2_strokesIn_b5 at hf
  refine g_iload C dX2_strokesIn_5 4 rfl ?_
  refine g_aload_n C dX2_strokesIn_7 rfl 0 rfl ?_
  refine g_get C (a_46 ad cy _) rfl hin_X2 0 (by decide) hF_X2_20 rfl rfl dX2_strokesIn_8 ?_
  refine g_get C (a_22 ad cy _) rfl hin_X9 2 (by decide) hF_X2_28 rfl rfl dX2_strokesIn_11 ?_
  rcases oi_e hf with ⟨c1, hf⟩ | ⟨c1, hf⟩
  · refine g_icmp_ge_t (tgt := 44) C dX2_strokesIn_14 (by decide) c1 ?_
    refine g_iload_n C dX2_strokesIn_44 rfl 3 rfl ?_
    obtain ⟨rfl, rfl⟩ := os_e hf
    exact g_iret C rfl dX2_strokesIn_45
  · refine g_icmp_ge_f (tgt := 44) C dX2_strokesIn_14 (by decide) c1 ?_
    refine g_iload_n C dX2_strokesIn_17 rfl 1 rfl ?_
    refine g_iconst (v := 1) C dX2_strokesIn_18 (by decide) ?_
    refine g_iload C dX2_strokesIn_19 4 rfl ?_
    refine g_ishl C dX2_strokesIn_21 ?_
    refine g_iand C dX2_strokesIn_22 ?_
    rcases oi_e hf with ⟨c2, hf⟩ | ⟨c2, hf⟩
    · refine g_if_eq_t (tgt := 38) C dX2_strokesIn_23 (by decide) c2 ?_
      exact g_sub [0, 1, 2, 3, 4] rfl (fX2_strokesIn_b38_ok C sf_5 hs_5 σ x1 x2 x3 x4 hf)
    · refine g_if_eq_f (tgt := 38) C dX2_strokesIn_23 (by decide) c2 ?_
      refine g_iload_n C dX2_strokesIn_26 rfl 3 rfl ?_
      refine g_aload_n C dX2_strokesIn_27 rfl 0 rfl ?_
      refine g_get C (a_46 ad cy _) rfl hin_X2 3 (by decide) hF_X2_17 rfl rfl dX2_strokesIn_28 ?_
      refine g_iload C dX2_strokesIn_31 4 rfl ?_
      obtain ⟨h3, hf⟩ := og_e hf
      obtain ⟨q4, eq4, hf⟩ := ol_e hf
      refine g_aald C (a_48 ad cy _) rfl rfl h3 dX2_strokesIn_33 ?_
      refine g_nmr eq4 ?_
      have hq4 := (o_48 h3 eq4)
      refine g_iload_n C dX2_strokesIn_34 rfl 2 rfl ?_
      obtain ⟨h5, hf⟩ := og_e hf
      refine g_iald C (s_row hq4 ad cy _) h5 dX2_strokesIn_35 ?_
      obtain ⟨v6, ev6, hf⟩ := ol_e hf
      refine g_nm ev6 ?_
      refine g_iadd C dX2_strokesIn_36 ?_
      obtain ⟨v7, ev7, hf⟩ := ol_e hf
      refine g_nm ev7 ?_
      refine g_istore_n (lv2 := [(0, .ref (ad 46)), (1, .int x1), (2, .int x2), (3, .int v7), (4, .int x4)]) C dX2_strokesIn_37 rfl (by decide) [1, 2, 3, 0, 4] rfl ?_
      exact g_sub [0, 1, 2, 3, 4] rfl (fX2_strokesIn_b38_ok C sf_5 hs_5 σ x1 x2 v7 x4 hf)
def fX2_strokesIn_h5  : Nat → S0 → Int32 → Int32 → Int32 → Int32 → Option (Int32 × S0)
  | 0 => fun _ _ _ _ _ => none
  | n + 1 => fun σ x1 x2 x3 x4 => fX2_strokesIn_b5  (fX2_strokesIn_h5  n) σ x1 x2 x3 x4
set_option maxHeartbeats 1000000 in
set_option maxRecDepth 100000 in
theorem fX2_strokesIn_h5_ok {p : Program} {l : Launch} {e : Env} {s : State} {m : MethodId} {args : Array Value} {below : List Frame} {meth : Method} {c : Code} {dC : Nat → ClassId} {dI : Nat → Nat → Nat} {ad : Nat → Nat} {cy : Nat → ClassId} {sz : Nat} (C : Cx p s m args meth c RX2 cX2_strokesIn 5 (some .int) dC dI ad cy sz) {rr : Int32} {ρ : S0}  : ∀ (n : Nat) (σ : S0) (x1 : Int32) (x2 : Int32) (x3 : Int32) (x4 : Int32)  (_hf : fX2_strokesIn_h5  n σ x1 x2 x3 x4 = some (rr, ρ)), Gw p l e rm_X2_strokesIn s m args below meth c (MQ below (QcI dC dI ad cy sz rr ρ) args s 0 0 (AW ad sz)) dC dI ad cy 5 sz 0 0 5 [(0, .ref (ad 46)), (1, .int x1), (2, .int x2), (3, .int x3), (4, .int x4)] [] σ
  | 0, _, _, _, _, _, hf => by cases hf
  | n + 1, σ, x1, x2, x3, x4, hf => fX2_strokesIn_b5_ok C  (fX2_strokesIn_h5  n) (fX2_strokesIn_h5_ok C  n) σ x1 x2 x3 x4 hf
def fX2_strokesIn (σ : S0) (x1 : Int32) (x2 : Int32) : Option (Int32 × S0) := fX2_strokesIn_h5 400 σ x1 x2 0 0
set_option maxHeartbeats 1000000 in
set_option maxRecDepth 100000 in
theorem fX2_strokesIn_ok {p : Program} {l : Launch} {e : Env} {s : State} {m : MethodId} {args : Array Value} {below : List Frame} {meth : Method} {c : Code} {dC : Nat → ClassId} {dI : Nat → Nat → Nat} {ad : Nat → Nat} {cy : Nat → ClassId} {sz : Nat} (C : Cx p s m args meth c RX2 cX2_strokesIn 5 (some .int) dC dI ad cy sz) {rr : Int32} {ρ : S0} (σ : S0) (x1 : Int32) (x2 : Int32)  (hf : fX2_strokesIn σ x1 x2 = some (rr, ρ)) : Gw p l e rm_X2_strokesIn s m args below meth c (MQ below (QcI dC dI ad cy sz rr ρ) args s 0 0 (AW ad sz)) dC dI ad cy 5 sz 0 0 0 [(0, .ref (ad 46)), (1, .int x1), (2, .int x2)] [] σ := by
  unfold fX2_strokesIn at hf
  refine g_iconst (v := 0) C dX2_strokesIn_0 (by decide) ?_
  refine g_istore_n (lv2 := [(0, .ref (ad 46)), (1, .int x1), (2, .int x2), (3, .int 0)]) C dX2_strokesIn_1 rfl (by decide) [1, 2, 3, 0] rfl ?_
  refine g_iconst (v := 0) C dX2_strokesIn_2 (by decide) ?_
  refine g_istore (lv2 := [(0, .ref (ad 46)), (1, .int x1), (2, .int x2), (3, .int 0), (4, .int 0)]) C dX2_strokesIn_3 (by decide) [1, 2, 3, 4, 0] rfl ?_
  exact g_sub [0, 1, 2, 3, 4] rfl (fX2_strokesIn_h5_ok C 400 σ x1 x2 0 0 hf)
theorem c_X2_strokesIn (l : Launch) (dC : Nat → ClassId) (dI : Nat → Nat → Nat) (ad : Nat → Nat) (cy : Nat → ClassId) (x1 : Int32) (x2 : Int32) : ConI l yX2_strokesIn cX2_strokesIn 5 (some .int) rm_X2_strokesIn dC dI ad cy [.ref (ad 46), .int x1, .int x2] (fun σ => fX2_strokesIn σ x1 x2) := con_i (own := RX2) (by decide) rfl (Nat.le_of_ble_eq_true rfl) (fun _ _ _ _ _ _ _ _ σ _ _ C hf => fX2_strokesIn_ok C σ x1 x2 hf)
theorem cal_X2_strokesIn : CalV yX2_strokesIn RX2 cX2_strokesIn 5 (some .int) 2 := ⟨hI_X2_strokesIn, hS_X2_strokesIn, hIni_X2, hC_X2_strokesIn, by decide +kernel⟩
abbrev rm_X2_strokesOf : Room := { frames := 1, cells := 0, slots := 0, locals := 24 }
def fX2_strokesOf (σ : S0) (x1 : Int32) : Option (Int32 × S0) := obp (fX2_strokesIn σ (((1 : Int32) <<< ((σ 22 2) &&& 31)) - 1) x1) (fun r1 σ2 => some (r1, σ2))
set_option maxHeartbeats 1000000 in
set_option maxRecDepth 100000 in
theorem fX2_strokesOf_ok {p : Program} {l : Launch} {e : Env} {s : State} {m : MethodId} {args : Array Value} {below : List Frame} {meth : Method} {c : Code} {dC : Nat → ClassId} {dI : Nat → Nat → Nat} {ad : Nat → Nat} {cy : Nat → ClassId} {sz : Nat} (C : Cx p s m args meth c RX2 cX2_strokesOf 2 (some .int) dC dI ad cy sz) {rr : Int32} {ρ : S0} (σ : S0) (x1 : Int32)  (hf : fX2_strokesOf σ x1 = some (rr, ρ)) : Gw p l e rm_X2_strokesOf s m args below meth c (MQ below (QcI dC dI ad cy sz rr ρ) args s 0 0 (AW ad sz)) dC dI ad cy 2 sz 0 0 0 [(0, .ref (ad 46)), (1, .int x1)] [] σ := by
  unfold fX2_strokesOf at hf
  refine g_aload_n C dX2_strokesOf_0 rfl 0 rfl ?_
  refine g_iconst (v := 1) C dX2_strokesOf_1 (by decide) ?_
  refine g_aload_n C dX2_strokesOf_2 rfl 0 rfl ?_
  refine g_get C (a_46 ad cy _) rfl hin_X2 0 (by decide) hF_X2_20 rfl rfl dX2_strokesOf_3 ?_
  refine g_get C (a_22 ad cy _) rfl hin_X9 2 (by decide) hF_X2_28 rfl rfl dX2_strokesOf_6 ?_
  refine g_ishl C dX2_strokesOf_9 ?_
  refine g_iconst (v := 1) C dX2_strokesOf_10 (by decide) ?_
  refine g_isub C dX2_strokesOf_11 ?_
  refine g_iload_n C dX2_strokesOf_12 rfl 1 rfl ?_
  obtain ⟨r1, σ2, h3, hf⟩ := obp_e hf
  refine g_callVi (As := [.int (((1 : Int32) <<< ((σ 22 2) &&& 31)) - 1), .int x1]) (rest := []) C (a_46 ad cy _) rfl (c_X2_strokesIn l dC dI ad cy (((1 : Int32) <<< ((σ 22 2) &&& 31)) - 1) x1) h3 hM_X2_68 cal_X2_strokesIn ⟨Nat.zero_le _, Nat.zero_le _⟩ ⟨rfl, rfl⟩ ⟨Nat.le_of_ble_eq_true rfl, Nat.le_of_ble_eq_true rfl⟩ rfl rfl (Nat.le_of_ble_eq_true rfl) dX2_strokesOf_13 ?_
  obtain ⟨rfl, rfl⟩ := os_e hf
  exact g_iret C rfl dX2_strokesOf_16
theorem c_X2_strokesOf (l : Launch) (dC : Nat → ClassId) (dI : Nat → Nat → Nat) (ad : Nat → Nat) (cy : Nat → ClassId) (x1 : Int32) : ConI l yX2_strokesOf cX2_strokesOf 2 (some .int) rm_X2_strokesOf dC dI ad cy [.ref (ad 46), .int x1] (fun σ => fX2_strokesOf σ x1) := con_i (own := RX2) (by decide) rfl (Nat.le_of_ble_eq_true rfl) (fun _ _ _ _ _ _ _ _ σ _ _ C hf => fX2_strokesOf_ok C σ x1 hf)
theorem cal_X2_strokesOf : CalV yX2_strokesOf RX2 cX2_strokesOf 2 (some .int) 1 := ⟨hI_X2_strokesOf, hS_X2_strokesOf, hIni_X2, hC_X2_strokesOf, by decide +kernel⟩
abbrev rm_X2_isWithin : Room := { frames := 1, cells := 0, slots := 0, locals := 24 }
def fX2_isWithin_b2 (sf_2 : S0 → Int32 → Int32 → Int32 → Option (Int32 × S0)) (σ : S0) (x1 : Int32) (x2 : Int32) (x3 : Int32) : Option (Int32 × S0) := if (σ 22 0) ≤ x3 then (some (1, σ)) else (obp (fX2_strokesIn σ x1 x3) (fun r2 σ3 => if r2 ≤ x2 then (ol (x3 + 1) (fun v6 => sf_2 σ3 x1 x2 v6)) else (some (0, σ3))))
set_option maxHeartbeats 1000000 in
set_option maxRecDepth 100000 in
theorem fX2_isWithin_b2_ok {p : Program} {l : Launch} {e : Env} {s : State} {m : MethodId} {args : Array Value} {below : List Frame} {meth : Method} {c : Code} {dC : Nat → ClassId} {dI : Nat → Nat → Nat} {ad : Nat → Nat} {cy : Nat → ClassId} {sz : Nat} (C : Cx p s m args meth c RX2 cX2_isWithin 4 (some .boolean) dC dI ad cy sz) {rr : Int32} {ρ : S0} (sf_2 : S0 → Int32 → Int32 → Int32 → Option (Int32 × S0)) (hs_2 : ∀ (σ : S0) (x1 : Int32) (x2 : Int32) (x3 : Int32) , sf_2 σ x1 x2 x3 = some (rr, ρ) → Gw p l e rm_X2_isWithin s m args below meth c (MQ below (QcI dC dI ad cy sz rr ρ) args s 0 0 (AW ad sz)) dC dI ad cy 4 sz 0 0 2 [(0, .ref (ad 46)), (1, .int x1), (2, .int x2), (3, .int x3)] [] σ) (σ : S0) (x1 : Int32) (x2 : Int32) (x3 : Int32)  (hf : fX2_isWithin_b2 sf_2 σ x1 x2 x3 = some (rr, ρ)) : Gw p l e rm_X2_isWithin s m args below meth c (MQ below (QcI dC dI ad cy sz rr ρ) args s 0 0 (AW ad sz)) dC dI ad cy 4 sz 0 0 2 [(0, .ref (ad 46)), (1, .int x1), (2, .int x2), (3, .int x3)] [] σ := by
  unfold fX2_isWithin_b2 at hf
  refine g_iload_n C dX2_isWithin_2 rfl 3 rfl ?_
  refine g_aload_n C dX2_isWithin_3 rfl 0 rfl ?_
  refine g_get C (a_46 ad cy _) rfl hin_X2 0 (by decide) hF_X2_20 rfl rfl dX2_isWithin_4 ?_
  refine g_get C (a_22 ad cy _) rfl hin_X9 0 (by decide) hF_X2_90 rfl rfl dX2_isWithin_7 ?_
  rcases oi_e hf with ⟨c1, hf⟩ | ⟨c1, hf⟩
  · refine g_icmp_ge_t (tgt := 31) C dX2_isWithin_10 (by decide) c1 ?_
    refine g_iconst (v := 1) C dX2_isWithin_31 (by decide) ?_
    obtain ⟨rfl, rfl⟩ := os_e hf
    exact g_zret C rfl (by decide) dX2_isWithin_32
  · refine g_icmp_ge_f (tgt := 31) C dX2_isWithin_10 (by decide) c1 ?_
    refine g_aload_n C dX2_isWithin_13 rfl 0 rfl ?_
    refine g_iload_n C dX2_isWithin_14 rfl 1 rfl ?_
    refine g_iload_n C dX2_isWithin_15 rfl 3 rfl ?_
    obtain ⟨r2, σ3, h4, hf⟩ := obp_e hf
    refine g_callVi (As := [.int x1, .int x3]) (rest := []) C (a_46 ad cy _) rfl (c_X2_strokesIn l dC dI ad cy x1 x3) h4 hM_X2_68 cal_X2_strokesIn ⟨Nat.zero_le _, Nat.zero_le _⟩ ⟨rfl, rfl⟩ ⟨Nat.le_of_ble_eq_true rfl, Nat.le_of_ble_eq_true rfl⟩ rfl rfl (Nat.le_of_ble_eq_true rfl) dX2_isWithin_16 ?_
    refine g_iload_n C dX2_isWithin_19 rfl 2 rfl ?_
    rcases oi_e hf with ⟨c5, hf⟩ | ⟨c5, hf⟩
    · refine g_icmp_le_t (tgt := 25) C dX2_isWithin_20 (by decide) c5 ?_
      obtain ⟨v6, ev6, hf⟩ := ol_e hf
      refine g_iinc (j := 3) (w := 1) (lv2 := [(0, .ref (ad 46)), (1, .int x1), (2, .int x2), (3, .int v6)]) C dX2_isWithin_25 rfl (by decide) ev6 (by decide) [1, 2, 3, 0] rfl ?_
      refine g_goto (tgt := 2) C dX2_isWithin_28 (by decide) ?_
      exact g_sub [0, 1, 2, 3] rfl (hs_2 σ3 x1 x2 v6 hf)
    · refine g_icmp_le_f (tgt := 25) C dX2_isWithin_20 (by decide) c5 ?_
      refine g_iconst (v := 0) C dX2_isWithin_23 (by decide) ?_
      obtain ⟨rfl, rfl⟩ := os_e hf
      exact g_zret C rfl (by decide) dX2_isWithin_24
def fX2_isWithin_h2  : Nat → S0 → Int32 → Int32 → Int32 → Option (Int32 × S0)
  | 0 => fun _ _ _ _ => none
  | n + 1 => fun σ x1 x2 x3 => fX2_isWithin_b2  (fX2_isWithin_h2  n) σ x1 x2 x3
set_option maxHeartbeats 1000000 in
set_option maxRecDepth 100000 in
theorem fX2_isWithin_h2_ok {p : Program} {l : Launch} {e : Env} {s : State} {m : MethodId} {args : Array Value} {below : List Frame} {meth : Method} {c : Code} {dC : Nat → ClassId} {dI : Nat → Nat → Nat} {ad : Nat → Nat} {cy : Nat → ClassId} {sz : Nat} (C : Cx p s m args meth c RX2 cX2_isWithin 4 (some .boolean) dC dI ad cy sz) {rr : Int32} {ρ : S0}  : ∀ (n : Nat) (σ : S0) (x1 : Int32) (x2 : Int32) (x3 : Int32)  (_hf : fX2_isWithin_h2  n σ x1 x2 x3 = some (rr, ρ)), Gw p l e rm_X2_isWithin s m args below meth c (MQ below (QcI dC dI ad cy sz rr ρ) args s 0 0 (AW ad sz)) dC dI ad cy 4 sz 0 0 2 [(0, .ref (ad 46)), (1, .int x1), (2, .int x2), (3, .int x3)] [] σ
  | 0, _, _, _, _, hf => by cases hf
  | n + 1, σ, x1, x2, x3, hf => fX2_isWithin_b2_ok C  (fX2_isWithin_h2  n) (fX2_isWithin_h2_ok C  n) σ x1 x2 x3 hf
def fX2_isWithin (σ : S0) (x1 : Int32) (x2 : Int32) : Option (Int32 × S0) := fX2_isWithin_h2 400 σ x1 x2 0
set_option maxHeartbeats 1000000 in
set_option maxRecDepth 100000 in
theorem fX2_isWithin_ok {p : Program} {l : Launch} {e : Env} {s : State} {m : MethodId} {args : Array Value} {below : List Frame} {meth : Method} {c : Code} {dC : Nat → ClassId} {dI : Nat → Nat → Nat} {ad : Nat → Nat} {cy : Nat → ClassId} {sz : Nat} (C : Cx p s m args meth c RX2 cX2_isWithin 4 (some .boolean) dC dI ad cy sz) {rr : Int32} {ρ : S0} (σ : S0) (x1 : Int32) (x2 : Int32)  (hf : fX2_isWithin σ x1 x2 = some (rr, ρ)) : Gw p l e rm_X2_isWithin s m args below meth c (MQ below (QcI dC dI ad cy sz rr ρ) args s 0 0 (AW ad sz)) dC dI ad cy 4 sz 0 0 0 [(0, .ref (ad 46)), (1, .int x1), (2, .int x2)] [] σ := by
  unfold fX2_isWithin at hf
  refine g_iconst (v := 0) C dX2_isWithin_0 (by decide) ?_
  refine g_istore_n (lv2 := [(0, .ref (ad 46)), (1, .int x1), (2, .int x2), (3, .int 0)]) C dX2_isWithin_1 rfl (by decide) [1, 2, 3, 0] rfl ?_
  exact g_sub [0, 1, 2, 3] rfl (fX2_isWithin_h2_ok C 400 σ x1 x2 0 hf)
theorem c_X2_isWithin (l : Launch) (dC : Nat → ClassId) (dI : Nat → Nat → Nat) (ad : Nat → Nat) (cy : Nat → ClassId) (x1 : Int32) (x2 : Int32) : ConI l yX2_isWithin cX2_isWithin 4 (some .boolean) rm_X2_isWithin dC dI ad cy [.ref (ad 46), .int x1, .int x2] (fun σ => fX2_isWithin σ x1 x2) := con_i (own := RX2) (by decide) rfl (Nat.le_of_ble_eq_true rfl) (fun _ _ _ _ _ _ _ _ σ _ _ C hf => fX2_isWithin_ok C σ x1 x2 hf)
theorem cal_X2_isWithin : CalV yX2_isWithin RX2 cX2_isWithin 4 (some .boolean) 2 := ⟨hI_X2_isWithin, hS_X2_isWithin, hIni_X2, hC_X2_isWithin, by decide +kernel⟩
abbrev rm_X2_costOf : Room := { frames := 0, cells := 0, slots := 0, locals := 0 }
def fX2_costOf_b32 (sf_4 : S0 → Int32 → Int32 → Int32 → Option (Int32 × S0)) (σ : S0) (x1 : Int32) (x2 : Int32) (x3 : Int32) : Option (Int32 × S0) := ol (x3 + 1) (fun v1 => sf_4 σ x1 x2 v1)
set_option maxHeartbeats 1000000 in
set_option maxRecDepth 100000 in
theorem fX2_costOf_b32_ok {p : Program} {l : Launch} {e : Env} {s : State} {m : MethodId} {args : Array Value} {below : List Frame} {meth : Method} {c : Code} {dC : Nat → ClassId} {dI : Nat → Nat → Nat} {ad : Nat → Nat} {cy : Nat → ClassId} {sz : Nat} (C : Cx p s m args meth c RX2 cX2_costOf 4 (some .int) dC dI ad cy sz) {rr : Int32} {ρ : S0} (sf_4 : S0 → Int32 → Int32 → Int32 → Option (Int32 × S0)) (hs_4 : ∀ (σ : S0) (x1 : Int32) (x2 : Int32) (x3 : Int32) , sf_4 σ x1 x2 x3 = some (rr, ρ) → Gw p l e rm_X2_costOf s m args below meth c (MQ below (QcI dC dI ad cy sz rr ρ) args s 0 0 (AW ad sz)) dC dI ad cy 4 sz 0 0 4 [(0, .ref (ad 46)), (1, .int x1), (2, .int x2), (3, .int x3)] [] σ) (σ : S0) (x1 : Int32) (x2 : Int32) (x3 : Int32)  (hf : fX2_costOf_b32 sf_4 σ x1 x2 x3 = some (rr, ρ)) : Gw p l e rm_X2_costOf s m args below meth c (MQ below (QcI dC dI ad cy sz rr ρ) args s 0 0 (AW ad sz)) dC dI ad cy 4 sz 0 0 32 [(0, .ref (ad 46)), (1, .int x1), (2, .int x2), (3, .int x3)] [] σ := by
  unfold fX2_costOf_b32 at hf
  obtain ⟨v1, ev1, hf⟩ := ol_e hf
  refine g_iinc (j := 3) (w := 1) (lv2 := [(0, .ref (ad 46)), (1, .int x1), (2, .int x2), (3, .int v1)]) C dX2_costOf_32 rfl (by decide) ev1 (by decide) [1, 2, 3, 0] rfl ?_
  refine g_goto (tgt := 4) C dX2_costOf_35 (by decide) ?_
  exact g_sub [0, 1, 2, 3] rfl (hs_4 σ x1 x2 v1 hf)
def fX2_costOf_b4 (sf_4 : S0 → Int32 → Int32 → Int32 → Option (Int32 × S0)) (σ : S0) (x1 : Int32) (x2 : Int32) (x3 : Int32) : Option (Int32 × S0) := if (σ 22 2) ≤ x3 then (some (x2, σ)) else (if (x1 &&& ((1 : Int32) <<< (x3 &&& 31))) = 0 then (fX2_costOf_b32 sf_4 σ x1 x2 x3) else (og (¬ (x3 < 0 ∨ 6 ≤ x3.toNatClampNeg)) (ol (σ 47 x3.toNatClampNeg) (fun v4 => ol (x2 + v4) (fun v5 => fX2_costOf_b32 sf_4 σ x1 v5 x3)))))
set_option maxHeartbeats 1000000 in
set_option maxRecDepth 100000 in
theorem fX2_costOf_b4_ok {p : Program} {l : Launch} {e : Env} {s : State} {m : MethodId} {args : Array Value} {below : List Frame} {meth : Method} {c : Code} {dC : Nat → ClassId} {dI : Nat → Nat → Nat} {ad : Nat → Nat} {cy : Nat → ClassId} {sz : Nat} (C : Cx p s m args meth c RX2 cX2_costOf 4 (some .int) dC dI ad cy sz) {rr : Int32} {ρ : S0} (sf_4 : S0 → Int32 → Int32 → Int32 → Option (Int32 × S0)) (hs_4 : ∀ (σ : S0) (x1 : Int32) (x2 : Int32) (x3 : Int32) , sf_4 σ x1 x2 x3 = some (rr, ρ) → Gw p l e rm_X2_costOf s m args below meth c (MQ below (QcI dC dI ad cy sz rr ρ) args s 0 0 (AW ad sz)) dC dI ad cy 4 sz 0 0 4 [(0, .ref (ad 46)), (1, .int x1), (2, .int x2), (3, .int x3)] [] σ) (σ : S0) (x1 : Int32) (x2 : Int32) (x3 : Int32)  (hf : fX2_costOf_b4 sf_4 σ x1 x2 x3 = some (rr, ρ)) : Gw p l e rm_X2_costOf s m args below meth c (MQ below (QcI dC dI ad cy sz rr ρ) args s 0 0 (AW ad sz)) dC dI ad cy 4 sz 0 0 4 [(0, .ref (ad 46)), (1, .int x1), (2, .int x2), (3, .int x3)] [] σ := by
  unfold fX2_costOf_b4 at hf
  refine g_iload_n C dX2_costOf_4 rfl 3 rfl ?_
  refine g_aload_n C dX2_costOf_5 rfl 0 rfl ?_
  refine g_get C (a_46 ad cy _) rfl hin_X2 0 (by decide) hF_X2_20 rfl rfl dX2_costOf_6 ?_
  refine g_get C (a_22 ad cy _) rfl hin_X9 2 (by decide) hF_X2_28 rfl rfl dX2_costOf_9 ?_
  rcases oi_e hf with ⟨c1, hf⟩ | ⟨c1, hf⟩
  · refine g_icmp_ge_t (tgt := 38) C dX2_costOf_12 (by decide) c1 ?_
    refine g_iload_n C dX2_costOf_38 rfl 2 rfl ?_
    obtain ⟨rfl, rfl⟩ := os_e hf
    exact g_iret C rfl dX2_costOf_39
  · refine g_icmp_ge_f (tgt := 38) C dX2_costOf_12 (by decide) c1 ?_
    refine g_iload_n C dX2_costOf_15 rfl 1 rfl ?_
    refine g_iconst (v := 1) C dX2_costOf_16 (by decide) ?_
    refine g_iload_n C dX2_costOf_17 rfl 3 rfl ?_
    refine g_ishl C dX2_costOf_18 ?_
    refine g_iand C dX2_costOf_19 ?_
    rcases oi_e hf with ⟨c2, hf⟩ | ⟨c2, hf⟩
    · refine g_if_eq_t (tgt := 32) C dX2_costOf_20 (by decide) c2 ?_
      exact g_sub [0, 1, 2, 3] rfl (fX2_costOf_b32_ok C sf_4 hs_4 σ x1 x2 x3 hf)
    · refine g_if_eq_f (tgt := 32) C dX2_costOf_20 (by decide) c2 ?_
      refine g_iload_n C dX2_costOf_23 rfl 2 rfl ?_
      refine g_aload_n C dX2_costOf_24 rfl 0 rfl ?_
      refine g_get C (a_46 ad cy _) rfl hin_X2 2 (by decide) hF_X2_9 rfl rfl dX2_costOf_25 ?_
      refine g_iload_n C dX2_costOf_28 rfl 3 rfl ?_
      obtain ⟨h3, hf⟩ := og_e hf
      refine g_iald C (a_47 ad cy _) h3 dX2_costOf_29 ?_
      obtain ⟨v4, ev4, hf⟩ := ol_e hf
      refine g_nm ev4 ?_
      refine g_iadd C dX2_costOf_30 ?_
      obtain ⟨v5, ev5, hf⟩ := ol_e hf
      refine g_nm ev5 ?_
      refine g_istore_n (lv2 := [(0, .ref (ad 46)), (1, .int x1), (2, .int v5), (3, .int x3)]) C dX2_costOf_31 rfl (by decide) [1, 2, 0, 3] rfl ?_
      exact g_sub [0, 1, 2, 3] rfl (fX2_costOf_b32_ok C sf_4 hs_4 σ x1 v5 x3 hf)
def fX2_costOf_h4  : Nat → S0 → Int32 → Int32 → Int32 → Option (Int32 × S0)
  | 0 => fun _ _ _ _ => none
  | n + 1 => fun σ x1 x2 x3 => fX2_costOf_b4  (fX2_costOf_h4  n) σ x1 x2 x3
set_option maxHeartbeats 1000000 in
set_option maxRecDepth 100000 in
theorem fX2_costOf_h4_ok {p : Program} {l : Launch} {e : Env} {s : State} {m : MethodId} {args : Array Value} {below : List Frame} {meth : Method} {c : Code} {dC : Nat → ClassId} {dI : Nat → Nat → Nat} {ad : Nat → Nat} {cy : Nat → ClassId} {sz : Nat} (C : Cx p s m args meth c RX2 cX2_costOf 4 (some .int) dC dI ad cy sz) {rr : Int32} {ρ : S0}  : ∀ (n : Nat) (σ : S0) (x1 : Int32) (x2 : Int32) (x3 : Int32)  (_hf : fX2_costOf_h4  n σ x1 x2 x3 = some (rr, ρ)), Gw p l e rm_X2_costOf s m args below meth c (MQ below (QcI dC dI ad cy sz rr ρ) args s 0 0 (AW ad sz)) dC dI ad cy 4 sz 0 0 4 [(0, .ref (ad 46)), (1, .int x1), (2, .int x2), (3, .int x3)] [] σ
  | 0, _, _, _, _, hf => by cases hf
  | n + 1, σ, x1, x2, x3, hf => fX2_costOf_b4_ok C  (fX2_costOf_h4  n) (fX2_costOf_h4_ok C  n) σ x1 x2 x3 hf
def fX2_costOf (σ : S0) (x1 : Int32) : Option (Int32 × S0) := fX2_costOf_h4 400 σ x1 0 0
set_option maxHeartbeats 1000000 in
set_option maxRecDepth 100000 in
theorem fX2_costOf_ok {p : Program} {l : Launch} {e : Env} {s : State} {m : MethodId} {args : Array Value} {below : List Frame} {meth : Method} {c : Code} {dC : Nat → ClassId} {dI : Nat → Nat → Nat} {ad : Nat → Nat} {cy : Nat → ClassId} {sz : Nat} (C : Cx p s m args meth c RX2 cX2_costOf 4 (some .int) dC dI ad cy sz) {rr : Int32} {ρ : S0} (σ : S0) (x1 : Int32)  (hf : fX2_costOf σ x1 = some (rr, ρ)) : Gw p l e rm_X2_costOf s m args below meth c (MQ below (QcI dC dI ad cy sz rr ρ) args s 0 0 (AW ad sz)) dC dI ad cy 4 sz 0 0 0 [(0, .ref (ad 46)), (1, .int x1)] [] σ := by
  unfold fX2_costOf at hf
  refine g_iconst (v := 0) C dX2_costOf_0 (by decide) ?_
  refine g_istore_n (lv2 := [(0, .ref (ad 46)), (1, .int x1), (2, .int 0)]) C dX2_costOf_1 rfl (by decide) [1, 2, 0] rfl ?_
  refine g_iconst (v := 0) C dX2_costOf_2 (by decide) ?_
  refine g_istore_n (lv2 := [(0, .ref (ad 46)), (1, .int x1), (2, .int 0), (3, .int 0)]) C dX2_costOf_3 rfl (by decide) [1, 2, 3, 0] rfl ?_
  exact g_sub [0, 1, 2, 3] rfl (fX2_costOf_h4_ok C 400 σ x1 0 0 hf)
theorem c_X2_costOf (l : Launch) (dC : Nat → ClassId) (dI : Nat → Nat → Nat) (ad : Nat → Nat) (cy : Nat → ClassId) (x1 : Int32) : ConI l yX2_costOf cX2_costOf 4 (some .int) rm_X2_costOf dC dI ad cy [.ref (ad 46), .int x1] (fun σ => fX2_costOf σ x1) := con_i (own := RX2) (by decide) rfl (Nat.le_of_ble_eq_true rfl) (fun _ _ _ _ _ _ _ _ σ _ _ C hf => fX2_costOf_ok C σ x1 hf)
theorem cal_X2_costOf : CalV yX2_costOf RX2 cX2_costOf 4 (some .int) 1 := ⟨hI_X2_costOf, hS_X2_costOf, hIni_X2, hC_X2_costOf, by decide +kernel⟩
abbrev rm_X2_choose : Room := { frames := 2, cells := 0, slots := 0, locals := 48 }
def fX2_choose_b75 (sf_11 : S0 → Int32 → Int32 → Int32 → Option (Int32 × S0)) (σ : S0) (x1 : Int32) (x2 : Int32) (x3 : Int32) : Option (Int32 × S0) := ol (x3 + 1) (fun v1 => sf_11 σ x1 x2 v1)
set_option maxHeartbeats 1000000 in
set_option maxRecDepth 100000 in
theorem fX2_choose_b75_ok {p : Program} {l : Launch} {e : Env} {s : State} {m : MethodId} {args : Array Value} {below : List Frame} {meth : Method} {c : Code} {dC : Nat → ClassId} {dI : Nat → Nat → Nat} {ad : Nat → Nat} {cy : Nat → ClassId} {sz : Nat} (C : Cx p s m args meth c RX2 cX2_choose 5 none dC dI ad cy sz) {rr : Int32} {ρ : S0} (sf_11 : S0 → Int32 → Int32 → Int32 → Option (Int32 × S0)) (hs_11 : ∀ (σ : S0) (x1 : Int32) (x2 : Int32) (x3 : Int32) , sf_11 σ x1 x2 x3 = some (rr, ρ) → Gw p l e rm_X2_choose s m args below meth c (MQ below (QcV dC dI ad cy sz ρ) args s 0 0 (AW ad sz)) dC dI ad cy 5 sz 0 0 11 [(0, .ref (ad 46)), (1, .int x1), (2, .int x2), (3, .int x3)] [] σ) (σ : S0) (x1 : Int32) (x2 : Int32) (x3 : Int32)  (hf : fX2_choose_b75 sf_11 σ x1 x2 x3 = some (rr, ρ)) : Gw p l e rm_X2_choose s m args below meth c (MQ below (QcV dC dI ad cy sz ρ) args s 0 0 (AW ad sz)) dC dI ad cy 5 sz 0 0 75 [(0, .ref (ad 46)), (1, .int x1), (2, .int x2), (3, .int x3)] [] σ := by
  unfold fX2_choose_b75 at hf
  obtain ⟨v1, ev1, hf⟩ := ol_e hf
  refine g_iinc (j := 3) (w := 1) (lv2 := [(0, .ref (ad 46)), (1, .int x1), (2, .int x2), (3, .int v1)]) C dX2_choose_75 rfl (by decide) ev1 (by decide) [1, 2, 3, 0] rfl ?_
  refine g_goto (tgt := 11) C dX2_choose_78 (by decide) ?_
  exact g_sub [0, 1, 2, 3] rfl (hs_11 σ x1 x2 v1 hf)
def fX2_choose_b64 (sf_11 : S0 → Int32 → Int32 → Int32 → Option (Int32 × S0)) (σ : S0) (x1 : Int32) (x2 : Int32) (x3 : Int32) (x4 : Int32) : Option (Int32 × S0) := ol (su σ 46 5 x3) (fun σ1 => ol (su σ1 46 4 x4) (fun σ2 => fX2_choose_b75 sf_11 σ2 x1 x2 x3))
set_option maxHeartbeats 1000000 in
set_option maxRecDepth 100000 in
theorem fX2_choose_b64_ok {p : Program} {l : Launch} {e : Env} {s : State} {m : MethodId} {args : Array Value} {below : List Frame} {meth : Method} {c : Code} {dC : Nat → ClassId} {dI : Nat → Nat → Nat} {ad : Nat → Nat} {cy : Nat → ClassId} {sz : Nat} (C : Cx p s m args meth c RX2 cX2_choose 5 none dC dI ad cy sz) {rr : Int32} {ρ : S0} (sf_11 : S0 → Int32 → Int32 → Int32 → Option (Int32 × S0)) (hs_11 : ∀ (σ : S0) (x1 : Int32) (x2 : Int32) (x3 : Int32) , sf_11 σ x1 x2 x3 = some (rr, ρ) → Gw p l e rm_X2_choose s m args below meth c (MQ below (QcV dC dI ad cy sz ρ) args s 0 0 (AW ad sz)) dC dI ad cy 5 sz 0 0 11 [(0, .ref (ad 46)), (1, .int x1), (2, .int x2), (3, .int x3)] [] σ) (σ : S0) (x1 : Int32) (x2 : Int32) (x3 : Int32) (x4 : Int32)  (hf : fX2_choose_b64 sf_11 σ x1 x2 x3 x4 = some (rr, ρ)) : Gw p l e rm_X2_choose s m args below meth c (MQ below (QcV dC dI ad cy sz ρ) args s 0 0 (AW ad sz)) dC dI ad cy 5 sz 0 0 64 [(0, .ref (ad 46)), (1, .int x1), (2, .int x2), (3, .int x3), (4, .int x4)] [] σ := by
  unfold fX2_choose_b64 at hf
  refine g_aload_n C dX2_choose_64 rfl 0 rfl ?_
  refine g_iload_n C dX2_choose_65 rfl 3 rfl ?_
  obtain ⟨σ1, eσ1, hf⟩ := ol_e hf
  refine g_put (ty := .int) C (a_46 ad cy _) rfl hin_X2 tyX2 tyX2_ok nmX2 5 (by decide) hF_X2_75 rfl rfl (by decide +kernel) rfl rfl (Nat.le_of_ble_eq_true rfl) (p_46_5 ad cy _ _) eσ1 dX2_choose_66 ?_
  refine g_aload_n C dX2_choose_69 rfl 0 rfl ?_
  refine g_iload C dX2_choose_70 4 rfl ?_
  obtain ⟨σ2, eσ2, hf⟩ := ol_e hf
  refine g_put (ty := .int) C (a_46 ad cy _) rfl hin_X2 tyX2 tyX2_ok nmX2 4 (by decide) hF_X2_89 rfl rfl (by decide +kernel) rfl rfl (Nat.le_of_ble_eq_true rfl) (p_46_4 ad cy _ _) eσ2 dX2_choose_72 ?_
  exact g_sub [0, 1, 2, 3] rfl (fX2_choose_b75_ok C sf_11 hs_11 σ2 x1 x2 x3 hf)
def fX2_choose_b11 (sf_11 : S0 → Int32 → Int32 → Int32 → Option (Int32 × S0)) (σ : S0) (x1 : Int32) (x2 : Int32) (x3 : Int32) : Option (Int32 × S0) := if ((1 : Int32) <<< ((σ 22 2) &&& 31)) ≤ x3 then (some (0, σ)) else (obp (fJ6_bitCount_0f7a4 σ x3) (fun r2 σ3 => if ¬ r2 = x1 then (fX2_choose_b75 sf_11 σ3 x1 x2 x3) else (obp (fX2_isWithin σ3 x3 x2) (fun r6 σ7 => if r6 = 0 then (fX2_choose_b75 sf_11 σ7 x1 x2 x3) else (obp (fX2_costOf σ7 x3) (fun r10 σ11 => if (σ11 46 5) = 0 then (fX2_choose_b64 sf_11 σ11 x1 x2 x3 r10) else (if (σ11 46 4) ≤ r10 then (fX2_choose_b75 sf_11 σ11 x1 x2 x3) else (fX2_choose_b64 sf_11 σ11 x1 x2 x3 r10))))))))
set_option maxHeartbeats 1000000 in
set_option maxRecDepth 100000 in
theorem fX2_choose_b11_ok {p : Program} {l : Launch} {e : Env} {s : State} {m : MethodId} {args : Array Value} {below : List Frame} {meth : Method} {c : Code} {dC : Nat → ClassId} {dI : Nat → Nat → Nat} {ad : Nat → Nat} {cy : Nat → ClassId} {sz : Nat} (C : Cx p s m args meth c RX2 cX2_choose 5 none dC dI ad cy sz) {rr : Int32} {ρ : S0} (sf_11 : S0 → Int32 → Int32 → Int32 → Option (Int32 × S0)) (hs_11 : ∀ (σ : S0) (x1 : Int32) (x2 : Int32) (x3 : Int32) , sf_11 σ x1 x2 x3 = some (rr, ρ) → Gw p l e rm_X2_choose s m args below meth c (MQ below (QcV dC dI ad cy sz ρ) args s 0 0 (AW ad sz)) dC dI ad cy 5 sz 0 0 11 [(0, .ref (ad 46)), (1, .int x1), (2, .int x2), (3, .int x3)] [] σ) (σ : S0) (x1 : Int32) (x2 : Int32) (x3 : Int32)  (hf : fX2_choose_b11 sf_11 σ x1 x2 x3 = some (rr, ρ)) : Gw p l e rm_X2_choose s m args below meth c (MQ below (QcV dC dI ad cy sz ρ) args s 0 0 (AW ad sz)) dC dI ad cy 5 sz 0 0 11 [(0, .ref (ad 46)), (1, .int x1), (2, .int x2), (3, .int x3)] [] σ := by
  unfold fX2_choose_b11 at hf
  refine g_iload_n C dX2_choose_11 rfl 3 rfl ?_
  refine g_iconst (v := 1) C dX2_choose_12 (by decide) ?_
  refine g_aload_n C dX2_choose_13 rfl 0 rfl ?_
  refine g_get C (a_46 ad cy _) rfl hin_X2 0 (by decide) hF_X2_20 rfl rfl dX2_choose_14 ?_
  refine g_get C (a_22 ad cy _) rfl hin_X9 2 (by decide) hF_X2_28 rfl rfl dX2_choose_17 ?_
  refine g_ishl C dX2_choose_20 ?_
  rcases oi_e hf with ⟨c1, hf⟩ | ⟨c1, hf⟩
  · refine g_icmp_ge_t (tgt := 81) C dX2_choose_21 (by decide) c1 ?_
    obtain ⟨rfl, rfl⟩ := os_e hf
    exact g_vret C rfl dX2_choose_81
  · refine g_icmp_ge_f (tgt := 81) C dX2_choose_21 (by decide) c1 ?_
    refine g_iload_n C dX2_choose_24 rfl 3 rfl ?_
    obtain ⟨r2, σ3, h4, hf⟩ := obp_e hf
    refine g_callSi (As := [.int x3]) (rest := []) C (c_J6_bitCount_0f7a4 l dC dI ad cy x3) h4 hM_X2_76 cal_J6_bitCount_0f7a4 ⟨Nat.zero_le _, Nat.zero_le _⟩ ⟨rfl, rfl⟩ ⟨Nat.le_of_ble_eq_true rfl, Nat.le_of_ble_eq_true rfl⟩ rfl rfl (Nat.le_of_ble_eq_true rfl) dX2_choose_25 ?_
    refine g_iload_n C dX2_choose_28 rfl 1 rfl ?_
    rcases oi_e hf with ⟨c5, hf⟩ | ⟨c5, hf⟩
    · refine g_icmp_ne_t (tgt := 75) C dX2_choose_29 (by decide) c5 ?_
      exact g_sub [0, 1, 2, 3] rfl (fX2_choose_b75_ok C sf_11 hs_11 σ3 x1 x2 x3 hf)
    · refine g_icmp_ne_f (tgt := 75) C dX2_choose_29 (by decide) (Decidable.of_not_not c5) ?_
      refine g_aload_n C dX2_choose_32 rfl 0 rfl ?_
      refine g_iload_n C dX2_choose_33 rfl 3 rfl ?_
      refine g_iload_n C dX2_choose_34 rfl 2 rfl ?_
      obtain ⟨r6, σ7, h8, hf⟩ := obp_e hf
      refine g_callVi (As := [.int x3, .int x2]) (rest := []) C (a_46 ad cy _) rfl (c_X2_isWithin l dC dI ad cy x3 x2) h8 hM_X2_82 cal_X2_isWithin ⟨Nat.zero_le _, Nat.zero_le _⟩ ⟨rfl, rfl⟩ ⟨Nat.le_of_ble_eq_true rfl, Nat.le_of_ble_eq_true rfl⟩ rfl rfl (Nat.le_of_ble_eq_true rfl) dX2_choose_35 ?_
      rcases oi_e hf with ⟨c9, hf⟩ | ⟨c9, hf⟩
      · refine g_if_eq_t (tgt := 75) C dX2_choose_38 (by decide) c9 ?_
        exact g_sub [0, 1, 2, 3] rfl (fX2_choose_b75_ok C sf_11 hs_11 σ7 x1 x2 x3 hf)
      · refine g_if_eq_f (tgt := 75) C dX2_choose_38 (by decide) c9 ?_
        refine g_aload_n C dX2_choose_41 rfl 0 rfl ?_
        refine g_iload_n C dX2_choose_42 rfl 3 rfl ?_
        obtain ⟨r10, σ11, h12, hf⟩ := obp_e hf
        refine g_callVi (As := [.int x3]) (rest := []) C (a_46 ad cy _) rfl (c_X2_costOf l dC dI ad cy x3) h12 hM_X2_86 cal_X2_costOf ⟨Nat.zero_le _, Nat.zero_le _⟩ ⟨rfl, rfl⟩ ⟨Nat.le_of_ble_eq_true rfl, Nat.le_of_ble_eq_true rfl⟩ rfl rfl (Nat.le_of_ble_eq_true rfl) dX2_choose_43 ?_
        refine g_istore (lv2 := [(0, .ref (ad 46)), (1, .int x1), (2, .int x2), (3, .int x3), (4, .int r10)]) C dX2_choose_46 (by decide) [1, 2, 3, 4, 0] rfl ?_
        refine g_aload_n C dX2_choose_48 rfl 0 rfl ?_
        refine g_get C (a_46 ad cy _) rfl hin_X2 5 (by decide) hF_X2_75 rfl rfl dX2_choose_49 ?_
        rcases oi_e hf with ⟨c13, hf⟩ | ⟨c13, hf⟩
        · refine g_if_eq_t (tgt := 64) C dX2_choose_52 (by decide) c13 ?_
          exact g_sub [0, 1, 2, 3, 4] rfl (fX2_choose_b64_ok C sf_11 hs_11 σ11 x1 x2 x3 r10 hf)
        · refine g_if_eq_f (tgt := 64) C dX2_choose_52 (by decide) c13 ?_
          refine g_iload C dX2_choose_55 4 rfl ?_
          refine g_aload_n C dX2_choose_57 rfl 0 rfl ?_
          refine g_get C (a_46 ad cy _) rfl hin_X2 4 (by decide) hF_X2_89 rfl rfl dX2_choose_58 ?_
          rcases oi_e hf with ⟨c14, hf⟩ | ⟨c14, hf⟩
          · refine g_icmp_ge_t (tgt := 75) C dX2_choose_61 (by decide) c14 ?_
            exact g_sub [0, 1, 2, 3] rfl (fX2_choose_b75_ok C sf_11 hs_11 σ11 x1 x2 x3 hf)
          · refine g_icmp_ge_f (tgt := 75) C dX2_choose_61 (by decide) c14 ?_
            exact g_sub [0, 1, 2, 3, 4] rfl (fX2_choose_b64_ok C sf_11 hs_11 σ11 x1 x2 x3 r10 hf)
def fX2_choose_h11  : Nat → S0 → Int32 → Int32 → Int32 → Option (Int32 × S0)
  | 0 => fun _ _ _ _ => none
  | n + 1 => fun σ x1 x2 x3 => fX2_choose_b11  (fX2_choose_h11  n) σ x1 x2 x3
set_option maxHeartbeats 1000000 in
set_option maxRecDepth 100000 in
theorem fX2_choose_h11_ok {p : Program} {l : Launch} {e : Env} {s : State} {m : MethodId} {args : Array Value} {below : List Frame} {meth : Method} {c : Code} {dC : Nat → ClassId} {dI : Nat → Nat → Nat} {ad : Nat → Nat} {cy : Nat → ClassId} {sz : Nat} (C : Cx p s m args meth c RX2 cX2_choose 5 none dC dI ad cy sz) {rr : Int32} {ρ : S0}  : ∀ (n : Nat) (σ : S0) (x1 : Int32) (x2 : Int32) (x3 : Int32)  (_hf : fX2_choose_h11  n σ x1 x2 x3 = some (rr, ρ)), Gw p l e rm_X2_choose s m args below meth c (MQ below (QcV dC dI ad cy sz ρ) args s 0 0 (AW ad sz)) dC dI ad cy 5 sz 0 0 11 [(0, .ref (ad 46)), (1, .int x1), (2, .int x2), (3, .int x3)] [] σ
  | 0, _, _, _, _, hf => by cases hf
  | n + 1, σ, x1, x2, x3, hf => fX2_choose_b11_ok C  (fX2_choose_h11  n) (fX2_choose_h11_ok C  n) σ x1 x2 x3 hf
def fX2_choose (σ : S0) (x1 : Int32) (x2 : Int32) : Option (Int32 × S0) := obp (fX2_ringAll σ) (fun r1 σ2 => ol (su σ2 46 5 0) (fun σ4 => fX2_choose_h11 400 σ4 x1 x2 1))
set_option maxHeartbeats 1000000 in
set_option maxRecDepth 100000 in
theorem fX2_choose_ok {p : Program} {l : Launch} {e : Env} {s : State} {m : MethodId} {args : Array Value} {below : List Frame} {meth : Method} {c : Code} {dC : Nat → ClassId} {dI : Nat → Nat → Nat} {ad : Nat → Nat} {cy : Nat → ClassId} {sz : Nat} (C : Cx p s m args meth c RX2 cX2_choose 5 none dC dI ad cy sz) {rr : Int32} {ρ : S0} (σ : S0) (x1 : Int32) (x2 : Int32)  (hf : fX2_choose σ x1 x2 = some (rr, ρ)) : Gw p l e rm_X2_choose s m args below meth c (MQ below (QcV dC dI ad cy sz ρ) args s 0 0 (AW ad sz)) dC dI ad cy 5 sz 0 0 0 [(0, .ref (ad 46)), (1, .int x1), (2, .int x2)] [] σ := by
  unfold fX2_choose at hf
  refine g_aload_n C dX2_choose_0 rfl 0 rfl ?_
  obtain ⟨r1, σ2, h3, hf⟩ := obp_e hf
  refine g_callVv (As := []) (rest := []) C (a_46 ad cy _) rfl (c_X2_ringAll l dC dI ad cy ) h3 hM_X2_72 cal_X2_ringAll ⟨Nat.zero_le _, Nat.zero_le _⟩ ⟨rfl, rfl⟩ ⟨Nat.le_of_ble_eq_true rfl, Nat.le_of_ble_eq_true rfl⟩ rfl rfl (Nat.le_of_ble_eq_true rfl) dX2_choose_1 ?_
  refine g_aload_n C dX2_choose_4 rfl 0 rfl ?_
  refine g_iconst (v := 0) C dX2_choose_5 (by decide) ?_
  obtain ⟨σ4, eσ4, hf⟩ := ol_e hf
  refine g_put (ty := .int) C (a_46 ad cy _) rfl hin_X2 tyX2 tyX2_ok nmX2 5 (by decide) hF_X2_75 rfl rfl (by decide +kernel) rfl rfl (Nat.le_of_ble_eq_true rfl) (p_46_5 ad cy _ _) eσ4 dX2_choose_6 ?_
  refine g_iconst (v := 1) C dX2_choose_9 (by decide) ?_
  refine g_istore_n (lv2 := [(0, .ref (ad 46)), (1, .int x1), (2, .int x2), (3, .int 1)]) C dX2_choose_10 rfl (by decide) [1, 2, 3, 0] rfl ?_
  exact g_sub [0, 1, 2, 3] rfl (fX2_choose_h11_ok C 400 σ4 x1 x2 1 hf)
theorem c_X2_choose (l : Launch) (dC : Nat → ClassId) (dI : Nat → Nat → Nat) (ad : Nat → Nat) (cy : Nat → ClassId) (x1 : Int32) (x2 : Int32) : ConV l yX2_choose cX2_choose 5 none rm_X2_choose dC dI ad cy [.ref (ad 46), .int x1, .int x2] (fun σ => fX2_choose σ x1 x2) := con_v (own := RX2) (by decide) rfl (Nat.le_of_ble_eq_true rfl) (fun _ _ _ _ _ _ _ _ σ _ _ C hf => fX2_choose_ok C σ x1 x2 hf)
theorem cal_X2_choose : CalV yX2_choose RX2 cX2_choose 5 none 2 := ⟨hI_X2_choose, hS_X2_choose, hIni_X2, hC_X2_choose, by decide +kernel⟩
abbrev rm_X4_leastBehind : Room := { frames := 1, cells := 0, slots := 0, locals := 22 }
def fX4_leastBehind_b99 (sf_6 : S0 → Int32 → Int32 → Int32 → Int32 → Option (Int32 × S0)) (σ : S0) (x1 : Int32) (x2 : Int32) (x3 : Int32) (x4 : Int32) : Option (Int32 × S0) := ol (x4 + 1) (fun v1 => sf_6 σ x1 x2 x3 v1)
set_option maxHeartbeats 1000000 in
set_option maxRecDepth 100000 in
theorem fX4_leastBehind_b99_ok {p : Program} {l : Launch} {e : Env} {s : State} {m : MethodId} {args : Array Value} {below : List Frame} {meth : Method} {c : Code} {dC : Nat → ClassId} {dI : Nat → Nat → Nat} {ad : Nat → Nat} {cy : Nat → ClassId} {sz : Nat} (C : Cx p s m args meth c RX4 cX4_leastBehind 6 (some .int) dC dI ad cy sz) {rr : Int32} {ρ : S0} (sf_6 : S0 → Int32 → Int32 → Int32 → Int32 → Option (Int32 × S0)) (hs_6 : ∀ (σ : S0) (x1 : Int32) (x2 : Int32) (x3 : Int32) (x4 : Int32) , sf_6 σ x1 x2 x3 x4 = some (rr, ρ) → Gw p l e rm_X4_leastBehind s m args below meth c (MQ below (QcI dC dI ad cy sz rr ρ) args s 0 0 (AW ad sz)) dC dI ad cy 6 sz 0 0 6 [(0, .ref (ad 55)), (1, .int x1), (2, .int x2), (3, .int x3), (4, .int x4)] [] σ) (σ : S0) (x1 : Int32) (x2 : Int32) (x3 : Int32) (x4 : Int32)  (hf : fX4_leastBehind_b99 sf_6 σ x1 x2 x3 x4 = some (rr, ρ)) : Gw p l e rm_X4_leastBehind s m args below meth c (MQ below (QcI dC dI ad cy sz rr ρ) args s 0 0 (AW ad sz)) dC dI ad cy 6 sz 0 0 99 [(0, .ref (ad 55)), (1, .int x1), (2, .int x2), (3, .int x3), (4, .int x4)] [] σ := by
  unfold fX4_leastBehind_b99 at hf
  obtain ⟨v1, ev1, hf⟩ := ol_e hf
  refine g_iinc (j := 4) (w := 1) (lv2 := [(0, .ref (ad 55)), (1, .int x1), (2, .int x2), (3, .int x3), (4, .int v1)]) C dX4_leastBehind_99 rfl (by decide) ev1 (by decide) [1, 2, 3, 4, 0] rfl ?_
  refine g_goto (tgt := 6) C dX4_leastBehind_102 (by decide) ?_
  exact g_sub [0, 1, 2, 3, 4] rfl (hs_6 σ x1 x2 x3 v1 hf)
def fX4_leastBehind_b93 (sf_6 : S0 → Int32 → Int32 → Int32 → Int32 → Option (Int32 × S0)) (σ : S0) (x1 : Int32) (x2 : Int32) (x3 : Int32) (x4 : Int32) (t0 : Int32) (t1 : Int32) : Option (Int32 × S0) := if t0 ≤ t1 then (fX4_leastBehind_b99 sf_6 σ x1 x2 x3 x4) else (fX4_leastBehind_b99 sf_6 σ x1 x2 x4 x4)
set_option maxHeartbeats 1000000 in
set_option maxRecDepth 100000 in
theorem fX4_leastBehind_b93_ok {p : Program} {l : Launch} {e : Env} {s : State} {m : MethodId} {args : Array Value} {below : List Frame} {meth : Method} {c : Code} {dC : Nat → ClassId} {dI : Nat → Nat → Nat} {ad : Nat → Nat} {cy : Nat → ClassId} {sz : Nat} (C : Cx p s m args meth c RX4 cX4_leastBehind 6 (some .int) dC dI ad cy sz) {rr : Int32} {ρ : S0} (sf_6 : S0 → Int32 → Int32 → Int32 → Int32 → Option (Int32 × S0)) (hs_6 : ∀ (σ : S0) (x1 : Int32) (x2 : Int32) (x3 : Int32) (x4 : Int32) , sf_6 σ x1 x2 x3 x4 = some (rr, ρ) → Gw p l e rm_X4_leastBehind s m args below meth c (MQ below (QcI dC dI ad cy sz rr ρ) args s 0 0 (AW ad sz)) dC dI ad cy 6 sz 0 0 6 [(0, .ref (ad 55)), (1, .int x1), (2, .int x2), (3, .int x3), (4, .int x4)] [] σ) (σ : S0) (x1 : Int32) (x2 : Int32) (x3 : Int32) (x4 : Int32) (t0 : Int32) (t1 : Int32)  (hf : fX4_leastBehind_b93 sf_6 σ x1 x2 x3 x4 t0 t1 = some (rr, ρ)) : Gw p l e rm_X4_leastBehind s m args below meth c (MQ below (QcI dC dI ad cy sz rr ρ) args s 0 0 (AW ad sz)) dC dI ad cy 6 sz 0 0 93 [(0, .ref (ad 55)), (1, .int x1), (2, .int x2), (3, .int x3), (4, .int x4)] [.int t0, .int t1] σ := by
  unfold fX4_leastBehind_b93 at hf
  rcases oi_e hf with ⟨c1, hf⟩ | ⟨c1, hf⟩
  · refine g_icmp_ge_t (tgt := 99) C dX4_leastBehind_93 (by decide) c1 ?_
    exact g_sub [0, 1, 2, 3, 4] rfl (fX4_leastBehind_b99_ok C sf_6 hs_6 σ x1 x2 x3 x4 hf)
  · refine g_icmp_ge_f (tgt := 99) C dX4_leastBehind_93 (by decide) c1 ?_
    refine g_iload C dX4_leastBehind_96 4 rfl ?_
    refine g_istore_n (lv2 := [(0, .ref (ad 55)), (1, .int x1), (2, .int x2), (3, .int x4), (4, .int x4)]) C dX4_leastBehind_98 rfl (by decide) [1, 2, 3, 0, 4] rfl ?_
    exact g_sub [0, 1, 2, 3, 4] rfl (fX4_leastBehind_b99_ok C sf_6 hs_6 σ x1 x2 x4 x4 hf)
def fX4_leastBehind_b58 (sf_6 : S0 → Int32 → Int32 → Int32 → Int32 → Option (Int32 × S0)) (σ : S0) (x1 : Int32) (x2 : Int32) (x3 : Int32) (x4 : Int32) (t0 : Int32) : Option (Int32 × S0) := if t0 = 0 then (fX4_leastBehind_b99 sf_6 σ x1 x2 x3 x4) else (og (¬ (x1 < 0 ∨ 12 ≤ x1.toNatClampNeg)) (ol (57 + 1 * x1.toNatClampNeg) (fun q3 => og (¬ (x4 < 0 ∨ 12 ≤ x4.toNatClampNeg)) (ol (σ q3 x4.toNatClampNeg) (fun v5 => if ¬ x3 = ((-4)) then (og (¬ (x1 < 0 ∨ 12 ≤ x1.toNatClampNeg)) (ol (57 + 1 * x1.toNatClampNeg) (fun q8 => og (¬ (x3 < 0 ∨ 12 ≤ x3.toNatClampNeg)) (ol (σ q8 x3.toNatClampNeg) (fun v10 => fX4_leastBehind_b93 sf_6 σ x1 x2 x3 x4 v10 v5))))) else (fX4_leastBehind_b93 sf_6 σ x1 x2 x3 x4 1000000 v5))))))
set_option maxHeartbeats 1000000 in
set_option maxRecDepth 100000 in
theorem fX4_leastBehind_b58_ok {p : Program} {l : Launch} {e : Env} {s : State} {m : MethodId} {args : Array Value} {below : List Frame} {meth : Method} {c : Code} {dC : Nat → ClassId} {dI : Nat → Nat → Nat} {ad : Nat → Nat} {cy : Nat → ClassId} {sz : Nat} (C : Cx p s m args meth c RX4 cX4_leastBehind 6 (some .int) dC dI ad cy sz) {rr : Int32} {ρ : S0} (sf_6 : S0 → Int32 → Int32 → Int32 → Int32 → Option (Int32 × S0)) (hs_6 : ∀ (σ : S0) (x1 : Int32) (x2 : Int32) (x3 : Int32) (x4 : Int32) , sf_6 σ x1 x2 x3 x4 = some (rr, ρ) → Gw p l e rm_X4_leastBehind s m args below meth c (MQ below (QcI dC dI ad cy sz rr ρ) args s 0 0 (AW ad sz)) dC dI ad cy 6 sz 0 0 6 [(0, .ref (ad 55)), (1, .int x1), (2, .int x2), (3, .int x3), (4, .int x4)] [] σ) (σ : S0) (x1 : Int32) (x2 : Int32) (x3 : Int32) (x4 : Int32) (t0 : Int32)  (hf : fX4_leastBehind_b58 sf_6 σ x1 x2 x3 x4 t0 = some (rr, ρ)) : Gw p l e rm_X4_leastBehind s m args below meth c (MQ below (QcI dC dI ad cy sz rr ρ) args s 0 0 (AW ad sz)) dC dI ad cy 6 sz 0 0 58 [(0, .ref (ad 55)), (1, .int x1), (2, .int x2), (3, .int x3), (4, .int x4)] [.int t0] σ := by
  unfold fX4_leastBehind_b58 at hf
  refine g_istore (lv2 := [(0, .ref (ad 55)), (1, .int x1), (2, .int x2), (3, .int x3), (4, .int x4), (5, .int t0)]) C dX4_leastBehind_58 (by decide) [1, 2, 3, 4, 5, 0] rfl ?_
  refine g_iload C dX4_leastBehind_60 5 rfl ?_
  rcases oi_e hf with ⟨c1, hf⟩ | ⟨c1, hf⟩
  · refine g_if_eq_t (tgt := 99) C dX4_leastBehind_62 (by decide) c1 ?_
    exact g_sub [0, 1, 2, 3, 4] rfl (fX4_leastBehind_b99_ok C sf_6 hs_6 σ x1 x2 x3 x4 hf)
  · refine g_if_eq_f (tgt := 99) C dX4_leastBehind_62 (by decide) c1 ?_
    refine g_aload_n C dX4_leastBehind_65 rfl 0 rfl ?_
    refine g_get C (a_55 ad cy _) rfl hin_X4 2 (by decide) hF_X4_11 rfl rfl dX4_leastBehind_66 ?_
    refine g_iload_n C dX4_leastBehind_69 rfl 1 rfl ?_
    obtain ⟨h2, hf⟩ := og_e hf
    obtain ⟨q3, eq3, hf⟩ := ol_e hf
    refine g_aald C (a_56 ad cy _) rfl rfl h2 dX4_leastBehind_70 ?_
    refine g_nmr eq3 ?_
    have hq3 := (o_56 h2 eq3)
    refine g_iload C dX4_leastBehind_71 4 rfl ?_
    obtain ⟨h4, hf⟩ := og_e hf
    refine g_iald C (s_row hq3 ad cy _) h4 dX4_leastBehind_73 ?_
    obtain ⟨v5, ev5, hf⟩ := ol_e hf
    refine g_nm ev5 ?_
    refine g_iload_n C dX4_leastBehind_74 rfl 3 rfl ?_
    refine g_bipush (v := (-4)) C dX4_leastBehind_75 (by decide) ?_
    rcases oi_e hf with ⟨c6, hf⟩ | ⟨c6, hf⟩
    · refine g_icmp_ne_t (tgt := 85) C dX4_leastBehind_77 (by decide) c6 ?_
      refine g_aload_n C dX4_leastBehind_85 rfl 0 rfl ?_
      refine g_get C (a_55 ad cy _) rfl hin_X4 2 (by decide) hF_X4_11 rfl rfl dX4_leastBehind_86 ?_
      refine g_iload_n C dX4_leastBehind_89 rfl 1 rfl ?_
      obtain ⟨h7, hf⟩ := og_e hf
      obtain ⟨q8, eq8, hf⟩ := ol_e hf
      refine g_aald C (a_56 ad cy _) rfl rfl h7 dX4_leastBehind_90 ?_
      refine g_nmr eq8 ?_
      have hq8 := (o_56 h7 eq8)
      refine g_iload_n C dX4_leastBehind_91 rfl 3 rfl ?_
      obtain ⟨h9, hf⟩ := og_e hf
      refine g_iald C (s_row hq8 ad cy _) h9 dX4_leastBehind_92 ?_
      obtain ⟨v10, ev10, hf⟩ := ol_e hf
      refine g_nm ev10 ?_
      exact g_sub [0, 1, 2, 3, 4] rfl (fX4_leastBehind_b93_ok C sf_6 hs_6 σ x1 x2 x3 x4 v10 v5 hf)
    · refine g_icmp_ne_f (tgt := 85) C dX4_leastBehind_77 (by decide) (Decidable.of_not_not c6) ?_
      refine g_ldc (v := 1000000) C dX4_leastBehind_80 hK_X4_48 ?_
      refine g_goto (tgt := 93) C dX4_leastBehind_82 (by decide) ?_
      exact g_sub [0, 1, 2, 3, 4] rfl (fX4_leastBehind_b93_ok C sf_6 hs_6 σ x1 x2 x3 x4 1000000 v5 hf)
def fX4_leastBehind_b53 (sf_6 : S0 → Int32 → Int32 → Int32 → Int32 → Option (Int32 × S0)) (σ : S0) (x1 : Int32) (x2 : Int32) (x3 : Int32) (x4 : Int32) : Option (Int32 × S0) := fX4_leastBehind_b58 sf_6 σ x1 x2 x3 x4 1
set_option maxHeartbeats 1000000 in
set_option maxRecDepth 100000 in
theorem fX4_leastBehind_b53_ok {p : Program} {l : Launch} {e : Env} {s : State} {m : MethodId} {args : Array Value} {below : List Frame} {meth : Method} {c : Code} {dC : Nat → ClassId} {dI : Nat → Nat → Nat} {ad : Nat → Nat} {cy : Nat → ClassId} {sz : Nat} (C : Cx p s m args meth c RX4 cX4_leastBehind 6 (some .int) dC dI ad cy sz) {rr : Int32} {ρ : S0} (sf_6 : S0 → Int32 → Int32 → Int32 → Int32 → Option (Int32 × S0)) (hs_6 : ∀ (σ : S0) (x1 : Int32) (x2 : Int32) (x3 : Int32) (x4 : Int32) , sf_6 σ x1 x2 x3 x4 = some (rr, ρ) → Gw p l e rm_X4_leastBehind s m args below meth c (MQ below (QcI dC dI ad cy sz rr ρ) args s 0 0 (AW ad sz)) dC dI ad cy 6 sz 0 0 6 [(0, .ref (ad 55)), (1, .int x1), (2, .int x2), (3, .int x3), (4, .int x4)] [] σ) (σ : S0) (x1 : Int32) (x2 : Int32) (x3 : Int32) (x4 : Int32)  (hf : fX4_leastBehind_b53 sf_6 σ x1 x2 x3 x4 = some (rr, ρ)) : Gw p l e rm_X4_leastBehind s m args below meth c (MQ below (QcI dC dI ad cy sz rr ρ) args s 0 0 (AW ad sz)) dC dI ad cy 6 sz 0 0 53 [(0, .ref (ad 55)), (1, .int x1), (2, .int x2), (3, .int x3), (4, .int x4)] [] σ := by
  unfold fX4_leastBehind_b53 at hf
  refine g_iconst (v := 1) C dX4_leastBehind_53 (by decide) ?_
  refine g_goto (tgt := 58) C dX4_leastBehind_54 (by decide) ?_
  exact g_sub [0, 1, 2, 3, 4] rfl (fX4_leastBehind_b58_ok C sf_6 hs_6 σ x1 x2 x3 x4 1 hf)
def fX4_leastBehind_b6 (sf_6 : S0 → Int32 → Int32 → Int32 → Int32 → Option (Int32 × S0)) (σ : S0) (x1 : Int32) (x2 : Int32) (x3 : Int32) (x4 : Int32) : Option (Int32 × S0) := if (σ 32 0) ≤ x4 then (some (x3, σ)) else (if x2 = ((-4)) then (fX4_leastBehind_b53 sf_6 σ x1 x2 x3 x4) else (og (¬ (x4 < 0 ∨ 12 ≤ x4.toNatClampNeg)) (ol (σ 33 x4.toNatClampNeg) (fun v4 => og (¬ (x2 < 0 ∨ 12 ≤ x2.toNatClampNeg)) (ol (σ 33 x2.toNatClampNeg) (fun v6 => obp (fX1_areFoes σ 32 v4 v6) (fun r7 σ8 => if ¬ r7 = 0 then (fX4_leastBehind_b58 sf_6 σ8 x1 x2 x3 x4 0) else (fX4_leastBehind_b53 sf_6 σ8 x1 x2 x3 x4))))))))
set_option maxHeartbeats 1000000 in
set_option maxRecDepth 100000 in
theorem fX4_leastBehind_b6_ok {p : Program} {l : Launch} {e : Env} {s : State} {m : MethodId} {args : Array Value} {below : List Frame} {meth : Method} {c : Code} {dC : Nat → ClassId} {dI : Nat → Nat → Nat} {ad : Nat → Nat} {cy : Nat → ClassId} {sz : Nat} (C : Cx p s m args meth c RX4 cX4_leastBehind 6 (some .int) dC dI ad cy sz) {rr : Int32} {ρ : S0} (sf_6 : S0 → Int32 → Int32 → Int32 → Int32 → Option (Int32 × S0)) (hs_6 : ∀ (σ : S0) (x1 : Int32) (x2 : Int32) (x3 : Int32) (x4 : Int32) , sf_6 σ x1 x2 x3 x4 = some (rr, ρ) → Gw p l e rm_X4_leastBehind s m args below meth c (MQ below (QcI dC dI ad cy sz rr ρ) args s 0 0 (AW ad sz)) dC dI ad cy 6 sz 0 0 6 [(0, .ref (ad 55)), (1, .int x1), (2, .int x2), (3, .int x3), (4, .int x4)] [] σ) (σ : S0) (x1 : Int32) (x2 : Int32) (x3 : Int32) (x4 : Int32)  (hf : fX4_leastBehind_b6 sf_6 σ x1 x2 x3 x4 = some (rr, ρ)) : Gw p l e rm_X4_leastBehind s m args below meth c (MQ below (QcI dC dI ad cy sz rr ρ) args s 0 0 (AW ad sz)) dC dI ad cy 6 sz 0 0 6 [(0, .ref (ad 55)), (1, .int x1), (2, .int x2), (3, .int x3), (4, .int x4)] [] σ := by
  unfold fX4_leastBehind_b6 at hf
  refine g_iload C dX4_leastBehind_6 4 rfl ?_
  refine g_aload_n C dX4_leastBehind_8 rfl 0 rfl ?_
  refine g_get C (a_55 ad cy _) rfl hin_X4 1 (by decide) hF_X4_30 rfl rfl dX4_leastBehind_9 ?_
  refine g_get C (a_32 ad cy _) rfl hin_X1 0 (by decide) hF_X4_34 rfl rfl dX4_leastBehind_12 ?_
  rcases oi_e hf with ⟨c1, hf⟩ | ⟨c1, hf⟩
  · refine g_icmp_ge_t (tgt := 105) C dX4_leastBehind_15 (by decide) c1 ?_
    refine g_iload_n C dX4_leastBehind_105 rfl 3 rfl ?_
    obtain ⟨rfl, rfl⟩ := os_e hf
    exact g_iret C rfl dX4_leastBehind_106
  · refine g_icmp_ge_f (tgt := 105) C dX4_leastBehind_15 (by decide) c1 ?_
    refine g_iload_n C dX4_leastBehind_18 rfl 2 rfl ?_
    refine g_bipush (v := (-4)) C dX4_leastBehind_19 (by decide) ?_
    rcases oi_e hf with ⟨c2, hf⟩ | ⟨c2, hf⟩
    · refine g_icmp_eq_t (tgt := 53) C dX4_leastBehind_21 (by decide) c2 ?_
      exact g_sub [0, 1, 2, 3, 4] rfl (fX4_leastBehind_b53_ok C sf_6 hs_6 σ x1 x2 x3 x4 hf)
    · refine g_icmp_eq_f (tgt := 53) C dX4_leastBehind_21 (by decide) c2 ?_
      refine g_aload_n C dX4_leastBehind_24 rfl 0 rfl ?_
      refine g_get C (a_55 ad cy _) rfl hin_X4 1 (by decide) hF_X4_30 rfl rfl dX4_leastBehind_25 ?_
      refine g_aload_n C dX4_leastBehind_28 rfl 0 rfl ?_
      refine g_get C (a_55 ad cy _) rfl hin_X4 1 (by decide) hF_X4_30 rfl rfl dX4_leastBehind_29 ?_
      refine g_get C (a_32 ad cy _) rfl hin_X1 1 (by decide) hF_X4_64 rfl rfl dX4_leastBehind_32 ?_
      refine g_iload C dX4_leastBehind_35 4 rfl ?_
      obtain ⟨h3, hf⟩ := og_e hf
      refine g_iald C (a_33 ad cy _) h3 dX4_leastBehind_37 ?_
      obtain ⟨v4, ev4, hf⟩ := ol_e hf
      refine g_nm ev4 ?_
      refine g_aload_n C dX4_leastBehind_38 rfl 0 rfl ?_
      refine g_get C (a_55 ad cy _) rfl hin_X4 1 (by decide) hF_X4_30 rfl rfl dX4_leastBehind_39 ?_
      refine g_get C (a_32 ad cy _) rfl hin_X1 1 (by decide) hF_X4_64 rfl rfl dX4_leastBehind_42 ?_
      refine g_iload_n C dX4_leastBehind_45 rfl 2 rfl ?_
      obtain ⟨h5, hf⟩ := og_e hf
      refine g_iald C (a_33 ad cy _) h5 dX4_leastBehind_46 ?_
      obtain ⟨v6, ev6, hf⟩ := ol_e hf
      refine g_nm ev6 ?_
      obtain ⟨r7, σ8, h9, hf⟩ := obp_e hf
      refine g_callVi (As := [.int v4, .int v6]) (rest := []) C (a_32 ad cy _) rfl (c_X1_areFoes l dC dI ad cy 32 k_isChimes_32 v4 v6) h9 hM_X4_67 cal_X1_areFoes ⟨Nat.zero_le _, Nat.zero_le _⟩ ⟨rfl, rfl⟩ ⟨Nat.le_of_ble_eq_true rfl, Nat.le_of_ble_eq_true rfl⟩ rfl rfl (Nat.le_of_ble_eq_true rfl) dX4_leastBehind_47 ?_
      rcases oi_e hf with ⟨c10, hf⟩ | ⟨c10, hf⟩
      · refine g_if_ne_t (tgt := 57) C dX4_leastBehind_50 (by decide) c10 ?_
        refine g_iconst (v := 0) C dX4_leastBehind_57 (by decide) ?_
        exact g_sub [0, 1, 2, 3, 4] rfl (fX4_leastBehind_b58_ok C sf_6 hs_6 σ8 x1 x2 x3 x4 0 hf)
      · refine g_if_ne_f (tgt := 57) C dX4_leastBehind_50 (by decide) (Decidable.of_not_not c10) ?_
        exact g_sub [0, 1, 2, 3, 4] rfl (fX4_leastBehind_b53_ok C sf_6 hs_6 σ8 x1 x2 x3 x4 hf)
def fX4_leastBehind_h6  : Nat → S0 → Int32 → Int32 → Int32 → Int32 → Option (Int32 × S0)
  | 0 => fun _ _ _ _ _ => none
  | n + 1 => fun σ x1 x2 x3 x4 => fX4_leastBehind_b6  (fX4_leastBehind_h6  n) σ x1 x2 x3 x4
set_option maxHeartbeats 1000000 in
set_option maxRecDepth 100000 in
theorem fX4_leastBehind_h6_ok {p : Program} {l : Launch} {e : Env} {s : State} {m : MethodId} {args : Array Value} {below : List Frame} {meth : Method} {c : Code} {dC : Nat → ClassId} {dI : Nat → Nat → Nat} {ad : Nat → Nat} {cy : Nat → ClassId} {sz : Nat} (C : Cx p s m args meth c RX4 cX4_leastBehind 6 (some .int) dC dI ad cy sz) {rr : Int32} {ρ : S0}  : ∀ (n : Nat) (σ : S0) (x1 : Int32) (x2 : Int32) (x3 : Int32) (x4 : Int32)  (_hf : fX4_leastBehind_h6  n σ x1 x2 x3 x4 = some (rr, ρ)), Gw p l e rm_X4_leastBehind s m args below meth c (MQ below (QcI dC dI ad cy sz rr ρ) args s 0 0 (AW ad sz)) dC dI ad cy 6 sz 0 0 6 [(0, .ref (ad 55)), (1, .int x1), (2, .int x2), (3, .int x3), (4, .int x4)] [] σ
  | 0, _, _, _, _, _, hf => by cases hf
  | n + 1, σ, x1, x2, x3, x4, hf => fX4_leastBehind_b6_ok C  (fX4_leastBehind_h6  n) (fX4_leastBehind_h6_ok C  n) σ x1 x2 x3 x4 hf
def fX4_leastBehind (σ : S0) (x1 : Int32) (x2 : Int32) : Option (Int32 × S0) := fX4_leastBehind_h6 400 σ x1 x2 ((-4)) 0
set_option maxHeartbeats 1000000 in
set_option maxRecDepth 100000 in
theorem fX4_leastBehind_ok {p : Program} {l : Launch} {e : Env} {s : State} {m : MethodId} {args : Array Value} {below : List Frame} {meth : Method} {c : Code} {dC : Nat → ClassId} {dI : Nat → Nat → Nat} {ad : Nat → Nat} {cy : Nat → ClassId} {sz : Nat} (C : Cx p s m args meth c RX4 cX4_leastBehind 6 (some .int) dC dI ad cy sz) {rr : Int32} {ρ : S0} (σ : S0) (x1 : Int32) (x2 : Int32)  (hf : fX4_leastBehind σ x1 x2 = some (rr, ρ)) : Gw p l e rm_X4_leastBehind s m args below meth c (MQ below (QcI dC dI ad cy sz rr ρ) args s 0 0 (AW ad sz)) dC dI ad cy 6 sz 0 0 0 [(0, .ref (ad 55)), (1, .int x1), (2, .int x2)] [] σ := by
  unfold fX4_leastBehind at hf
  refine g_bipush (v := (-4)) C dX4_leastBehind_0 (by decide) ?_
  refine g_istore_n (lv2 := [(0, .ref (ad 55)), (1, .int x1), (2, .int x2), (3, .int ((-4)))]) C dX4_leastBehind_2 rfl (by decide) [1, 2, 3, 0] rfl ?_
  refine g_iconst (v := 0) C dX4_leastBehind_3 (by decide) ?_
  refine g_istore (lv2 := [(0, .ref (ad 55)), (1, .int x1), (2, .int x2), (3, .int ((-4))), (4, .int 0)]) C dX4_leastBehind_4 (by decide) [1, 2, 3, 4, 0] rfl ?_
  exact g_sub [0, 1, 2, 3, 4] rfl (fX4_leastBehind_h6_ok C 400 σ x1 x2 ((-4)) 0 hf)
theorem c_X4_leastBehind (l : Launch) (dC : Nat → ClassId) (dI : Nat → Nat → Nat) (ad : Nat → Nat) (cy : Nat → ClassId) (x1 : Int32) (x2 : Int32) : ConI l yX4_leastBehind cX4_leastBehind 6 (some .int) rm_X4_leastBehind dC dI ad cy [.ref (ad 55), .int x1, .int x2] (fun σ => fX4_leastBehind σ x1 x2) := con_i (own := RX4) (by decide) rfl (Nat.le_of_ble_eq_true rfl) (fun _ _ _ _ _ _ _ _ σ _ _ C hf => fX4_leastBehind_ok C σ x1 x2 hf)
theorem cal_X4_leastBehind : CalV yX4_leastBehind RX4 cX4_leastBehind 6 (some .int) 2 := ⟨hI_X4_leastBehind, hS_X4_leastBehind, hIni_X4, hC_X4_leastBehind, by decide +kernel⟩
abbrev rm_X4_farFrom : Room := { frames := 2, cells := 0, slots := 0, locals := 47 }
def fX4_farFrom (σ : S0) (x1 : Int32) (x2 : Int32) (x3 : Int32) (x4 : Int32) : Option (Int32 × S0) := if x3 = x4 then (some (1000000, σ)) else (og (¬ (x3 < 0 ∨ 12 ≤ x3.toNatClampNeg)) (ol (σ 36 x3.toNatClampNeg) (fun v3 => if v3 = 0 then (og (¬ (x1 < 0 ∨ 6 ≤ x1.toNatClampNeg)) (ol (26 + 1 * x1.toNatClampNeg) (fun q6 => og (¬ (x2 < 0 ∨ 12 ≤ x2.toNatClampNeg)) (ol (σ q6 x2.toNatClampNeg) (fun v8 => ol (x3 - v8) (fun v9 => ol (if 0 ≤ v9 then v9 else 0 - v9) (fun v10 => og (¬ (x1 < 0 ∨ 6 ≤ x1.toNatClampNeg)) (ol (σ 24 x1.toNatClampNeg) (fun v12 => if (x2 + 1) < v12 then (obp (fX4_leastBehind σ (x2 + 1) x3) (fun r14 σ15 => if ¬ r14 = ((-4)) then (ol (x2 + 1) (fun v18 => og (¬ (v18 < 0 ∨ 12 ≤ v18.toNatClampNeg)) (ol (57 + 1 * v18.toNatClampNeg) (fun q20 => og (¬ (r14 < 0 ∨ 12 ≤ r14.toNatClampNeg)) (ol (σ15 q20 r14.toNatClampNeg) (fun v22 => some (v10 + v22, σ15))))))) else (some (1000000, σ15)))) else (some (v10, σ))))))))))) else (some (1000000, σ)))))
set_option maxHeartbeats 1000000 in
set_option maxRecDepth 100000 in
theorem fX4_farFrom_ok {p : Program} {l : Launch} {e : Env} {s : State} {m : MethodId} {args : Array Value} {below : List Frame} {meth : Method} {c : Code} {dC : Nat → ClassId} {dI : Nat → Nat → Nat} {ad : Nat → Nat} {cy : Nat → ClassId} {sz : Nat} (C : Cx p s m args meth c RX4 cX4_farFrom 7 (some .int) dC dI ad cy sz) {rr : Int32} {ρ : S0} (σ : S0) (x1 : Int32) (x2 : Int32) (x3 : Int32) (x4 : Int32)  (hf : fX4_farFrom σ x1 x2 x3 x4 = some (rr, ρ)) : Gw p l e rm_X4_farFrom s m args below meth c (MQ below (QcI dC dI ad cy sz rr ρ) args s 0 0 (AW ad sz)) dC dI ad cy 7 sz 0 0 0 [(0, .ref (ad 55)), (1, .int x1), (2, .int x2), (3, .int x3), (4, .int x4)] [] σ := by
  unfold fX4_farFrom at hf
  refine g_iload_n C dX4_farFrom_0 rfl 3 rfl ?_
  refine g_iload C dX4_farFrom_1 4 rfl ?_
  rcases oi_e hf with ⟨c1, hf⟩ | ⟨c1, hf⟩
  · refine g_icmp_eq_t (tgt := 18) C dX4_farFrom_3 (by decide) c1 ?_
    refine g_ldc (v := 1000000) C dX4_farFrom_18 hK_X4_48 ?_
    obtain ⟨rfl, rfl⟩ := os_e hf
    exact g_iret C rfl dX4_farFrom_20
  · refine g_icmp_eq_f (tgt := 18) C dX4_farFrom_3 (by decide) c1 ?_
    refine g_aload_n C dX4_farFrom_6 rfl 0 rfl ?_
    refine g_get C (a_55 ad cy _) rfl hin_X4 1 (by decide) hF_X4_30 rfl rfl dX4_farFrom_7 ?_
    refine g_get C (a_32 ad cy _) rfl hin_X1 4 (by decide) hF_X4_52 rfl rfl dX4_farFrom_10 ?_
    refine g_iload_n C dX4_farFrom_13 rfl 3 rfl ?_
    obtain ⟨h2, hf⟩ := og_e hf
    refine g_iald C (a_36 ad cy _) h2 dX4_farFrom_14 ?_
    obtain ⟨v3, ev3, hf⟩ := ol_e hf
    refine g_nm ev3 ?_
    rcases oi_e hf with ⟨c4, hf⟩ | ⟨c4, hf⟩
    · refine g_if_eq_t (tgt := 21) C dX4_farFrom_15 (by decide) c4 ?_
      refine g_iload_n C dX4_farFrom_21 rfl 3 rfl ?_
      refine g_aload_n C dX4_farFrom_22 rfl 0 rfl ?_
      refine g_get C (a_55 ad cy _) rfl hin_X4 0 (by decide) hF_X4_20 rfl rfl dX4_farFrom_23 ?_
      refine g_get C (a_22 ad cy _) rfl hin_X9 5 (by decide) hF_X4_55 rfl rfl dX4_farFrom_26 ?_
      refine g_iload_n C dX4_farFrom_29 rfl 1 rfl ?_
      obtain ⟨h5, hf⟩ := og_e hf
      obtain ⟨q6, eq6, hf⟩ := ol_e hf
      refine g_aald C (a_25 ad cy _) rfl rfl h5 dX4_farFrom_30 ?_
      refine g_nmr eq6 ?_
      have hq6 := (o_25 h5 eq6)
      refine g_iload_n C dX4_farFrom_31 rfl 2 rfl ?_
      obtain ⟨h7, hf⟩ := og_e hf
      refine g_iald C (s_row hq6 ad cy _) h7 dX4_farFrom_32 ?_
      obtain ⟨v8, ev8, hf⟩ := ol_e hf
      refine g_nm ev8 ?_
      refine g_isub C dX4_farFrom_33 ?_
      obtain ⟨v9, ev9, hf⟩ := ol_e hf
      refine g_nm ev9 ?_
      refine g_abs C hM_X4_58 hSt_J9_abs_0f7a4 hC_J9_abs_0f7a4 ⟨Nat.zero_le _, Nat.zero_le _⟩ ⟨Nat.le_of_ble_eq_true rfl, Nat.le_of_ble_eq_true rfl⟩ dX4_farFrom_34 ?_
      obtain ⟨v10, ev10, hf⟩ := ol_e hf
      refine g_nm ev10 ?_
      refine g_istore (lv2 := [(0, .ref (ad 55)), (1, .int x1), (2, .int x2), (3, .int x3), (4, .int x4), (5, .int v10)]) C dX4_farFrom_37 (by decide) [1, 2, 3, 4, 5, 0] rfl ?_
      refine g_iload_n C dX4_farFrom_39 rfl 2 rfl ?_
      refine g_iconst (v := 1) C dX4_farFrom_40 (by decide) ?_
      refine g_iadd C dX4_farFrom_41 ?_
      refine g_aload_n C dX4_farFrom_42 rfl 0 rfl ?_
      refine g_get C (a_55 ad cy _) rfl hin_X4 0 (by decide) hF_X4_20 rfl rfl dX4_farFrom_43 ?_
      refine g_get C (a_22 ad cy _) rfl hin_X9 4 (by decide) hF_X4_31 rfl rfl dX4_farFrom_46 ?_
      refine g_iload_n C dX4_farFrom_49 rfl 1 rfl ?_
      obtain ⟨h11, hf⟩ := og_e hf
      refine g_iald C (a_24 ad cy _) h11 dX4_farFrom_50 ?_
      obtain ⟨v12, ev12, hf⟩ := ol_e hf
      refine g_nm ev12 ?_
      rcases oi_e hf with ⟨c13, hf⟩ | ⟨c13, hf⟩
      · refine g_icmp_lt_t (tgt := 57) C dX4_farFrom_51 (by decide) c13 ?_
        refine g_aload_n C dX4_farFrom_57 rfl 0 rfl ?_
        refine g_iload_n C dX4_farFrom_58 rfl 2 rfl ?_
        refine g_iconst (v := 1) C dX4_farFrom_59 (by decide) ?_
        refine g_iadd C dX4_farFrom_60 ?_
        refine g_iload_n C dX4_farFrom_61 rfl 3 rfl ?_
        obtain ⟨r14, σ15, h16, hf⟩ := obp_e hf
        refine g_callVi (As := [.int (x2 + 1), .int x3]) (rest := []) C (a_55 ad cy _) rfl (c_X4_leastBehind l dC dI ad cy (x2 + 1) x3) h16 hM_X4_44 cal_X4_leastBehind ⟨Nat.zero_le _, Nat.zero_le _⟩ ⟨rfl, rfl⟩ ⟨Nat.le_of_ble_eq_true rfl, Nat.le_of_ble_eq_true rfl⟩ rfl rfl (Nat.le_of_ble_eq_true rfl) dX4_farFrom_62 ?_
        refine g_istore (lv2 := [(0, .ref (ad 55)), (1, .int x1), (2, .int x2), (3, .int x3), (4, .int x4), (5, .int v10), (6, .int r14)]) C dX4_farFrom_65 (by decide) [1, 2, 3, 4, 5, 6, 0] rfl ?_
        refine g_iload C dX4_farFrom_67 6 rfl ?_
        refine g_bipush (v := (-4)) C dX4_farFrom_69 (by decide) ?_
        rcases oi_e hf with ⟨c17, hf⟩ | ⟨c17, hf⟩
        · refine g_icmp_ne_t (tgt := 79) C dX4_farFrom_71 (by decide) c17 ?_
          refine g_iload C dX4_farFrom_79 5 rfl ?_
          refine g_aload_n C dX4_farFrom_81 rfl 0 rfl ?_
          refine g_get C (a_55 ad cy _) rfl hin_X4 2 (by decide) hF_X4_11 rfl rfl dX4_farFrom_82 ?_
          refine g_iload_n C dX4_farFrom_85 rfl 2 rfl ?_
          refine g_iconst (v := 1) C dX4_farFrom_86 (by decide) ?_
          refine g_iadd C dX4_farFrom_87 ?_
          obtain ⟨v18, ev18, hf⟩ := ol_e hf
          refine g_nm ev18 ?_
          obtain ⟨h19, hf⟩ := og_e hf
          obtain ⟨q20, eq20, hf⟩ := ol_e hf
          refine g_aald C (a_56 ad cy _) rfl rfl h19 dX4_farFrom_88 ?_
          refine g_nmr eq20 ?_
          have hq20 := (o_56 h19 eq20)
          refine g_iload C dX4_farFrom_89 6 rfl ?_
          obtain ⟨h21, hf⟩ := og_e hf
          refine g_iald C (s_row hq20 ad cy _) h21 dX4_farFrom_91 ?_
          obtain ⟨v22, ev22, hf⟩ := ol_e hf
          refine g_nm ev22 ?_
          refine g_iadd C dX4_farFrom_92 ?_
          obtain ⟨rfl, rfl⟩ := os_e hf
          exact g_iret C rfl dX4_farFrom_93
        · refine g_icmp_ne_f (tgt := 79) C dX4_farFrom_71 (by decide) (Decidable.of_not_not c17) ?_
          refine g_ldc (v := 1000000) C dX4_farFrom_74 hK_X4_48 ?_
          refine g_goto (tgt := 93) C dX4_farFrom_76 (by decide) ?_
          obtain ⟨rfl, rfl⟩ := os_e hf
          exact g_iret C rfl dX4_farFrom_93
      · refine g_icmp_lt_f (tgt := 57) C dX4_farFrom_51 (by decide) c13 ?_
        refine g_iload C dX4_farFrom_54 5 rfl ?_
        obtain ⟨rfl, rfl⟩ := os_e hf
        exact g_iret C rfl dX4_farFrom_56
    · refine g_if_eq_f (tgt := 21) C dX4_farFrom_15 (by decide) c4 ?_
      refine g_ldc (v := 1000000) C dX4_farFrom_18 hK_X4_48 ?_
      obtain ⟨rfl, rfl⟩ := os_e hf
      exact g_iret C rfl dX4_farFrom_20
theorem c_X4_farFrom (l : Launch) (dC : Nat → ClassId) (dI : Nat → Nat → Nat) (ad : Nat → Nat) (cy : Nat → ClassId) (x1 : Int32) (x2 : Int32) (x3 : Int32) (x4 : Int32) : ConI l yX4_farFrom cX4_farFrom 7 (some .int) rm_X4_farFrom dC dI ad cy [.ref (ad 55), .int x1, .int x2, .int x3, .int x4] (fun σ => fX4_farFrom σ x1 x2 x3 x4) := con_i (own := RX4) (by decide) rfl (Nat.le_of_ble_eq_true rfl) (fun _ _ _ _ _ _ _ _ σ _ _ C hf => fX4_farFrom_ok C σ x1 x2 x3 x4 hf)
theorem cal_X4_farFrom : CalV yX4_farFrom RX4 cX4_farFrom 7 (some .int) 4 := ⟨hI_X4_farFrom, hS_X4_farFrom, hIni_X4, hC_X4_farFrom, by decide +kernel⟩
abbrev rm_X4_find : Room := { frames := 3, cells := 0, slots := 0, locals := 73 }
def fX4_find_b112 (sf_112 : S0 → Int32 → Int32 → Option (Int32 × S0)) (σ : S0) (x3 : Int32) (x5 : Int32) : Option (Int32 × S0) := if x3 ≤ x5 then (some (0, σ)) else (ol (x5 - 1) (fun v2 => og (¬ (v2 < 0 ∨ 12 ≤ v2.toNatClampNeg)) (ol (σ 69 v2.toNatClampNeg) (fun v4 => obp (fX4_leastBehind σ x5 v4) (fun r5 σ6 => og (¬ (x5 < 0 ∨ 12 ≤ x5.toNatClampNeg)) (ol (su σ6 69 x5.toNatClampNeg r5) (fun σ9 => ol (x5 + 1) (fun v10 => sf_112 σ9 x3 v10))))))))
set_option maxHeartbeats 1000000 in
set_option maxRecDepth 100000 in
theorem fX4_find_b112_ok {p : Program} {l : Launch} {e : Env} {s : State} {m : MethodId} {args : Array Value} {below : List Frame} {meth : Method} {c : Code} {dC : Nat → ClassId} {dI : Nat → Nat → Nat} {ad : Nat → Nat} {cy : Nat → ClassId} {sz : Nat} (C : Cx p s m args meth c RX4 cX4_find 6 none dC dI ad cy sz) {rr : Int32} {ρ : S0} (sf_112 : S0 → Int32 → Int32 → Option (Int32 × S0)) (hs_112 : ∀ (σ : S0) (x3 : Int32) (x5 : Int32) , sf_112 σ x3 x5 = some (rr, ρ) → Gw p l e rm_X4_find s m args below meth c (MQ below (QcV dC dI ad cy sz ρ) args s 0 0 (AW ad sz)) dC dI ad cy 6 sz 0 0 112 [(0, .ref (ad 55)), (3, .int x3), (5, .int x5)] [] σ) (σ : S0) (x3 : Int32) (x5 : Int32)  (hf : fX4_find_b112 sf_112 σ x3 x5 = some (rr, ρ)) : Gw p l e rm_X4_find s m args below meth c (MQ below (QcV dC dI ad cy sz ρ) args s 0 0 (AW ad sz)) dC dI ad cy 6 sz 0 0 112 [(0, .ref (ad 55)), (3, .int x3), (5, .int x5)] [] σ := by
  unfold fX4_find_b112 at hf
  refine g_iload C dX4_find_112 2 rfl ?_
  refine g_iload_n C dX4_find_114 rfl 1 rfl ?_
  rcases oi_e hf with ⟨c1, hf⟩ | ⟨c1, hf⟩
  · refine g_icmp_ge_t (tgt := 146) C dX4_find_115 (by decide) c1 ?_
    obtain ⟨rfl, rfl⟩ := os_e hf
    exact g_vret C rfl dX4_find_146
  · refine g_icmp_ge_f (tgt := 146) C dX4_find_115 (by decide) c1 ?_
    refine g_aload_n C dX4_find_118 rfl 0 rfl ?_
    refine g_get C (a_55 ad cy _) rfl hin_X4 3 (by decide) hF_X4_16 rfl rfl dX4_find_119 ?_
    refine g_iload C dX4_find_122 2 rfl ?_
    refine g_aload_n C dX4_find_124 rfl 0 rfl ?_
    refine g_iload C dX4_find_125 2 rfl ?_
    refine g_aload_n C dX4_find_127 rfl 0 rfl ?_
    refine g_get C (a_55 ad cy _) rfl hin_X4 3 (by decide) hF_X4_16 rfl rfl dX4_find_128 ?_
    refine g_iload C dX4_find_131 2 rfl ?_
    refine g_iconst (v := 1) C dX4_find_133 (by decide) ?_
    refine g_isub C dX4_find_134 ?_
    obtain ⟨v2, ev2, hf⟩ := ol_e hf
    refine g_nm ev2 ?_
    obtain ⟨h3, hf⟩ := og_e hf
    refine g_iald C (a_69 ad cy _) h3 dX4_find_135 ?_
    obtain ⟨v4, ev4, hf⟩ := ol_e hf
    refine g_nm ev4 ?_
    obtain ⟨r5, σ6, h7, hf⟩ := obp_e hf
    refine g_callVi (As := [.int x5, .int v4]) (rest := [.int x5, .ref (ad 69)]) C (a_55 ad cy _) rfl (c_X4_leastBehind l dC dI ad cy x5 v4) h7 hM_X4_44 cal_X4_leastBehind ⟨Nat.zero_le _, Nat.zero_le _⟩ ⟨rfl, rfl⟩ ⟨Nat.le_of_ble_eq_true rfl, Nat.le_of_ble_eq_true rfl⟩ rfl rfl (Nat.le_of_ble_eq_true rfl) dX4_find_136 ?_
    obtain ⟨h8, hf⟩ := og_e hf
    obtain ⟨σ9, eσ9, hf⟩ := ol_e hf
    refine g_iast C (a_69 ad cy _) h8 (w_69 ad cy _) eσ9 dX4_find_139 ?_
    obtain ⟨v10, ev10, hf⟩ := ol_e hf
    refine g_iinc (j := 2) (w := 1) (lv2 := [(0, .ref (ad 55)), (3, .int x3), (5, .int v10)]) C dX4_find_140 rfl (by decide) ev10 (by decide) [1, 2, 0] rfl ?_
    refine g_goto (tgt := 112) C dX4_find_143 (by decide) ?_
    exact g_sub [0, 1, 2] rfl (hs_112 σ9 x3 v10 hf)
def fX4_find_h112  : Nat → S0 → Int32 → Int32 → Option (Int32 × S0)
  | 0 => fun _ _ _ => none
  | n + 1 => fun σ x3 x5 => fX4_find_b112  (fX4_find_h112  n) σ x3 x5
set_option maxHeartbeats 1000000 in
set_option maxRecDepth 100000 in
theorem fX4_find_h112_ok {p : Program} {l : Launch} {e : Env} {s : State} {m : MethodId} {args : Array Value} {below : List Frame} {meth : Method} {c : Code} {dC : Nat → ClassId} {dI : Nat → Nat → Nat} {ad : Nat → Nat} {cy : Nat → ClassId} {sz : Nat} (C : Cx p s m args meth c RX4 cX4_find 6 none dC dI ad cy sz) {rr : Int32} {ρ : S0}  : ∀ (n : Nat) (σ : S0) (x3 : Int32) (x5 : Int32)  (_hf : fX4_find_h112  n σ x3 x5 = some (rr, ρ)), Gw p l e rm_X4_find s m args below meth c (MQ below (QcV dC dI ad cy sz ρ) args s 0 0 (AW ad sz)) dC dI ad cy 6 sz 0 0 112 [(0, .ref (ad 55)), (3, .int x3), (5, .int x5)] [] σ
  | 0, _, _, _, hf => by cases hf
  | n + 1, σ, x3, x5, hf => fX4_find_b112_ok C  (fX4_find_h112  n) (fX4_find_h112_ok C  n) σ x3 x5 hf
def fX4_find_b98  (σ : S0) (x3 : Int32) (x4 : Int32) (t0 : Int32) : Option (Int32 × S0) := ol (su σ 55 4 t0) (fun σ1 => og (¬ (((0 : Int32)) < 0 ∨ 12 ≤ ((0 : Int32)).toNatClampNeg)) (ol (su σ1 69 ((0 : Int32)).toNatClampNeg x4) (fun σ3 => fX4_find_h112 400 σ3 x3 1)))
set_option maxHeartbeats 1000000 in
set_option maxRecDepth 100000 in
theorem fX4_find_b98_ok {p : Program} {l : Launch} {e : Env} {s : State} {m : MethodId} {args : Array Value} {below : List Frame} {meth : Method} {c : Code} {dC : Nat → ClassId} {dI : Nat → Nat → Nat} {ad : Nat → Nat} {cy : Nat → ClassId} {sz : Nat} (C : Cx p s m args meth c RX4 cX4_find 6 none dC dI ad cy sz) {rr : Int32} {ρ : S0}  (σ : S0) (x3 : Int32) (x4 : Int32) (t0 : Int32)  (hf : fX4_find_b98 σ x3 x4 t0 = some (rr, ρ)) : Gw p l e rm_X4_find s m args below meth c (MQ below (QcV dC dI ad cy sz ρ) args s 0 0 (AW ad sz)) dC dI ad cy 6 sz 0 0 98 [(0, .ref (ad 55)), (3, .int x3), (4, .int x4)] [.int t0, .ref (ad 55)] σ := by
  unfold fX4_find_b98 at hf
  obtain ⟨σ1, eσ1, hf⟩ := ol_e hf
  refine g_put (ty := .int) C (a_55 ad cy _) rfl hin_X4 tyX4 tyX4_ok nmX4 4 (by decide) hF_X4_49 rfl rfl (by decide +kernel) rfl rfl (Nat.le_of_ble_eq_true rfl) (p_55_4 ad cy _ _) eσ1 dX4_find_98 ?_
  refine g_aload_n C dX4_find_101 rfl 0 rfl ?_
  refine g_get C (a_55 ad cy _) rfl hin_X4 3 (by decide) hF_X4_16 rfl rfl dX4_find_102 ?_
  refine g_iconst (v := 0) C dX4_find_105 (by decide) ?_
  refine g_iload C dX4_find_106 2 rfl ?_
  obtain ⟨h2, hf⟩ := og_e hf
  obtain ⟨σ3, eσ3, hf⟩ := ol_e hf
  refine g_iast C (a_69 ad cy _) h2 (w_69 ad cy _) eσ3 dX4_find_108 ?_
  refine g_iconst (v := 1) C dX4_find_109 (by decide) ?_
  refine g_istore (lv2 := [(0, .ref (ad 55)), (3, .int x3), (4, .int x4), (5, .int 1)]) C dX4_find_110 (by decide) [1, 2, 3, 0] rfl ?_
  exact g_sub [0, 1, 3] rfl (fX4_find_h112_ok C 400 σ3 x3 1 hf)
def fX4_find_b23 (sf_15 : S0 → Int32 → Int32 → Int32 → Int32 → Option (Int32 × S0)) (sf_23 : S0 → Int32 → Int32 → Int32 → Int32 → Int32 → Option (Int32 × S0)) (σ : S0) (x1 : Int32) (x2 : Int32) (x3 : Int32) (x4 : Int32) (x5 : Int32) : Option (Int32 × S0) := if (σ 32 0) ≤ x5 then (ol (x4 + (-1)) (fun v2 => sf_15 σ x1 x2 x3 v2)) else (og (¬ (x4 < 0 ∨ 12 ≤ x4.toNatClampNeg)) (ol (57 + 1 * x4.toNatClampNeg) (fun q4 => obp (fX4_farFrom σ x1 x4 x5 x2) (fun r5 σ6 => og (¬ (x5 < 0 ∨ 12 ≤ x5.toNatClampNeg)) (ol (su σ6 q4 x5.toNatClampNeg r5) (fun σ9 => ol (x5 + 1) (fun v10 => sf_23 σ9 x1 x2 x3 x4 v10)))))))
set_option maxHeartbeats 1000000 in
set_option maxRecDepth 100000 in
theorem fX4_find_b23_ok {p : Program} {l : Launch} {e : Env} {s : State} {m : MethodId} {args : Array Value} {below : List Frame} {meth : Method} {c : Code} {dC : Nat → ClassId} {dI : Nat → Nat → Nat} {ad : Nat → Nat} {cy : Nat → ClassId} {sz : Nat} (C : Cx p s m args meth c RX4 cX4_find 6 none dC dI ad cy sz) {rr : Int32} {ρ : S0} (sf_15 : S0 → Int32 → Int32 → Int32 → Int32 → Option (Int32 × S0)) (hs_15 : ∀ (σ : S0) (x1 : Int32) (x2 : Int32) (x3 : Int32) (x4 : Int32) , sf_15 σ x1 x2 x3 x4 = some (rr, ρ) → Gw p l e rm_X4_find s m args below meth c (MQ below (QcV dC dI ad cy sz ρ) args s 0 0 (AW ad sz)) dC dI ad cy 6 sz 0 0 15 [(0, .ref (ad 55)), (1, .int x1), (2, .int x2), (3, .int x3), (4, .int x4)] [] σ) (sf_23 : S0 → Int32 → Int32 → Int32 → Int32 → Int32 → Option (Int32 × S0)) (hs_23 : ∀ (σ : S0) (x1 : Int32) (x2 : Int32) (x3 : Int32) (x4 : Int32) (x5 : Int32) , sf_23 σ x1 x2 x3 x4 x5 = some (rr, ρ) → Gw p l e rm_X4_find s m args below meth c (MQ below (QcV dC dI ad cy sz ρ) args s 0 0 (AW ad sz)) dC dI ad cy 6 sz 0 0 23 [(0, .ref (ad 55)), (1, .int x1), (2, .int x2), (3, .int x3), (4, .int x4), (5, .int x5)] [] σ) (σ : S0) (x1 : Int32) (x2 : Int32) (x3 : Int32) (x4 : Int32) (x5 : Int32)  (hf : fX4_find_b23 sf_15 sf_23 σ x1 x2 x3 x4 x5 = some (rr, ρ)) : Gw p l e rm_X4_find s m args below meth c (MQ below (QcV dC dI ad cy sz ρ) args s 0 0 (AW ad sz)) dC dI ad cy 6 sz 0 0 23 [(0, .ref (ad 55)), (1, .int x1), (2, .int x2), (3, .int x3), (4, .int x4), (5, .int x5)] [] σ := by
  unfold fX4_find_b23 at hf
  refine g_iload C dX4_find_23 5 rfl ?_
  refine g_aload_n C dX4_find_25 rfl 0 rfl ?_
  refine g_get C (a_55 ad cy _) rfl hin_X4 1 (by decide) hF_X4_30 rfl rfl dX4_find_26 ?_
  refine g_get C (a_32 ad cy _) rfl hin_X1 0 (by decide) hF_X4_34 rfl rfl dX4_find_29 ?_
  rcases oi_e hf with ⟨c1, hf⟩ | ⟨c1, hf⟩
  · refine g_icmp_ge_t (tgt := 61) C dX4_find_32 (by decide) c1 ?_
    obtain ⟨v2, ev2, hf⟩ := ol_e hf
    refine g_iinc (j := 4) (w := (-1)) (lv2 := [(0, .ref (ad 55)), (1, .int x1), (2, .int x2), (3, .int x3), (4, .int v2), (5, .int x5)]) C dX4_find_61 rfl (by decide) ev2 (by decide) [1, 2, 3, 4, 0, 5] rfl ?_
    refine g_goto (tgt := 15) C dX4_find_64 (by decide) ?_
    exact g_sub [0, 1, 2, 3, 4] rfl (hs_15 σ x1 x2 x3 v2 hf)
  · refine g_icmp_ge_f (tgt := 61) C dX4_find_32 (by decide) c1 ?_
    refine g_aload_n C dX4_find_35 rfl 0 rfl ?_
    refine g_get C (a_55 ad cy _) rfl hin_X4 2 (by decide) hF_X4_11 rfl rfl dX4_find_36 ?_
    refine g_iload C dX4_find_39 4 rfl ?_
    obtain ⟨h3, hf⟩ := og_e hf
    obtain ⟨q4, eq4, hf⟩ := ol_e hf
    refine g_aald C (a_56 ad cy _) rfl rfl h3 dX4_find_41 ?_
    refine g_nmr eq4 ?_
    have hq4 := (o_56 h3 eq4)
    refine g_iload C dX4_find_42 5 rfl ?_
    refine g_aload_n C dX4_find_44 rfl 0 rfl ?_
    refine g_iload_n C dX4_find_45 rfl 1 rfl ?_
    refine g_iload C dX4_find_46 4 rfl ?_
    refine g_iload C dX4_find_48 5 rfl ?_
    refine g_iload_n C dX4_find_50 rfl 2 rfl ?_
    obtain ⟨r5, σ6, h7, hf⟩ := obp_e hf
    refine g_callVi (As := [.int x1, .int x4, .int x5, .int x2]) (rest := [.int x5, .ref (ad q4)]) C (a_55 ad cy _) rfl (c_X4_farFrom l dC dI ad cy x1 x4 x5 x2) h7 hM_X4_40 cal_X4_farFrom ⟨Nat.zero_le _, Nat.zero_le _⟩ ⟨rfl, rfl⟩ ⟨Nat.le_of_ble_eq_true rfl, Nat.le_of_ble_eq_true rfl⟩ rfl rfl (Nat.le_of_ble_eq_true rfl) dX4_find_51 ?_
    obtain ⟨h8, hf⟩ := og_e hf
    obtain ⟨σ9, eσ9, hf⟩ := ol_e hf
    refine g_iast C (s_row hq4 ad cy _) h8 (ws_row hq4 ad cy _) eσ9 dX4_find_54 ?_
    obtain ⟨v10, ev10, hf⟩ := ol_e hf
    refine g_iinc (j := 5) (w := 1) (lv2 := [(0, .ref (ad 55)), (1, .int x1), (2, .int x2), (3, .int x3), (4, .int x4), (5, .int v10)]) C dX4_find_55 rfl (by decide) ev10 (by decide) [1, 2, 3, 4, 5, 0] rfl ?_
    refine g_goto (tgt := 23) C dX4_find_58 (by decide) ?_
    exact g_sub [0, 1, 2, 3, 4, 5] rfl (hs_23 σ9 x1 x2 x3 x4 v10 hf)
def fX4_find_h23 (sf_15 : S0 → Int32 → Int32 → Int32 → Int32 → Option (Int32 × S0)) : Nat → S0 → Int32 → Int32 → Int32 → Int32 → Int32 → Option (Int32 × S0)
  | 0 => fun _ _ _ _ _ _ => none
  | n + 1 => fun σ x1 x2 x3 x4 x5 => fX4_find_b23 sf_15 (fX4_find_h23 sf_15 n) σ x1 x2 x3 x4 x5
set_option maxHeartbeats 1000000 in
set_option maxRecDepth 100000 in
theorem fX4_find_h23_ok {p : Program} {l : Launch} {e : Env} {s : State} {m : MethodId} {args : Array Value} {below : List Frame} {meth : Method} {c : Code} {dC : Nat → ClassId} {dI : Nat → Nat → Nat} {ad : Nat → Nat} {cy : Nat → ClassId} {sz : Nat} (C : Cx p s m args meth c RX4 cX4_find 6 none dC dI ad cy sz) {rr : Int32} {ρ : S0} (sf_15 : S0 → Int32 → Int32 → Int32 → Int32 → Option (Int32 × S0)) (hs_15 : ∀ (σ : S0) (x1 : Int32) (x2 : Int32) (x3 : Int32) (x4 : Int32) , sf_15 σ x1 x2 x3 x4 = some (rr, ρ) → Gw p l e rm_X4_find s m args below meth c (MQ below (QcV dC dI ad cy sz ρ) args s 0 0 (AW ad sz)) dC dI ad cy 6 sz 0 0 15 [(0, .ref (ad 55)), (1, .int x1), (2, .int x2), (3, .int x3), (4, .int x4)] [] σ) : ∀ (n : Nat) (σ : S0) (x1 : Int32) (x2 : Int32) (x3 : Int32) (x4 : Int32) (x5 : Int32)  (_hf : fX4_find_h23 sf_15 n σ x1 x2 x3 x4 x5 = some (rr, ρ)), Gw p l e rm_X4_find s m args below meth c (MQ below (QcV dC dI ad cy sz ρ) args s 0 0 (AW ad sz)) dC dI ad cy 6 sz 0 0 23 [(0, .ref (ad 55)), (1, .int x1), (2, .int x2), (3, .int x3), (4, .int x4), (5, .int x5)] [] σ
  | 0, _, _, _, _, _, _, hf => by cases hf
  | n + 1, σ, x1, x2, x3, x4, x5, hf => fX4_find_b23_ok C sf_15 hs_15 (fX4_find_h23 sf_15 n) (fX4_find_h23_ok C sf_15 hs_15 n) σ x1 x2 x3 x4 x5 hf
def fX4_find_b15 (sf_15 : S0 → Int32 → Int32 → Int32 → Int32 → Option (Int32 × S0)) (σ : S0) (x1 : Int32) (x2 : Int32) (x3 : Int32) (x4 : Int32) : Option (Int32 × S0) := if x4 < 0 then (obp (fX4_leastBehind σ ((0 : Int32)) (((-4) : Int32))) (fun r2 σ3 => if ¬ r2 = ((-4)) then (og (¬ (((0 : Int32)) < 0 ∨ 12 ≤ ((0 : Int32)).toNatClampNeg)) (ol (57 + 1 * ((0 : Int32)).toNatClampNeg) (fun q7 => og (¬ (r2 < 0 ∨ 12 ≤ r2.toNatClampNeg)) (ol (σ3 q7 r2.toNatClampNeg) (fun v9 => fX4_find_b98 σ3 x3 r2 v9))))) else (fX4_find_b98 σ3 x3 r2 1000000))) else (fX4_find_h23 sf_15 400 σ x1 x2 x3 x4 0)
set_option maxHeartbeats 1000000 in
set_option maxRecDepth 100000 in
theorem fX4_find_b15_ok {p : Program} {l : Launch} {e : Env} {s : State} {m : MethodId} {args : Array Value} {below : List Frame} {meth : Method} {c : Code} {dC : Nat → ClassId} {dI : Nat → Nat → Nat} {ad : Nat → Nat} {cy : Nat → ClassId} {sz : Nat} (C : Cx p s m args meth c RX4 cX4_find 6 none dC dI ad cy sz) {rr : Int32} {ρ : S0} (sf_15 : S0 → Int32 → Int32 → Int32 → Int32 → Option (Int32 × S0)) (hs_15 : ∀ (σ : S0) (x1 : Int32) (x2 : Int32) (x3 : Int32) (x4 : Int32) , sf_15 σ x1 x2 x3 x4 = some (rr, ρ) → Gw p l e rm_X4_find s m args below meth c (MQ below (QcV dC dI ad cy sz ρ) args s 0 0 (AW ad sz)) dC dI ad cy 6 sz 0 0 15 [(0, .ref (ad 55)), (1, .int x1), (2, .int x2), (3, .int x3), (4, .int x4)] [] σ) (σ : S0) (x1 : Int32) (x2 : Int32) (x3 : Int32) (x4 : Int32)  (hf : fX4_find_b15 sf_15 σ x1 x2 x3 x4 = some (rr, ρ)) : Gw p l e rm_X4_find s m args below meth c (MQ below (QcV dC dI ad cy sz ρ) args s 0 0 (AW ad sz)) dC dI ad cy 6 sz 0 0 15 [(0, .ref (ad 55)), (1, .int x1), (2, .int x2), (3, .int x3), (4, .int x4)] [] σ := by
  unfold fX4_find_b15 at hf
  refine g_iload C dX4_find_15 4 rfl ?_
  rcases oi_e hf with ⟨c1, hf⟩ | ⟨c1, hf⟩
  · refine g_if_lt_t (tgt := 67) C dX4_find_17 (by decide) c1 ?_
    refine g_aload_n C dX4_find_67 rfl 0 rfl ?_
    refine g_iconst (v := 0) C dX4_find_68 (by decide) ?_
    refine g_bipush (v := (-4)) C dX4_find_69 (by decide) ?_
    obtain ⟨r2, σ3, h4, hf⟩ := obp_e hf
    refine g_callVi (As := [.int 0, .int ((-4))]) (rest := []) C (a_55 ad cy _) rfl (c_X4_leastBehind l dC dI ad cy ((0 : Int32)) (((-4) : Int32))) h4 hM_X4_44 cal_X4_leastBehind ⟨Nat.zero_le _, Nat.zero_le _⟩ ⟨rfl, rfl⟩ ⟨Nat.le_of_ble_eq_true rfl, Nat.le_of_ble_eq_true rfl⟩ rfl rfl (Nat.le_of_ble_eq_true rfl) dX4_find_71 ?_
    refine g_istore (lv2 := [(0, .ref (ad 55)), (1, .int x1), (2, .int x2), (3, .int x3), (4, .int r2)]) C dX4_find_74 (by decide) [1, 2, 3, 4, 0] rfl ?_
    refine g_aload_n C dX4_find_76 rfl 0 rfl ?_
    refine g_iload C dX4_find_77 4 rfl ?_
    refine g_bipush (v := (-4)) C dX4_find_79 (by decide) ?_
    rcases oi_e hf with ⟨c5, hf⟩ | ⟨c5, hf⟩
    · refine g_icmp_ne_t (tgt := 89) C dX4_find_81 (by decide) c5 ?_
      refine g_aload_n C dX4_find_89 rfl 0 rfl ?_
      refine g_get C (a_55 ad cy _) rfl hin_X4 2 (by decide) hF_X4_11 rfl rfl dX4_find_90 ?_
      refine g_iconst (v := 0) C dX4_find_93 (by decide) ?_
      obtain ⟨h6, hf⟩ := og_e hf
      obtain ⟨q7, eq7, hf⟩ := ol_e hf
      refine g_aald C (a_56 ad cy _) rfl rfl h6 dX4_find_94 ?_
      refine g_nmr eq7 ?_
      have hq7 := (o_56 h6 eq7)
      refine g_iload C dX4_find_95 4 rfl ?_
      obtain ⟨h8, hf⟩ := og_e hf
      refine g_iald C (s_row hq7 ad cy _) h8 dX4_find_97 ?_
      obtain ⟨v9, ev9, hf⟩ := ol_e hf
      refine g_nm ev9 ?_
      exact g_sub [0, 3, 4] rfl (fX4_find_b98_ok C σ3 x3 r2 v9 hf)
    · refine g_icmp_ne_f (tgt := 89) C dX4_find_81 (by decide) (Decidable.of_not_not c5) ?_
      refine g_ldc (v := 1000000) C dX4_find_84 hK_X4_48 ?_
      refine g_goto (tgt := 98) C dX4_find_86 (by decide) ?_
      exact g_sub [0, 3, 4] rfl (fX4_find_b98_ok C σ3 x3 r2 1000000 hf)
  · refine g_if_lt_f (tgt := 67) C dX4_find_17 (by decide) c1 ?_
    refine g_iconst (v := 0) C dX4_find_20 (by decide) ?_
    refine g_istore (lv2 := [(0, .ref (ad 55)), (1, .int x1), (2, .int x2), (3, .int x3), (4, .int x4), (5, .int 0)]) C dX4_find_21 (by decide) [1, 2, 3, 4, 5, 0] rfl ?_
    exact g_sub [0, 1, 2, 3, 4, 5] rfl (fX4_find_h23_ok C sf_15 hs_15 400 σ x1 x2 x3 x4 0 hf)
def fX4_find_h15  : Nat → S0 → Int32 → Int32 → Int32 → Int32 → Option (Int32 × S0)
  | 0 => fun _ _ _ _ _ => none
  | n + 1 => fun σ x1 x2 x3 x4 => fX4_find_b15  (fX4_find_h15  n) σ x1 x2 x3 x4
set_option maxHeartbeats 1000000 in
set_option maxRecDepth 100000 in
theorem fX4_find_h15_ok {p : Program} {l : Launch} {e : Env} {s : State} {m : MethodId} {args : Array Value} {below : List Frame} {meth : Method} {c : Code} {dC : Nat → ClassId} {dI : Nat → Nat → Nat} {ad : Nat → Nat} {cy : Nat → ClassId} {sz : Nat} (C : Cx p s m args meth c RX4 cX4_find 6 none dC dI ad cy sz) {rr : Int32} {ρ : S0}  : ∀ (n : Nat) (σ : S0) (x1 : Int32) (x2 : Int32) (x3 : Int32) (x4 : Int32)  (_hf : fX4_find_h15  n σ x1 x2 x3 x4 = some (rr, ρ)), Gw p l e rm_X4_find s m args below meth c (MQ below (QcV dC dI ad cy sz ρ) args s 0 0 (AW ad sz)) dC dI ad cy 6 sz 0 0 15 [(0, .ref (ad 55)), (1, .int x1), (2, .int x2), (3, .int x3), (4, .int x4)] [] σ
  | 0, _, _, _, _, _, hf => by cases hf
  | n + 1, σ, x1, x2, x3, x4, hf => fX4_find_b15_ok C  (fX4_find_h15  n) (fX4_find_h15_ok C  n) σ x1 x2 x3 x4 hf
def fX4_find (σ : S0) (x1 : Int32) (x2 : Int32) : Option (Int32 × S0) := og (¬ (x1 < 0 ∨ 6 ≤ x1.toNatClampNeg)) (ol (σ 24 x1.toNatClampNeg) (fun v2 => ol (v2 - 1) (fun v3 => fX4_find_h15 400 σ x1 x2 v2 v3)))
set_option maxHeartbeats 1000000 in
set_option maxRecDepth 100000 in
theorem fX4_find_ok {p : Program} {l : Launch} {e : Env} {s : State} {m : MethodId} {args : Array Value} {below : List Frame} {meth : Method} {c : Code} {dC : Nat → ClassId} {dI : Nat → Nat → Nat} {ad : Nat → Nat} {cy : Nat → ClassId} {sz : Nat} (C : Cx p s m args meth c RX4 cX4_find 6 none dC dI ad cy sz) {rr : Int32} {ρ : S0} (σ : S0) (x1 : Int32) (x2 : Int32)  (hf : fX4_find σ x1 x2 = some (rr, ρ)) : Gw p l e rm_X4_find s m args below meth c (MQ below (QcV dC dI ad cy sz ρ) args s 0 0 (AW ad sz)) dC dI ad cy 6 sz 0 0 0 [(0, .ref (ad 55)), (1, .int x1), (2, .int x2)] [] σ := by
  unfold fX4_find at hf
  refine g_aload_n C dX4_find_0 rfl 0 rfl ?_
  refine g_get C (a_55 ad cy _) rfl hin_X4 0 (by decide) hF_X4_20 rfl rfl dX4_find_1 ?_
  refine g_get C (a_22 ad cy _) rfl hin_X9 4 (by decide) hF_X4_31 rfl rfl dX4_find_4 ?_
  refine g_iload_n C dX4_find_7 rfl 1 rfl ?_
  obtain ⟨h1, hf⟩ := og_e hf
  refine g_iald C (a_24 ad cy _) h1 dX4_find_8 ?_
  obtain ⟨v2, ev2, hf⟩ := ol_e hf
  refine g_nm ev2 ?_
  refine g_istore_n (lv2 := [(0, .ref (ad 55)), (1, .int x1), (2, .int x2), (3, .int v2)]) C dX4_find_9 rfl (by decide) [1, 2, 3, 0] rfl ?_
  refine g_iload_n C dX4_find_10 rfl 3 rfl ?_
  refine g_iconst (v := 1) C dX4_find_11 (by decide) ?_
  refine g_isub C dX4_find_12 ?_
  obtain ⟨v3, ev3, hf⟩ := ol_e hf
  refine g_nm ev3 ?_
  refine g_istore (lv2 := [(0, .ref (ad 55)), (1, .int x1), (2, .int x2), (3, .int v2), (4, .int v3)]) C dX4_find_13 (by decide) [1, 2, 3, 4, 0] rfl ?_
  exact g_sub [0, 1, 2, 3, 4] rfl (fX4_find_h15_ok C 400 σ x1 x2 v2 v3 hf)
theorem c_X4_find (l : Launch) (dC : Nat → ClassId) (dI : Nat → Nat → Nat) (ad : Nat → Nat) (cy : Nat → ClassId) (x1 : Int32) (x2 : Int32) : ConV l yX4_find cX4_find 6 none rm_X4_find dC dI ad cy [.ref (ad 55), .int x1, .int x2] (fun σ => fX4_find σ x1 x2) := con_v (own := RX4) (by decide) rfl (Nat.le_of_ble_eq_true rfl) (fun _ _ _ _ _ _ _ _ σ _ _ C hf => fX4_find_ok C σ x1 x2 hf)
theorem cal_X4_find : CalV yX4_find RX4 cX4_find 6 none 2 := ⟨hI_X4_find, hS_X4_find, hIni_X4, hC_X4_find, by decide +kernel⟩
abbrev rm_X3_refusedBy : Room := { frames := 0, cells := 0, slots := 0, locals := 0 }
def fX3_refusedBy_b53 (sf_4 : S0 → Int32 → Int32 → Int32 → Option (Int32 × S0)) (σ : S0) (x1 : Int32) (x2 : Int32) (x3 : Int32) : Option (Int32 × S0) := ol (x3 + 1) (fun v1 => sf_4 σ x1 x2 v1)
set_option maxHeartbeats 1000000 in
set_option maxRecDepth 100000 in
theorem fX3_refusedBy_b53_ok {p : Program} {l : Launch} {e : Env} {s : State} {m : MethodId} {args : Array Value} {below : List Frame} {meth : Method} {c : Code} {dC : Nat → ClassId} {dI : Nat → Nat → Nat} {ad : Nat → Nat} {cy : Nat → ClassId} {sz : Nat} (C : Cx p s m args meth c RX3 cX3_refusedBy 4 (some .int) dC dI ad cy sz) {rr : Int32} {ρ : S0} (sf_4 : S0 → Int32 → Int32 → Int32 → Option (Int32 × S0)) (hs_4 : ∀ (σ : S0) (x1 : Int32) (x2 : Int32) (x3 : Int32) , sf_4 σ x1 x2 x3 = some (rr, ρ) → Gw p l e rm_X3_refusedBy s m args below meth c (MQ below (QcI dC dI ad cy sz rr ρ) args s 0 0 (AW ad sz)) dC dI ad cy 4 sz 0 0 4 [(0, .ref (ad 70)), (1, .int x1), (2, .int x2), (3, .int x3)] [] σ) (σ : S0) (x1 : Int32) (x2 : Int32) (x3 : Int32)  (hf : fX3_refusedBy_b53 sf_4 σ x1 x2 x3 = some (rr, ρ)) : Gw p l e rm_X3_refusedBy s m args below meth c (MQ below (QcI dC dI ad cy sz rr ρ) args s 0 0 (AW ad sz)) dC dI ad cy 4 sz 0 0 53 [(0, .ref (ad 70)), (1, .int x1), (2, .int x2), (3, .int x3)] [] σ := by
  unfold fX3_refusedBy_b53 at hf
  obtain ⟨v1, ev1, hf⟩ := ol_e hf
  refine g_iinc (j := 3) (w := 1) (lv2 := [(0, .ref (ad 70)), (1, .int x1), (2, .int x2), (3, .int v1)]) C dX3_refusedBy_53 rfl (by decide) ev1 (by decide) [1, 2, 3, 0] rfl ?_
  refine g_goto (tgt := 4) C dX3_refusedBy_56 (by decide) ?_
  exact g_sub [0, 1, 2, 3] rfl (hs_4 σ x1 x2 v1 hf)
def fX3_refusedBy_b4 (sf_4 : S0 → Int32 → Int32 → Int32 → Option (Int32 × S0)) (σ : S0) (x1 : Int32) (x2 : Int32) (x3 : Int32) : Option (Int32 × S0) := if (σ 32 7) ≤ x3 then (some (x2, σ)) else (og (¬ (x3 < 0 ∨ 12 ≤ x3.toNatClampNeg)) (ol (σ 39 x3.toNatClampNeg) (fun v3 => if ¬ v3 = ((-4)) then (fX3_refusedBy_b53 sf_4 σ x1 x2 x3) else (og (¬ (x1 < 0 ∨ 6 ≤ x1.toNatClampNeg)) (ol (26 + 1 * x1.toNatClampNeg) (fun q6 => og (¬ (x3 < 0 ∨ 12 ≤ x3.toNatClampNeg)) (ol (σ q6 x3.toNatClampNeg) (fun v8 => og (¬ (v8 < 0 ∨ 12 ≤ v8.toNatClampNeg)) (ol (σ 33 v8.toNatClampNeg) (fun v10 => ol (x2 ||| ((1 : Int32) <<< (v10 &&& 31))) (fun v11 => fX3_refusedBy_b53 sf_4 σ x1 v11 x3)))))))))))
set_option maxHeartbeats 1000000 in
set_option maxRecDepth 100000 in
theorem fX3_refusedBy_b4_ok {p : Program} {l : Launch} {e : Env} {s : State} {m : MethodId} {args : Array Value} {below : List Frame} {meth : Method} {c : Code} {dC : Nat → ClassId} {dI : Nat → Nat → Nat} {ad : Nat → Nat} {cy : Nat → ClassId} {sz : Nat} (C : Cx p s m args meth c RX3 cX3_refusedBy 4 (some .int) dC dI ad cy sz) {rr : Int32} {ρ : S0} (sf_4 : S0 → Int32 → Int32 → Int32 → Option (Int32 × S0)) (hs_4 : ∀ (σ : S0) (x1 : Int32) (x2 : Int32) (x3 : Int32) , sf_4 σ x1 x2 x3 = some (rr, ρ) → Gw p l e rm_X3_refusedBy s m args below meth c (MQ below (QcI dC dI ad cy sz rr ρ) args s 0 0 (AW ad sz)) dC dI ad cy 4 sz 0 0 4 [(0, .ref (ad 70)), (1, .int x1), (2, .int x2), (3, .int x3)] [] σ) (σ : S0) (x1 : Int32) (x2 : Int32) (x3 : Int32)  (hf : fX3_refusedBy_b4 sf_4 σ x1 x2 x3 = some (rr, ρ)) : Gw p l e rm_X3_refusedBy s m args below meth c (MQ below (QcI dC dI ad cy sz rr ρ) args s 0 0 (AW ad sz)) dC dI ad cy 4 sz 0 0 4 [(0, .ref (ad 70)), (1, .int x1), (2, .int x2), (3, .int x3)] [] σ := by
  unfold fX3_refusedBy_b4 at hf
  refine g_iload_n C dX3_refusedBy_4 rfl 3 rfl ?_
  refine g_aload_n C dX3_refusedBy_5 rfl 0 rfl ?_
  refine g_get C (a_70 ad cy _) rfl hin_X3 1 (by decide) hF_X3_21 rfl rfl dX3_refusedBy_6 ?_
  refine g_get C (a_32 ad cy _) rfl hin_X1 7 (by decide) hF_X3_22 rfl rfl dX3_refusedBy_9 ?_
  rcases oi_e hf with ⟨c1, hf⟩ | ⟨c1, hf⟩
  · refine g_icmp_ge_t (tgt := 59) C dX3_refusedBy_12 (by decide) c1 ?_
    refine g_iload_n C dX3_refusedBy_59 rfl 2 rfl ?_
    obtain ⟨rfl, rfl⟩ := os_e hf
    exact g_iret C rfl dX3_refusedBy_60
  · refine g_icmp_ge_f (tgt := 59) C dX3_refusedBy_12 (by decide) c1 ?_
    refine g_aload_n C dX3_refusedBy_15 rfl 0 rfl ?_
    refine g_get C (a_70 ad cy _) rfl hin_X3 1 (by decide) hF_X3_21 rfl rfl dX3_refusedBy_16 ?_
    refine g_get C (a_32 ad cy _) rfl hin_X1 8 (by decide) hF_X3_32 rfl rfl dX3_refusedBy_19 ?_
    refine g_iload_n C dX3_refusedBy_22 rfl 3 rfl ?_
    obtain ⟨h2, hf⟩ := og_e hf
    refine g_iald C (a_39 ad cy _) h2 dX3_refusedBy_23 ?_
    obtain ⟨v3, ev3, hf⟩ := ol_e hf
    refine g_nm ev3 ?_
    refine g_bipush (v := (-4)) C dX3_refusedBy_24 (by decide) ?_
    rcases oi_e hf with ⟨c4, hf⟩ | ⟨c4, hf⟩
    · refine g_icmp_ne_t (tgt := 53) C dX3_refusedBy_26 (by decide) c4 ?_
      exact g_sub [0, 1, 2, 3] rfl (fX3_refusedBy_b53_ok C sf_4 hs_4 σ x1 x2 x3 hf)
    · refine g_icmp_ne_f (tgt := 53) C dX3_refusedBy_26 (by decide) (Decidable.of_not_not c4) ?_
      refine g_iload_n C dX3_refusedBy_29 rfl 2 rfl ?_
      refine g_iconst (v := 1) C dX3_refusedBy_30 (by decide) ?_
      refine g_aload_n C dX3_refusedBy_31 rfl 0 rfl ?_
      refine g_get C (a_70 ad cy _) rfl hin_X3 1 (by decide) hF_X3_21 rfl rfl dX3_refusedBy_32 ?_
      refine g_get C (a_32 ad cy _) rfl hin_X1 1 (by decide) hF_X3_38 rfl rfl dX3_refusedBy_35 ?_
      refine g_aload_n C dX3_refusedBy_38 rfl 0 rfl ?_
      refine g_get C (a_70 ad cy _) rfl hin_X3 0 (by decide) hF_X3_9 rfl rfl dX3_refusedBy_39 ?_
      refine g_get C (a_22 ad cy _) rfl hin_X9 5 (by decide) hF_X3_35 rfl rfl dX3_refusedBy_42 ?_
      refine g_iload_n C dX3_refusedBy_45 rfl 1 rfl ?_
      obtain ⟨h5, hf⟩ := og_e hf
      obtain ⟨q6, eq6, hf⟩ := ol_e hf
      refine g_aald C (a_25 ad cy _) rfl rfl h5 dX3_refusedBy_46 ?_
      refine g_nmr eq6 ?_
      have hq6 := (o_25 h5 eq6)
      refine g_iload_n C dX3_refusedBy_47 rfl 3 rfl ?_
      obtain ⟨h7, hf⟩ := og_e hf
      refine g_iald C (s_row hq6 ad cy _) h7 dX3_refusedBy_48 ?_
      obtain ⟨v8, ev8, hf⟩ := ol_e hf
      refine g_nm ev8 ?_
      obtain ⟨h9, hf⟩ := og_e hf
      refine g_iald C (a_33 ad cy _) h9 dX3_refusedBy_49 ?_
      obtain ⟨v10, ev10, hf⟩ := ol_e hf
      refine g_nm ev10 ?_
      refine g_ishl C dX3_refusedBy_50 ?_
      refine g_ior C dX3_refusedBy_51 ?_
      obtain ⟨v11, ev11, hf⟩ := ol_e hf
      refine g_nm ev11 ?_
      refine g_istore_n (lv2 := [(0, .ref (ad 70)), (1, .int x1), (2, .int v11), (3, .int x3)]) C dX3_refusedBy_52 rfl (by decide) [1, 2, 0, 3] rfl ?_
      exact g_sub [0, 1, 2, 3] rfl (fX3_refusedBy_b53_ok C sf_4 hs_4 σ x1 v11 x3 hf)
def fX3_refusedBy_h4  : Nat → S0 → Int32 → Int32 → Int32 → Option (Int32 × S0)
  | 0 => fun _ _ _ _ => none
  | n + 1 => fun σ x1 x2 x3 => fX3_refusedBy_b4  (fX3_refusedBy_h4  n) σ x1 x2 x3
set_option maxHeartbeats 1000000 in
set_option maxRecDepth 100000 in
theorem fX3_refusedBy_h4_ok {p : Program} {l : Launch} {e : Env} {s : State} {m : MethodId} {args : Array Value} {below : List Frame} {meth : Method} {c : Code} {dC : Nat → ClassId} {dI : Nat → Nat → Nat} {ad : Nat → Nat} {cy : Nat → ClassId} {sz : Nat} (C : Cx p s m args meth c RX3 cX3_refusedBy 4 (some .int) dC dI ad cy sz) {rr : Int32} {ρ : S0}  : ∀ (n : Nat) (σ : S0) (x1 : Int32) (x2 : Int32) (x3 : Int32)  (_hf : fX3_refusedBy_h4  n σ x1 x2 x3 = some (rr, ρ)), Gw p l e rm_X3_refusedBy s m args below meth c (MQ below (QcI dC dI ad cy sz rr ρ) args s 0 0 (AW ad sz)) dC dI ad cy 4 sz 0 0 4 [(0, .ref (ad 70)), (1, .int x1), (2, .int x2), (3, .int x3)] [] σ
  | 0, _, _, _, _, hf => by cases hf
  | n + 1, σ, x1, x2, x3, hf => fX3_refusedBy_b4_ok C  (fX3_refusedBy_h4  n) (fX3_refusedBy_h4_ok C  n) σ x1 x2 x3 hf
def fX3_refusedBy (σ : S0) (x1 : Int32) : Option (Int32 × S0) := fX3_refusedBy_h4 400 σ x1 0 0
set_option maxHeartbeats 1000000 in
set_option maxRecDepth 100000 in
theorem fX3_refusedBy_ok {p : Program} {l : Launch} {e : Env} {s : State} {m : MethodId} {args : Array Value} {below : List Frame} {meth : Method} {c : Code} {dC : Nat → ClassId} {dI : Nat → Nat → Nat} {ad : Nat → Nat} {cy : Nat → ClassId} {sz : Nat} (C : Cx p s m args meth c RX3 cX3_refusedBy 4 (some .int) dC dI ad cy sz) {rr : Int32} {ρ : S0} (σ : S0) (x1 : Int32)  (hf : fX3_refusedBy σ x1 = some (rr, ρ)) : Gw p l e rm_X3_refusedBy s m args below meth c (MQ below (QcI dC dI ad cy sz rr ρ) args s 0 0 (AW ad sz)) dC dI ad cy 4 sz 0 0 0 [(0, .ref (ad 70)), (1, .int x1)] [] σ := by
  unfold fX3_refusedBy at hf
  refine g_iconst (v := 0) C dX3_refusedBy_0 (by decide) ?_
  refine g_istore_n (lv2 := [(0, .ref (ad 70)), (1, .int x1), (2, .int 0)]) C dX3_refusedBy_1 rfl (by decide) [1, 2, 0] rfl ?_
  refine g_iconst (v := 0) C dX3_refusedBy_2 (by decide) ?_
  refine g_istore_n (lv2 := [(0, .ref (ad 70)), (1, .int x1), (2, .int 0), (3, .int 0)]) C dX3_refusedBy_3 rfl (by decide) [1, 2, 3, 0] rfl ?_
  exact g_sub [0, 1, 2, 3] rfl (fX3_refusedBy_h4_ok C 400 σ x1 0 0 hf)
theorem c_X3_refusedBy (l : Launch) (dC : Nat → ClassId) (dI : Nat → Nat → Nat) (ad : Nat → Nat) (cy : Nat → ClassId) (x1 : Int32) : ConI l yX3_refusedBy cX3_refusedBy 4 (some .int) rm_X3_refusedBy dC dI ad cy [.ref (ad 70), .int x1] (fun σ => fX3_refusedBy σ x1) := con_i (own := RX3) (by decide) rfl (Nat.le_of_ble_eq_true rfl) (fun _ _ _ _ _ _ _ _ σ _ _ C hf => fX3_refusedBy_ok C σ x1 hf)
theorem cal_X3_refusedBy : CalV yX3_refusedBy RX3 cX3_refusedBy 4 (some .int) 1 := ⟨hI_X3_refusedBy, hS_X3_refusedBy, hIni_X3, hC_X3_refusedBy, by decide +kernel⟩
end
section
abbrev rm_X3_canBe : Room := { frames := 1, cells := 0, slots := 0, locals := 23 }
def fX3_canBe_b96 (sf_25 : S0 → Int32 → Int32 → Int32 → Option (Int32 × S0)) (σ : S0) (x1 : Int32) (x3 : Int32) (t0 : Int32) (t1 : Int32) : Option (Int32 × S0) := ol (t1 ||| t0) (fun v1 => ol (x3 + 1) (fun v2 => sf_25 σ x1 v1 v2))
set_option maxHeartbeats 1000000 in
set_option maxRecDepth 100000 in
theorem fX3_canBe_b96_ok {p : Program} {l : Launch} {e : Env} {s : State} {m : MethodId} {args : Array Value} {below : List Frame} {meth : Method} {c : Code} {dC : Nat → ClassId} {dI : Nat → Nat → Nat} {ad : Nat → Nat} {cy : Nat → ClassId} {sz : Nat} (C : Cx p s m args meth c RX3 cX3_canBe 5 (some .boolean) dC dI ad cy sz) {rr : Int32} {ρ : S0} (sf_25 : S0 → Int32 → Int32 → Int32 → Option (Int32 × S0)) (hs_25 : ∀ (σ : S0) (x1 : Int32) (x2 : Int32) (x3 : Int32) , sf_25 σ x1 x2 x3 = some (rr, ρ) → Gw p l e rm_X3_canBe s m args below meth c (MQ below (QcI dC dI ad cy sz rr ρ) args s 0 0 (AW ad sz)) dC dI ad cy 5 sz 0 0 25 [(0, .ref (ad 70)), (1, .int x1), (2, .int x2), (3, .int x3)] [] σ) (σ : S0) (x1 : Int32) (x3 : Int32) (t0 : Int32) (t1 : Int32)  (hf : fX3_canBe_b96 sf_25 σ x1 x3 t0 t1 = some (rr, ρ)) : Gw p l e rm_X3_canBe s m args below meth c (MQ below (QcI dC dI ad cy sz rr ρ) args s 0 0 (AW ad sz)) dC dI ad cy 5 sz 0 0 96 [(0, .ref (ad 70)), (1, .int x1), (3, .int x3)] [.int t0, .int t1] σ := by
  unfold fX3_canBe_b96 at hf
  refine g_ior C dX3_canBe_96 ?_
  obtain ⟨v1, ev1, hf⟩ := ol_e hf
  refine g_nm ev1 ?_
  refine g_istore_n (lv2 := [(0, .ref (ad 70)), (1, .int x1), (2, .int v1), (3, .int x3)]) C dX3_canBe_97 rfl (by decide) [1, 2, 0, 3] rfl ?_
  obtain ⟨v2, ev2, hf⟩ := ol_e hf
  refine g_iinc (j := 3) (w := 1) (lv2 := [(0, .ref (ad 70)), (1, .int x1), (2, .int v1), (3, .int v2)]) C dX3_canBe_98 rfl (by decide) ev2 (by decide) [1, 2, 3, 0] rfl ?_
  refine g_goto (tgt := 25) C dX3_canBe_101 (by decide) ?_
  exact g_sub [0, 1, 2, 3] rfl (hs_25 σ x1 v1 v2 hf)
def fX3_canBe_b72 (sf_25 : S0 → Int32 → Int32 → Int32 → Option (Int32 × S0)) (σ : S0) (x1 : Int32) (x2 : Int32) (x3 : Int32) (x4 : Int32) : Option (Int32 × S0) := if ¬ x4 = ((-4)) then (og (¬ (x4 < 0 ∨ 12 ≤ x4.toNatClampNeg)) (ol (σ 33 x4.toNatClampNeg) (fun v3 => fX3_canBe_b96 sf_25 σ x1 x3 ((1 : Int32) <<< (v3 &&& 31)) x2))) else (fX3_canBe_b96 sf_25 σ x1 x3 0 x2)
set_option maxHeartbeats 1000000 in
set_option maxRecDepth 100000 in
theorem fX3_canBe_b72_ok {p : Program} {l : Launch} {e : Env} {s : State} {m : MethodId} {args : Array Value} {below : List Frame} {meth : Method} {c : Code} {dC : Nat → ClassId} {dI : Nat → Nat → Nat} {ad : Nat → Nat} {cy : Nat → ClassId} {sz : Nat} (C : Cx p s m args meth c RX3 cX3_canBe 5 (some .boolean) dC dI ad cy sz) {rr : Int32} {ρ : S0} (sf_25 : S0 → Int32 → Int32 → Int32 → Option (Int32 × S0)) (hs_25 : ∀ (σ : S0) (x1 : Int32) (x2 : Int32) (x3 : Int32) , sf_25 σ x1 x2 x3 = some (rr, ρ) → Gw p l e rm_X3_canBe s m args below meth c (MQ below (QcI dC dI ad cy sz rr ρ) args s 0 0 (AW ad sz)) dC dI ad cy 5 sz 0 0 25 [(0, .ref (ad 70)), (1, .int x1), (2, .int x2), (3, .int x3)] [] σ) (σ : S0) (x1 : Int32) (x2 : Int32) (x3 : Int32) (x4 : Int32)  (hf : fX3_canBe_b72 sf_25 σ x1 x2 x3 x4 = some (rr, ρ)) : Gw p l e rm_X3_canBe s m args below meth c (MQ below (QcI dC dI ad cy sz rr ρ) args s 0 0 (AW ad sz)) dC dI ad cy 5 sz 0 0 72 [(0, .ref (ad 70)), (1, .int x1), (2, .int x2), (3, .int x3), (4, .int x4)] [] σ := by
  unfold fX3_canBe_b72 at hf
  refine g_iload_n C dX3_canBe_72 rfl 2 rfl ?_
  refine g_iload C dX3_canBe_73 4 rfl ?_
  refine g_bipush (v := (-4)) C dX3_canBe_75 (by decide) ?_
  rcases oi_e hf with ⟨c1, hf⟩ | ⟨c1, hf⟩
  · refine g_icmp_ne_t (tgt := 84) C dX3_canBe_77 (by decide) c1 ?_
    refine g_iconst (v := 1) C dX3_canBe_84 (by decide) ?_
    refine g_aload_n C dX3_canBe_85 rfl 0 rfl ?_
    refine g_get C (a_70 ad cy _) rfl hin_X3 1 (by decide) hF_X3_21 rfl rfl dX3_canBe_86 ?_
    refine g_get C (a_32 ad cy _) rfl hin_X1 1 (by decide) hF_X3_38 rfl rfl dX3_canBe_89 ?_
    refine g_iload C dX3_canBe_92 4 rfl ?_
    obtain ⟨h2, hf⟩ := og_e hf
    refine g_iald C (a_33 ad cy _) h2 dX3_canBe_94 ?_
    obtain ⟨v3, ev3, hf⟩ := ol_e hf
    refine g_nm ev3 ?_
    refine g_ishl C dX3_canBe_95 ?_
    exact g_sub [0, 1, 3] rfl (fX3_canBe_b96_ok C sf_25 hs_25 σ x1 x3 ((1 : Int32) <<< (v3 &&& 31)) x2 hf)
  · refine g_icmp_ne_f (tgt := 84) C dX3_canBe_77 (by decide) (Decidable.of_not_not c1) ?_
    refine g_iconst (v := 0) C dX3_canBe_80 (by decide) ?_
    refine g_goto (tgt := 96) C dX3_canBe_81 (by decide) ?_
    exact g_sub [0, 1, 3] rfl (fX3_canBe_b96_ok C sf_25 hs_25 σ x1 x3 0 x2 hf)
def fX3_canBe_b25 (sf_25 : S0 → Int32 → Int32 → Int32 → Option (Int32 × S0)) (σ : S0) (x1 : Int32) (x2 : Int32) (x3 : Int32) : Option (Int32 × S0) := if (σ 32 7) ≤ x3 then (obp (fX3_refusedBy σ x1) (fun r2 σ3 => if ¬ (x2 &&& r2) = 0 then (some (0, σ3)) else (some (1, σ3)))) else (og (¬ (x3 < 0 ∨ 12 ≤ x3.toNatClampNeg)) (ol (σ 39 x3.toNatClampNeg) (fun v7 => if v7 = ((-4)) then (fX3_canBe_b72 sf_25 σ x1 x2 x3 v7) else (og (¬ (x1 < 0 ∨ 6 ≤ x1.toNatClampNeg)) (ol (26 + 1 * x1.toNatClampNeg) (fun q10 => og (¬ (x3 < 0 ∨ 12 ≤ x3.toNatClampNeg)) (ol (σ q10 x3.toNatClampNeg) (fun v12 => if v7 = v12 then (fX3_canBe_b72 sf_25 σ x1 x2 x3 v7) else (some (0, σ))))))))))
set_option maxHeartbeats 1000000 in
set_option maxRecDepth 100000 in
theorem fX3_canBe_b25_ok {p : Program} {l : Launch} {e : Env} {s : State} {m : MethodId} {args : Array Value} {below : List Frame} {meth : Method} {c : Code} {dC : Nat → ClassId} {dI : Nat → Nat → Nat} {ad : Nat → Nat} {cy : Nat → ClassId} {sz : Nat} (C : Cx p s m args meth c RX3 cX3_canBe 5 (some .boolean) dC dI ad cy sz) {rr : Int32} {ρ : S0} (sf_25 : S0 → Int32 → Int32 → Int32 → Option (Int32 × S0)) (hs_25 : ∀ (σ : S0) (x1 : Int32) (x2 : Int32) (x3 : Int32) , sf_25 σ x1 x2 x3 = some (rr, ρ) → Gw p l e rm_X3_canBe s m args below meth c (MQ below (QcI dC dI ad cy sz rr ρ) args s 0 0 (AW ad sz)) dC dI ad cy 5 sz 0 0 25 [(0, .ref (ad 70)), (1, .int x1), (2, .int x2), (3, .int x3)] [] σ) (σ : S0) (x1 : Int32) (x2 : Int32) (x3 : Int32)  (hf : fX3_canBe_b25 sf_25 σ x1 x2 x3 = some (rr, ρ)) : Gw p l e rm_X3_canBe s m args below meth c (MQ below (QcI dC dI ad cy sz rr ρ) args s 0 0 (AW ad sz)) dC dI ad cy 5 sz 0 0 25 [(0, .ref (ad 70)), (1, .int x1), (2, .int x2), (3, .int x3)] [] σ := by
  unfold fX3_canBe_b25 at hf
  refine g_iload_n C dX3_canBe_25 rfl 3 rfl ?_
  refine g_aload_n C dX3_canBe_26 rfl 0 rfl ?_
  refine g_get C (a_70 ad cy _) rfl hin_X3 1 (by decide) hF_X3_21 rfl rfl dX3_canBe_27 ?_
  refine g_get C (a_32 ad cy _) rfl hin_X1 7 (by decide) hF_X3_22 rfl rfl dX3_canBe_30 ?_
  rcases oi_e hf with ⟨c1, hf⟩ | ⟨c1, hf⟩
  · refine g_icmp_ge_t (tgt := 104) C dX3_canBe_33 (by decide) c1 ?_
    refine g_iload_n C dX3_canBe_104 rfl 2 rfl ?_
    refine g_aload_n C dX3_canBe_105 rfl 0 rfl ?_
    refine g_iload_n C dX3_canBe_106 rfl 1 rfl ?_
    obtain ⟨r2, σ3, h4, hf⟩ := obp_e hf
    refine g_callVi (As := [.int x1]) (rest := [.int x2]) C (a_70 ad cy _) rfl (c_X3_refusedBy l dC dI ad cy x1) h4 hM_X3_41 cal_X3_refusedBy ⟨Nat.zero_le _, Nat.zero_le _⟩ ⟨rfl, rfl⟩ ⟨Nat.le_of_ble_eq_true rfl, Nat.le_of_ble_eq_true rfl⟩ rfl rfl (Nat.le_of_ble_eq_true rfl) dX3_canBe_107 ?_
    refine g_iand C dX3_canBe_110 ?_
    rcases oi_e hf with ⟨c5, hf⟩ | ⟨c5, hf⟩
    · refine g_if_ne_t (tgt := 118) C dX3_canBe_111 (by decide) c5 ?_
      refine g_iconst (v := 0) C dX3_canBe_118 (by decide) ?_
      obtain ⟨rfl, rfl⟩ := os_e hf
      exact g_zret C rfl (by decide) dX3_canBe_119
    · refine g_if_ne_f (tgt := 118) C dX3_canBe_111 (by decide) (Decidable.of_not_not c5) ?_
      refine g_iconst (v := 1) C dX3_canBe_114 (by decide) ?_
      refine g_goto (tgt := 119) C dX3_canBe_115 (by decide) ?_
      obtain ⟨rfl, rfl⟩ := os_e hf
      exact g_zret C rfl (by decide) dX3_canBe_119
  · refine g_icmp_ge_f (tgt := 104) C dX3_canBe_33 (by decide) c1 ?_
    refine g_aload_n C dX3_canBe_36 rfl 0 rfl ?_
    refine g_get C (a_70 ad cy _) rfl hin_X3 1 (by decide) hF_X3_21 rfl rfl dX3_canBe_37 ?_
    refine g_get C (a_32 ad cy _) rfl hin_X1 8 (by decide) hF_X3_32 rfl rfl dX3_canBe_40 ?_
    refine g_iload_n C dX3_canBe_43 rfl 3 rfl ?_
    obtain ⟨h6, hf⟩ := og_e hf
    refine g_iald C (a_39 ad cy _) h6 dX3_canBe_44 ?_
    obtain ⟨v7, ev7, hf⟩ := ol_e hf
    refine g_nm ev7 ?_
    refine g_istore (lv2 := [(0, .ref (ad 70)), (1, .int x1), (2, .int x2), (3, .int x3), (4, .int v7)]) C dX3_canBe_45 (by decide) [1, 2, 3, 4, 0] rfl ?_
    refine g_iload C dX3_canBe_47 4 rfl ?_
    refine g_bipush (v := (-4)) C dX3_canBe_49 (by decide) ?_
    rcases oi_e hf with ⟨c8, hf⟩ | ⟨c8, hf⟩
    · refine g_icmp_eq_t (tgt := 72) C dX3_canBe_51 (by decide) c8 ?_
      exact g_sub [0, 1, 2, 3, 4] rfl (fX3_canBe_b72_ok C sf_25 hs_25 σ x1 x2 x3 v7 hf)
    · refine g_icmp_eq_f (tgt := 72) C dX3_canBe_51 (by decide) c8 ?_
      refine g_iload C dX3_canBe_54 4 rfl ?_
      refine g_aload_n C dX3_canBe_56 rfl 0 rfl ?_
      refine g_get C (a_70 ad cy _) rfl hin_X3 0 (by decide) hF_X3_9 rfl rfl dX3_canBe_57 ?_
      refine g_get C (a_22 ad cy _) rfl hin_X9 5 (by decide) hF_X3_35 rfl rfl dX3_canBe_60 ?_
      refine g_iload_n C dX3_canBe_63 rfl 1 rfl ?_
      obtain ⟨h9, hf⟩ := og_e hf
      obtain ⟨q10, eq10, hf⟩ := ol_e hf
      refine g_aald C (a_25 ad cy _) rfl rfl h9 dX3_canBe_64 ?_
      refine g_nmr eq10 ?_
      have hq10 := (o_25 h9 eq10)
      refine g_iload_n C dX3_canBe_65 rfl 3 rfl ?_
      obtain ⟨h11, hf⟩ := og_e hf
      refine g_iald C (s_row hq10 ad cy _) h11 dX3_canBe_66 ?_
      obtain ⟨v12, ev12, hf⟩ := ol_e hf
      refine g_nm ev12 ?_
      rcases oi_e hf with ⟨c13, hf⟩ | ⟨c13, hf⟩
      · refine g_icmp_eq_t (tgt := 72) C dX3_canBe_67 (by decide) c13 ?_
        exact g_sub [0, 1, 2, 3, 4] rfl (fX3_canBe_b72_ok C sf_25 hs_25 σ x1 x2 x3 v7 hf)
      · refine g_icmp_eq_f (tgt := 72) C dX3_canBe_67 (by decide) c13 ?_
        refine g_iconst (v := 0) C dX3_canBe_70 (by decide) ?_
        obtain ⟨rfl, rfl⟩ := os_e hf
        exact g_zret C rfl (by decide) dX3_canBe_71
def fX3_canBe_h25  : Nat → S0 → Int32 → Int32 → Int32 → Option (Int32 × S0)
  | 0 => fun _ _ _ _ => none
  | n + 1 => fun σ x1 x2 x3 => fX3_canBe_b25  (fX3_canBe_h25  n) σ x1 x2 x3
set_option maxHeartbeats 1000000 in
set_option maxRecDepth 100000 in
theorem fX3_canBe_h25_ok {p : Program} {l : Launch} {e : Env} {s : State} {m : MethodId} {args : Array Value} {below : List Frame} {meth : Method} {c : Code} {dC : Nat → ClassId} {dI : Nat → Nat → Nat} {ad : Nat → Nat} {cy : Nat → ClassId} {sz : Nat} (C : Cx p s m args meth c RX3 cX3_canBe 5 (some .boolean) dC dI ad cy sz) {rr : Int32} {ρ : S0}  : ∀ (n : Nat) (σ : S0) (x1 : Int32) (x2 : Int32) (x3 : Int32)  (_hf : fX3_canBe_h25  n σ x1 x2 x3 = some (rr, ρ)), Gw p l e rm_X3_canBe s m args below meth c (MQ below (QcI dC dI ad cy sz rr ρ) args s 0 0 (AW ad sz)) dC dI ad cy 5 sz 0 0 25 [(0, .ref (ad 70)), (1, .int x1), (2, .int x2), (3, .int x3)] [] σ
  | 0, _, _, _, _, hf => by cases hf
  | n + 1, σ, x1, x2, x3, hf => fX3_canBe_b25_ok C  (fX3_canBe_h25  n) (fX3_canBe_h25_ok C  n) σ x1 x2 x3 hf
def fX3_canBe (σ : S0) (x1 : Int32) : Option (Int32 × S0) := og (¬ (x1 < 0 ∨ 6 ≤ x1.toNatClampNeg)) (ol (σ 24 x1.toNatClampNeg) (fun v2 => if (σ 32 7) = v2 then (fX3_canBe_h25 400 σ x1 0 0) else (some (0, σ))))
set_option maxHeartbeats 1000000 in
set_option maxRecDepth 100000 in
theorem fX3_canBe_ok {p : Program} {l : Launch} {e : Env} {s : State} {m : MethodId} {args : Array Value} {below : List Frame} {meth : Method} {c : Code} {dC : Nat → ClassId} {dI : Nat → Nat → Nat} {ad : Nat → Nat} {cy : Nat → ClassId} {sz : Nat} (C : Cx p s m args meth c RX3 cX3_canBe 5 (some .boolean) dC dI ad cy sz) {rr : Int32} {ρ : S0} (σ : S0) (x1 : Int32)  (hf : fX3_canBe σ x1 = some (rr, ρ)) : Gw p l e rm_X3_canBe s m args below meth c (MQ below (QcI dC dI ad cy sz rr ρ) args s 0 0 (AW ad sz)) dC dI ad cy 5 sz 0 0 0 [(0, .ref (ad 70)), (1, .int x1)] [] σ := by
  unfold fX3_canBe at hf
  refine g_aload_n C dX3_canBe_0 rfl 0 rfl ?_
  refine g_get C (a_70 ad cy _) rfl hin_X3 1 (by decide) hF_X3_21 rfl rfl dX3_canBe_1 ?_
  refine g_get C (a_32 ad cy _) rfl hin_X1 7 (by decide) hF_X3_22 rfl rfl dX3_canBe_4 ?_
  refine g_aload_n C dX3_canBe_7 rfl 0 rfl ?_
  refine g_get C (a_70 ad cy _) rfl hin_X3 0 (by decide) hF_X3_9 rfl rfl dX3_canBe_8 ?_
  refine g_get C (a_22 ad cy _) rfl hin_X9 4 (by decide) hF_X3_28 rfl rfl dX3_canBe_11 ?_
  refine g_iload_n C dX3_canBe_14 rfl 1 rfl ?_
  obtain ⟨h1, hf⟩ := og_e hf
  refine g_iald C (a_24 ad cy _) h1 dX3_canBe_15 ?_
  obtain ⟨v2, ev2, hf⟩ := ol_e hf
  refine g_nm ev2 ?_
  rcases oi_e hf with ⟨c3, hf⟩ | ⟨c3, hf⟩
  · refine g_icmp_eq_t (tgt := 21) C dX3_canBe_16 (by decide) c3 ?_
    refine g_iconst (v := 0) C dX3_canBe_21 (by decide) ?_
    refine g_istore_n (lv2 := [(0, .ref (ad 70)), (1, .int x1), (2, .int 0)]) C dX3_canBe_22 rfl (by decide) [1, 2, 0] rfl ?_
    refine g_iconst (v := 0) C dX3_canBe_23 (by decide) ?_
    refine g_istore_n (lv2 := [(0, .ref (ad 70)), (1, .int x1), (2, .int 0), (3, .int 0)]) C dX3_canBe_24 rfl (by decide) [1, 2, 3, 0] rfl ?_
    exact g_sub [0, 1, 2, 3] rfl (fX3_canBe_h25_ok C 400 σ x1 0 0 hf)
  · refine g_icmp_eq_f (tgt := 21) C dX3_canBe_16 (by decide) c3 ?_
    refine g_iconst (v := 0) C dX3_canBe_19 (by decide) ?_
    obtain ⟨rfl, rfl⟩ := os_e hf
    exact g_zret C rfl (by decide) dX3_canBe_20
theorem c_X3_canBe (l : Launch) (dC : Nat → ClassId) (dI : Nat → Nat → Nat) (ad : Nat → Nat) (cy : Nat → ClassId) (x1 : Int32) : ConI l yX3_canBe cX3_canBe 5 (some .boolean) rm_X3_canBe dC dI ad cy [.ref (ad 70), .int x1] (fun σ => fX3_canBe σ x1) := con_i (own := RX3) (by decide) rfl (Nat.le_of_ble_eq_true rfl) (fun _ _ _ _ _ _ _ _ σ _ _ C hf => fX3_canBe_ok C σ x1 hf)
theorem cal_X3_canBe : CalV yX3_canBe RX3 cX3_canBe 5 (some .boolean) 1 := ⟨hI_X3_canBe, hS_X3_canBe, hIni_X3, hC_X3_canBe, by decide +kernel⟩
abbrev rm_X3_addFitting : Room := { frames := 1, cells := 0, slots := 0, locals := 23 }
def fX3_addFitting_b28  (σ : S0) (x2 : Int32) : Option (Int32 × S0) := ol ((σ 70 5) &&& x2) (fun v1 => ol (su σ 70 5 v1) (fun σ2 => ol ((σ2 70 2) + 1) (fun v3 => ol (su σ2 70 2 v3) (fun σ4 => some (0, σ4)))))
set_option maxHeartbeats 1000000 in
set_option maxRecDepth 100000 in
theorem fX3_addFitting_b28_ok {p : Program} {l : Launch} {e : Env} {s : State} {m : MethodId} {args : Array Value} {below : List Frame} {meth : Method} {c : Code} {dC : Nat → ClassId} {dI : Nat → Nat → Nat} {ad : Nat → Nat} {cy : Nat → ClassId} {sz : Nat} (C : Cx p s m args meth c RX3 cX3_addFitting 3 none dC dI ad cy sz) {rr : Int32} {ρ : S0}  (σ : S0) (x2 : Int32)  (hf : fX3_addFitting_b28 σ x2 = some (rr, ρ)) : Gw p l e rm_X3_addFitting s m args below meth c (MQ below (QcV dC dI ad cy sz ρ) args s 0 0 (AW ad sz)) dC dI ad cy 3 sz 0 0 28 [(0, .ref (ad 70)), (2, .int x2)] [] σ := by
  unfold fX3_addFitting_b28 at hf
  refine g_aload_n C dX3_addFitting_28 rfl 0 rfl ?_
  refine g_dup C dX3_addFitting_29 rfl ?_
  refine g_get C (a_70 ad cy _) rfl hin_X3 5 (by decide) hF_X3_65 rfl rfl dX3_addFitting_30 ?_
  refine g_iload_n C dX3_addFitting_33 rfl 1 rfl ?_
  refine g_iand C dX3_addFitting_34 ?_
  obtain ⟨v1, ev1, hf⟩ := ol_e hf
  refine g_nm ev1 ?_
  obtain ⟨σ2, eσ2, hf⟩ := ol_e hf
  refine g_put (ty := .int) C (a_70 ad cy _) rfl hin_X3 tyX3 tyX3_ok nmX3 5 (by decide) hF_X3_65 rfl rfl (by decide +kernel) rfl rfl (Nat.le_of_ble_eq_true rfl) (p_70_5 ad cy _ _) eσ2 dX3_addFitting_35 ?_
  refine g_aload_n C dX3_addFitting_38 rfl 0 rfl ?_
  refine g_dup C dX3_addFitting_39 rfl ?_
  refine g_get C (a_70 ad cy _) rfl hin_X3 2 (by decide) hF_X3_45 rfl rfl dX3_addFitting_40 ?_
  refine g_iconst (v := 1) C dX3_addFitting_43 (by decide) ?_
  refine g_iadd C dX3_addFitting_44 ?_
  obtain ⟨v3, ev3, hf⟩ := ol_e hf
  refine g_nm ev3 ?_
  obtain ⟨σ4, eσ4, hf⟩ := ol_e hf
  refine g_put (ty := .int) C (a_70 ad cy _) rfl hin_X3 tyX3 tyX3_ok nmX3 2 (by decide) hF_X3_45 rfl rfl (by decide +kernel) rfl rfl (Nat.le_of_ble_eq_true rfl) (p_70_2 ad cy _ _) eσ4 dX3_addFitting_45 ?_
  obtain ⟨rfl, rfl⟩ := os_e hf
  exact g_vret C rfl dX3_addFitting_48
def fX3_addFitting (σ : S0) (x1 : Int32) : Option (Int32 × S0) := obp (fX3_refusedBy σ x1) (fun r1 σ2 => if ¬ (σ2 70 2) = 0 then (fX3_addFitting_b28 σ2 r1) else (ol (su σ2 70 3 x1) (fun σ5 => ol (su σ5 70 4 r1) (fun σ6 => ol (su σ6 70 5 r1) (fun σ7 => fX3_addFitting_b28 σ7 r1)))))
set_option maxHeartbeats 1000000 in
set_option maxRecDepth 100000 in
theorem fX3_addFitting_ok {p : Program} {l : Launch} {e : Env} {s : State} {m : MethodId} {args : Array Value} {below : List Frame} {meth : Method} {c : Code} {dC : Nat → ClassId} {dI : Nat → Nat → Nat} {ad : Nat → Nat} {cy : Nat → ClassId} {sz : Nat} (C : Cx p s m args meth c RX3 cX3_addFitting 3 none dC dI ad cy sz) {rr : Int32} {ρ : S0} (σ : S0) (x1 : Int32)  (hf : fX3_addFitting σ x1 = some (rr, ρ)) : Gw p l e rm_X3_addFitting s m args below meth c (MQ below (QcV dC dI ad cy sz ρ) args s 0 0 (AW ad sz)) dC dI ad cy 3 sz 0 0 0 [(0, .ref (ad 70)), (1, .int x1)] [] σ := by
  unfold fX3_addFitting at hf
  refine g_aload_n C dX3_addFitting_0 rfl 0 rfl ?_
  refine g_iload_n C dX3_addFitting_1 rfl 1 rfl ?_
  obtain ⟨r1, σ2, h3, hf⟩ := obp_e hf
  refine g_callVi (As := [.int x1]) (rest := []) C (a_70 ad cy _) rfl (c_X3_refusedBy l dC dI ad cy x1) h3 hM_X3_41 cal_X3_refusedBy ⟨Nat.zero_le _, Nat.zero_le _⟩ ⟨rfl, rfl⟩ ⟨Nat.le_of_ble_eq_true rfl, Nat.le_of_ble_eq_true rfl⟩ rfl rfl (Nat.le_of_ble_eq_true rfl) dX3_addFitting_2 ?_
  refine g_istore_n (lv2 := [(0, .ref (ad 70)), (1, .int x1), (2, .int r1)]) C dX3_addFitting_5 rfl (by decide) [1, 2, 0] rfl ?_
  refine g_aload_n C dX3_addFitting_6 rfl 0 rfl ?_
  refine g_get C (a_70 ad cy _) rfl hin_X3 2 (by decide) hF_X3_45 rfl rfl dX3_addFitting_7 ?_
  rcases oi_e hf with ⟨c4, hf⟩ | ⟨c4, hf⟩
  · refine g_if_ne_t (tgt := 28) C dX3_addFitting_10 (by decide) c4 ?_
    exact g_sub [0, 2] rfl (fX3_addFitting_b28_ok C σ2 r1 hf)
  · refine g_if_ne_f (tgt := 28) C dX3_addFitting_10 (by decide) (Decidable.of_not_not c4) ?_
    refine g_aload_n C dX3_addFitting_13 rfl 0 rfl ?_
    refine g_iload_n C dX3_addFitting_14 rfl 1 rfl ?_
    obtain ⟨σ5, eσ5, hf⟩ := ol_e hf
    refine g_put (ty := .int) C (a_70 ad cy _) rfl hin_X3 tyX3 tyX3_ok nmX3 3 (by decide) hF_X3_59 rfl rfl (by decide +kernel) rfl rfl (Nat.le_of_ble_eq_true rfl) (p_70_3 ad cy _ _) eσ5 dX3_addFitting_15 ?_
    refine g_aload_n C dX3_addFitting_18 rfl 0 rfl ?_
    refine g_iload_n C dX3_addFitting_19 rfl 2 rfl ?_
    obtain ⟨σ6, eσ6, hf⟩ := ol_e hf
    refine g_put (ty := .int) C (a_70 ad cy _) rfl hin_X3 tyX3 tyX3_ok nmX3 4 (by decide) hF_X3_62 rfl rfl (by decide +kernel) rfl rfl (Nat.le_of_ble_eq_true rfl) (p_70_4 ad cy _ _) eσ6 dX3_addFitting_20 ?_
    refine g_aload_n C dX3_addFitting_23 rfl 0 rfl ?_
    refine g_iload_n C dX3_addFitting_24 rfl 2 rfl ?_
    obtain ⟨σ7, eσ7, hf⟩ := ol_e hf
    refine g_put (ty := .int) C (a_70 ad cy _) rfl hin_X3 tyX3 tyX3_ok nmX3 5 (by decide) hF_X3_65 rfl rfl (by decide +kernel) rfl rfl (Nat.le_of_ble_eq_true rfl) (p_70_5 ad cy _ _) eσ7 dX3_addFitting_25 ?_
    exact g_sub [0, 2] rfl (fX3_addFitting_b28_ok C σ7 r1 hf)
theorem c_X3_addFitting (l : Launch) (dC : Nat → ClassId) (dI : Nat → Nat → Nat) (ad : Nat → Nat) (cy : Nat → ClassId) (x1 : Int32) : ConV l yX3_addFitting cX3_addFitting 3 none rm_X3_addFitting dC dI ad cy [.ref (ad 70), .int x1] (fun σ => fX3_addFitting σ x1) := con_v (own := RX3) (by decide) rfl (Nat.le_of_ble_eq_true rfl) (fun _ _ _ _ _ _ _ _ σ _ _ C hf => fX3_addFitting_ok C σ x1 hf)
theorem cal_X3_addFitting : CalV yX3_addFitting RX3 cX3_addFitting 3 none 1 := ⟨hI_X3_addFitting, hS_X3_addFitting, hIni_X3, hC_X3_addFitting, by decide +kernel⟩
abbrev rm_X3_compareAll : Room := { frames := 2, cells := 0, slots := 0, locals := 47 }
def fX3_compareAll_b31 (sf_7 : S0 → Int32 → Option (Int32 × S0)) (σ : S0) (x1 : Int32) : Option (Int32 × S0) := ol (x1 + 1) (fun v1 => sf_7 σ v1)
set_option maxHeartbeats 1000000 in
set_option maxRecDepth 100000 in
theorem fX3_compareAll_b31_ok {p : Program} {l : Launch} {e : Env} {s : State} {m : MethodId} {args : Array Value} {below : List Frame} {meth : Method} {c : Code} {dC : Nat → ClassId} {dI : Nat → Nat → Nat} {ad : Nat → Nat} {cy : Nat → ClassId} {sz : Nat} (C : Cx p s m args meth c RX3 cX3_compareAll 2 none dC dI ad cy sz) {rr : Int32} {ρ : S0} (sf_7 : S0 → Int32 → Option (Int32 × S0)) (hs_7 : ∀ (σ : S0) (x1 : Int32) , sf_7 σ x1 = some (rr, ρ) → Gw p l e rm_X3_compareAll s m args below meth c (MQ below (QcV dC dI ad cy sz ρ) args s 0 0 (AW ad sz)) dC dI ad cy 2 sz 0 0 7 [(0, .ref (ad 70)), (1, .int x1)] [] σ) (σ : S0) (x1 : Int32)  (hf : fX3_compareAll_b31 sf_7 σ x1 = some (rr, ρ)) : Gw p l e rm_X3_compareAll s m args below meth c (MQ below (QcV dC dI ad cy sz ρ) args s 0 0 (AW ad sz)) dC dI ad cy 2 sz 0 0 31 [(0, .ref (ad 70)), (1, .int x1)] [] σ := by
  unfold fX3_compareAll_b31 at hf
  obtain ⟨v1, ev1, hf⟩ := ol_e hf
  refine g_iinc (j := 1) (w := 1) (lv2 := [(0, .ref (ad 70)), (1, .int v1)]) C dX3_compareAll_31 rfl (by decide) ev1 (by decide) [1, 0] rfl ?_
  refine g_goto (tgt := 7) C dX3_compareAll_34 (by decide) ?_
  exact g_sub [0, 1] rfl (hs_7 σ v1 hf)
def fX3_compareAll_b7 (sf_7 : S0 → Int32 → Option (Int32 × S0)) (σ : S0) (x1 : Int32) : Option (Int32 × S0) := if (σ 22 2) ≤ x1 then (some (0, σ)) else (obp (fX3_canBe σ x1) (fun r2 σ3 => if r2 = 0 then (fX3_compareAll_b31 sf_7 σ3 x1) else (obp (fX3_addFitting σ3 x1) (fun r6 σ7 => fX3_compareAll_b31 sf_7 σ7 x1))))
set_option maxHeartbeats 1000000 in
set_option maxRecDepth 100000 in
theorem fX3_compareAll_b7_ok {p : Program} {l : Launch} {e : Env} {s : State} {m : MethodId} {args : Array Value} {below : List Frame} {meth : Method} {c : Code} {dC : Nat → ClassId} {dI : Nat → Nat → Nat} {ad : Nat → Nat} {cy : Nat → ClassId} {sz : Nat} (C : Cx p s m args meth c RX3 cX3_compareAll 2 none dC dI ad cy sz) {rr : Int32} {ρ : S0} (sf_7 : S0 → Int32 → Option (Int32 × S0)) (hs_7 : ∀ (σ : S0) (x1 : Int32) , sf_7 σ x1 = some (rr, ρ) → Gw p l e rm_X3_compareAll s m args below meth c (MQ below (QcV dC dI ad cy sz ρ) args s 0 0 (AW ad sz)) dC dI ad cy 2 sz 0 0 7 [(0, .ref (ad 70)), (1, .int x1)] [] σ) (σ : S0) (x1 : Int32)  (hf : fX3_compareAll_b7 sf_7 σ x1 = some (rr, ρ)) : Gw p l e rm_X3_compareAll s m args below meth c (MQ below (QcV dC dI ad cy sz ρ) args s 0 0 (AW ad sz)) dC dI ad cy 2 sz 0 0 7 [(0, .ref (ad 70)), (1, .int x1)] [] σ := by
  unfold fX3_compareAll_b7 at hf
  refine g_iload_n C dX3_compareAll_7 rfl 1 rfl ?_
  refine g_aload_n C dX3_compareAll_8 rfl 0 rfl ?_
  refine g_get C (a_70 ad cy _) rfl hin_X3 0 (by decide) hF_X3_9 rfl rfl dX3_compareAll_9 ?_
  refine g_get C (a_22 ad cy _) rfl hin_X9 2 (by decide) hF_X3_48 rfl rfl dX3_compareAll_12 ?_
  rcases oi_e hf with ⟨c1, hf⟩ | ⟨c1, hf⟩
  · refine g_icmp_ge_t (tgt := 37) C dX3_compareAll_15 (by decide) c1 ?_
    obtain ⟨rfl, rfl⟩ := os_e hf
    exact g_vret C rfl dX3_compareAll_37
  · refine g_icmp_ge_f (tgt := 37) C dX3_compareAll_15 (by decide) c1 ?_
    refine g_aload_n C dX3_compareAll_18 rfl 0 rfl ?_
    refine g_iload_n C dX3_compareAll_19 rfl 1 rfl ?_
    obtain ⟨r2, σ3, h4, hf⟩ := obp_e hf
    refine g_callVi (As := [.int x1]) (rest := []) C (a_70 ad cy _) rfl (c_X3_canBe l dC dI ad cy x1) h4 hM_X3_51 cal_X3_canBe ⟨Nat.zero_le _, Nat.zero_le _⟩ ⟨rfl, rfl⟩ ⟨Nat.le_of_ble_eq_true rfl, Nat.le_of_ble_eq_true rfl⟩ rfl rfl (Nat.le_of_ble_eq_true rfl) dX3_compareAll_20 ?_
    rcases oi_e hf with ⟨c5, hf⟩ | ⟨c5, hf⟩
    · refine g_if_eq_t (tgt := 31) C dX3_compareAll_23 (by decide) c5 ?_
      exact g_sub [0, 1] rfl (fX3_compareAll_b31_ok C sf_7 hs_7 σ3 x1 hf)
    · refine g_if_eq_f (tgt := 31) C dX3_compareAll_23 (by decide) c5 ?_
      refine g_aload_n C dX3_compareAll_26 rfl 0 rfl ?_
      refine g_iload_n C dX3_compareAll_27 rfl 1 rfl ?_
      obtain ⟨r6, σ7, h8, hf⟩ := obp_e hf
      refine g_callVv (As := [.int x1]) (rest := []) C (a_70 ad cy _) rfl (c_X3_addFitting l dC dI ad cy x1) h8 hM_X3_55 cal_X3_addFitting ⟨Nat.zero_le _, Nat.zero_le _⟩ ⟨rfl, rfl⟩ ⟨Nat.le_of_ble_eq_true rfl, Nat.le_of_ble_eq_true rfl⟩ rfl rfl (Nat.le_of_ble_eq_true rfl) dX3_compareAll_28 ?_
      exact g_sub [0, 1] rfl (fX3_compareAll_b31_ok C sf_7 hs_7 σ7 x1 hf)
def fX3_compareAll_h7  : Nat → S0 → Int32 → Option (Int32 × S0)
  | 0 => fun _ _ => none
  | n + 1 => fun σ x1 => fX3_compareAll_b7  (fX3_compareAll_h7  n) σ x1
set_option maxHeartbeats 1000000 in
set_option maxRecDepth 100000 in
theorem fX3_compareAll_h7_ok {p : Program} {l : Launch} {e : Env} {s : State} {m : MethodId} {args : Array Value} {below : List Frame} {meth : Method} {c : Code} {dC : Nat → ClassId} {dI : Nat → Nat → Nat} {ad : Nat → Nat} {cy : Nat → ClassId} {sz : Nat} (C : Cx p s m args meth c RX3 cX3_compareAll 2 none dC dI ad cy sz) {rr : Int32} {ρ : S0}  : ∀ (n : Nat) (σ : S0) (x1 : Int32)  (_hf : fX3_compareAll_h7  n σ x1 = some (rr, ρ)), Gw p l e rm_X3_compareAll s m args below meth c (MQ below (QcV dC dI ad cy sz ρ) args s 0 0 (AW ad sz)) dC dI ad cy 2 sz 0 0 7 [(0, .ref (ad 70)), (1, .int x1)] [] σ
  | 0, _, _, hf => by cases hf
  | n + 1, σ, x1, hf => fX3_compareAll_b7_ok C  (fX3_compareAll_h7  n) (fX3_compareAll_h7_ok C  n) σ x1 hf
def fX3_compareAll (σ : S0)  : Option (Int32 × S0) := ol (su σ 70 2 0) (fun σ1 => fX3_compareAll_h7 400 σ1 0)
set_option maxHeartbeats 1000000 in
set_option maxRecDepth 100000 in
theorem fX3_compareAll_ok {p : Program} {l : Launch} {e : Env} {s : State} {m : MethodId} {args : Array Value} {below : List Frame} {meth : Method} {c : Code} {dC : Nat → ClassId} {dI : Nat → Nat → Nat} {ad : Nat → Nat} {cy : Nat → ClassId} {sz : Nat} (C : Cx p s m args meth c RX3 cX3_compareAll 2 none dC dI ad cy sz) {rr : Int32} {ρ : S0} (σ : S0)   (hf : fX3_compareAll σ = some (rr, ρ)) : Gw p l e rm_X3_compareAll s m args below meth c (MQ below (QcV dC dI ad cy sz ρ) args s 0 0 (AW ad sz)) dC dI ad cy 2 sz 0 0 0 [(0, .ref (ad 70))] [] σ := by
  unfold fX3_compareAll at hf
  refine g_aload_n C dX3_compareAll_0 rfl 0 rfl ?_
  refine g_iconst (v := 0) C dX3_compareAll_1 (by decide) ?_
  obtain ⟨σ1, eσ1, hf⟩ := ol_e hf
  refine g_put (ty := .int) C (a_70 ad cy _) rfl hin_X3 tyX3 tyX3_ok nmX3 2 (by decide) hF_X3_45 rfl rfl (by decide +kernel) rfl rfl (Nat.le_of_ble_eq_true rfl) (p_70_2 ad cy _ _) eσ1 dX3_compareAll_2 ?_
  refine g_iconst (v := 0) C dX3_compareAll_5 (by decide) ?_
  refine g_istore_n (lv2 := [(0, .ref (ad 70)), (1, .int 0)]) C dX3_compareAll_6 rfl (by decide) [1, 0] rfl ?_
  exact g_sub [0, 1] rfl (fX3_compareAll_h7_ok C 400 σ1 0 hf)
theorem c_X3_compareAll (l : Launch) (dC : Nat → ClassId) (dI : Nat → Nat → Nat) (ad : Nat → Nat) (cy : Nat → ClassId)  : ConV l yX3_compareAll cX3_compareAll 2 none rm_X3_compareAll dC dI ad cy [.ref (ad 70)] (fun σ => fX3_compareAll σ) := con_v (own := RX3) (by decide) rfl (Nat.le_of_ble_eq_true rfl) (fun _ _ _ _ _ _ _ _ σ _ _ C hf => fX3_compareAll_ok C σ  hf)
theorem cal_X3_compareAll : CalV yX3_compareAll RX3 cX3_compareAll 2 none 0 := ⟨hI_X3_compareAll, hS_X3_compareAll, hIni_X3, hC_X3_compareAll, by decide +kernel⟩
abbrev rm_X5_refuse : Room := { frames := 0, cells := 0, slots := 0, locals := 0 }
def fX5_refuse (σ : S0) (x1 : Int32) : Option (Int32 × S0) := ol (su σ 3 5 x1) (fun σ1 => ol (σ1 1 4) (fun v2 => ol (su σ1 3 6 v2) (fun σ3 => some (0, σ3))))
set_option maxHeartbeats 1000000 in
set_option maxRecDepth 100000 in
theorem fX5_refuse_ok {p : Program} {l : Launch} {e : Env} {s : State} {m : MethodId} {args : Array Value} {below : List Frame} {meth : Method} {c : Code} {dC : Nat → ClassId} {dI : Nat → Nat → Nat} {ad : Nat → Nat} {cy : Nat → ClassId} {sz : Nat} (C : Cx p s m args meth c RX5 cX5_refuse 2 (some .boolean) dC dI ad cy sz) {rr : Int32} {ρ : S0} (σ : S0) (x1 : Int32)  (hf : fX5_refuse σ x1 = some (rr, ρ)) : Gw p l e rm_X5_refuse s m args below meth c (MQ below (QcI dC dI ad cy sz rr ρ) args s 0 0 (AW ad sz)) dC dI ad cy 2 sz 0 0 0 [(0, .ref (ad 3)), (1, .int x1)] [] σ := by
  unfold fX5_refuse at hf
  refine g_aload_n C dX5_refuse_0 rfl 0 rfl ?_
  refine g_iload_n C dX5_refuse_1 rfl 1 rfl ?_
  obtain ⟨σ1, eσ1, hf⟩ := ol_e hf
  refine g_put (ty := .int) C (a_3 ad cy _) rfl hin_X5 tyX5 tyX5_ok nmX5 5 (by decide) hF_X5_36 rfl rfl (by decide +kernel) rfl rfl (Nat.le_of_ble_eq_true rfl) (p_3_5 ad cy _ _) eσ1 dX5_refuse_2 ?_
  refine g_aload_n C dX5_refuse_5 rfl 0 rfl ?_
  refine g_aload_n C dX5_refuse_6 rfl 0 rfl ?_
  refine g_get C (a_3 ad cy _) rfl hin_X5 0 (by decide) hF_X5_18 rfl rfl dX5_refuse_7 ?_
  refine g_get C (a_1 ad cy _) rfl hin_X8 4 (by decide) hF_X5_162 rfl rfl dX5_refuse_10 ?_
  obtain ⟨v2, ev2, hf⟩ := ol_e hf
  refine g_nm ev2 ?_
  obtain ⟨σ3, eσ3, hf⟩ := ol_e hf
  refine g_put (ty := .int) C (a_3 ad cy _) rfl hin_X5 tyX5 tyX5_ok nmX5 6 (by decide) hF_X5_165 rfl rfl (by decide +kernel) rfl rfl (Nat.le_of_ble_eq_true rfl) (p_3_6 ad cy _ _) eσ3 dX5_refuse_13 ?_
  refine g_iconst (v := 0) C dX5_refuse_16 (by decide) ?_
  obtain ⟨rfl, rfl⟩ := os_e hf
  exact g_zret C rfl (by decide) dX5_refuse_17
theorem c_X5_refuse (l : Launch) (dC : Nat → ClassId) (dI : Nat → Nat → Nat) (ad : Nat → Nat) (cy : Nat → ClassId) (x1 : Int32) : ConI l yX5_refuse cX5_refuse 2 (some .boolean) rm_X5_refuse dC dI ad cy [.ref (ad 3), .int x1] (fun σ => fX5_refuse σ x1) := con_i (own := RX5) (by decide) rfl (Nat.le_of_ble_eq_true rfl) (fun _ _ _ _ _ _ _ _ σ _ _ C hf => fX5_refuse_ok C σ x1 hf)
theorem cal_X5_refuse : CalV yX5_refuse RX5 cX5_refuse 2 (some .boolean) 1 := ⟨hI_X5_refuse, hS_X5_refuse, hIni_X5, hC_X5_refuse, by decide +kernel⟩
abbrev rm_X5_advance : Room := { frames := 1, cells := 0, slots := 0, locals := 21 }
def fX5_advance_b26  (σ : S0)  : Option (Int32 × S0) := some (1, σ)
set_option maxHeartbeats 1000000 in
set_option maxRecDepth 100000 in
theorem fX5_advance_b26_ok {p : Program} {l : Launch} {e : Env} {s : State} {m : MethodId} {args : Array Value} {below : List Frame} {meth : Method} {c : Code} {dC : Nat → ClassId} {dI : Nat → Nat → Nat} {ad : Nat → Nat} {cy : Nat → ClassId} {sz : Nat} (C : Cx p s m args meth c RX5 cX5_advance 1 (some .boolean) dC dI ad cy sz) {rr : Int32} {ρ : S0}  (σ : S0)   (hf : fX5_advance_b26 σ = some (rr, ρ)) : Gw p l e rm_X5_advance s m args below meth c (MQ below (QcI dC dI ad cy sz rr ρ) args s 0 0 (AW ad sz)) dC dI ad cy 1 sz 0 0 26 [] [] σ := by
  unfold fX5_advance_b26 at hf
  refine g_iconst (v := 1) C dX5_advance_26 (by decide) ?_
  refine g_goto (tgt := 31) C dX5_advance_27 (by decide) ?_
  obtain ⟨rfl, rfl⟩ := os_e hf
  exact g_zret C rfl (by decide) dX5_advance_31
def fX5_advance (σ : S0)  : Option (Int32 × S0) := obp (fX8_readToken σ) (fun r1 σ2 => if ¬ (σ2 1 3) = 4 then (fX5_advance_b26 σ2) else (obp (fX5_refuse σ2 ((1 : Int32))) (fun r5 σ6 => if r5 = 0 then (some (0, σ6)) else (fX5_advance_b26 σ6))))
set_option maxHeartbeats 1000000 in
set_option maxRecDepth 100000 in
theorem fX5_advance_ok {p : Program} {l : Launch} {e : Env} {s : State} {m : MethodId} {args : Array Value} {below : List Frame} {meth : Method} {c : Code} {dC : Nat → ClassId} {dI : Nat → Nat → Nat} {ad : Nat → Nat} {cy : Nat → ClassId} {sz : Nat} (C : Cx p s m args meth c RX5 cX5_advance 1 (some .boolean) dC dI ad cy sz) {rr : Int32} {ρ : S0} (σ : S0)   (hf : fX5_advance σ = some (rr, ρ)) : Gw p l e rm_X5_advance s m args below meth c (MQ below (QcI dC dI ad cy sz rr ρ) args s 0 0 (AW ad sz)) dC dI ad cy 1 sz 0 0 0 [(0, .ref (ad 3))] [] σ := by
  unfold fX5_advance at hf
  refine g_aload_n C dX5_advance_0 rfl 0 rfl ?_
  refine g_get C (a_3 ad cy _) rfl hin_X5 0 (by decide) hF_X5_18 rfl rfl dX5_advance_1 ?_
  obtain ⟨r1, σ2, h3, hf⟩ := obp_e hf
  refine g_callVv (As := []) (rest := []) C (a_1 ad cy _) rfl (c_X8_readToken l dC dI ad cy ) h3 hM_X5_159 cal_X8_readToken ⟨Nat.zero_le _, Nat.zero_le _⟩ ⟨rfl, rfl⟩ ⟨Nat.le_of_ble_eq_true rfl, Nat.le_of_ble_eq_true rfl⟩ rfl rfl (Nat.le_of_ble_eq_true rfl) dX5_advance_4 ?_
  refine g_aload_n C dX5_advance_7 rfl 0 rfl ?_
  refine g_get C (a_3 ad cy _) rfl hin_X5 0 (by decide) hF_X5_18 rfl rfl dX5_advance_8 ?_
  refine g_get C (a_1 ad cy _) rfl hin_X8 3 (by decide) hF_X5_48 rfl rfl dX5_advance_11 ?_
  refine g_iconst (v := 4) C dX5_advance_14 (by decide) ?_
  rcases oi_e hf with ⟨c4, hf⟩ | ⟨c4, hf⟩
  · refine g_icmp_ne_t (tgt := 26) C dX5_advance_15 (by decide) c4 ?_
    exact g_sub [] rfl (fX5_advance_b26_ok C σ2 hf)
  · refine g_icmp_ne_f (tgt := 26) C dX5_advance_15 (by decide) (Decidable.of_not_not c4) ?_
    refine g_aload_n C dX5_advance_18 rfl 0 rfl ?_
    refine g_iconst (v := 1) C dX5_advance_19 (by decide) ?_
    obtain ⟨r5, σ6, h7, hf⟩ := obp_e hf
    refine g_callVi (As := [.int 1]) (rest := []) C (a_3 ad cy _) rfl (c_X5_refuse l dC dI ad cy ((1 : Int32))) h7 hM_X5_57 cal_X5_refuse ⟨Nat.zero_le _, Nat.zero_le _⟩ ⟨rfl, rfl⟩ ⟨Nat.le_of_ble_eq_true rfl, Nat.le_of_ble_eq_true rfl⟩ rfl rfl (Nat.le_of_ble_eq_true rfl) dX5_advance_20 ?_
    rcases oi_e hf with ⟨c8, hf⟩ | ⟨c8, hf⟩
    · refine g_if_eq_t (tgt := 30) C dX5_advance_23 (by decide) c8 ?_
      refine g_iconst (v := 0) C dX5_advance_30 (by decide) ?_
      obtain ⟨rfl, rfl⟩ := os_e hf
      exact g_zret C rfl (by decide) dX5_advance_31
    · refine g_if_eq_f (tgt := 30) C dX5_advance_23 (by decide) c8 ?_
      exact g_sub [] rfl (fX5_advance_b26_ok C σ6 hf)
theorem c_X5_advance (l : Launch) (dC : Nat → ClassId) (dI : Nat → Nat → Nat) (ad : Nat → Nat) (cy : Nat → ClassId)  : ConI l yX5_advance cX5_advance 1 (some .boolean) rm_X5_advance dC dI ad cy [.ref (ad 3)] (fun σ => fX5_advance σ) := con_i (own := RX5) (by decide) rfl (Nat.le_of_ble_eq_true rfl) (fun _ _ _ _ _ _ _ _ σ _ _ C hf => fX5_advance_ok C σ  hf)
theorem cal_X5_advance : CalV yX5_advance RX5 cX5_advance 1 (some .boolean) 0 := ⟨hI_X5_advance, hS_X5_advance, hIni_X5, hC_X5_advance, by decide +kernel⟩
abbrev rm_X5_faultOfNumber : Room := { frames := 0, cells := 0, slots := 0, locals := 0 }
def fX5_faultOfNumber_b48  (σ : S0)  : Option (Int32 × S0) := some (3, σ)
set_option maxHeartbeats 1000000 in
set_option maxRecDepth 100000 in
theorem fX5_faultOfNumber_b48_ok {p : Program} {l : Launch} {e : Env} {s : State} {m : MethodId} {args : Array Value} {below : List Frame} {meth : Method} {c : Code} {dC : Nat → ClassId} {dI : Nat → Nat → Nat} {ad : Nat → Nat} {cy : Nat → ClassId} {sz : Nat} (C : Cx p s m args meth c RX5 cX5_faultOfNumber 3 (some .int) dC dI ad cy sz) {rr : Int32} {ρ : S0}  (σ : S0)   (hf : fX5_faultOfNumber_b48 σ = some (rr, ρ)) : Gw p l e rm_X5_faultOfNumber s m args below meth c (MQ below (QcI dC dI ad cy sz rr ρ) args s 0 0 (AW ad sz)) dC dI ad cy 3 sz 0 0 48 [] [] σ := by
  unfold fX5_faultOfNumber_b48 at hf
  refine g_iconst (v := 3) C dX5_faultOfNumber_48 (by decide) ?_
  refine g_goto (tgt := 53) C dX5_faultOfNumber_49 (by decide) ?_
  obtain ⟨rfl, rfl⟩ := os_e hf
  exact g_iret C rfl dX5_faultOfNumber_53
def fX5_faultOfNumber (σ : S0) (x1 : Int32) (x2 : Int32) : Option (Int32 × S0) := if ¬ (σ 1 3) = 4 then (if (σ 1 3) = 2 then (if (σ 1 5) < x1 then (fX5_faultOfNumber_b48 σ) else (if (σ 1 5) ≤ x2 then (some (0, σ)) else (fX5_faultOfNumber_b48 σ))) else (some (2, σ))) else (some (1, σ))
set_option maxHeartbeats 1000000 in
set_option maxRecDepth 100000 in
theorem fX5_faultOfNumber_ok {p : Program} {l : Launch} {e : Env} {s : State} {m : MethodId} {args : Array Value} {below : List Frame} {meth : Method} {c : Code} {dC : Nat → ClassId} {dI : Nat → Nat → Nat} {ad : Nat → Nat} {cy : Nat → ClassId} {sz : Nat} (C : Cx p s m args meth c RX5 cX5_faultOfNumber 3 (some .int) dC dI ad cy sz) {rr : Int32} {ρ : S0} (σ : S0) (x1 : Int32) (x2 : Int32)  (hf : fX5_faultOfNumber σ x1 x2 = some (rr, ρ)) : Gw p l e rm_X5_faultOfNumber s m args below meth c (MQ below (QcI dC dI ad cy sz rr ρ) args s 0 0 (AW ad sz)) dC dI ad cy 3 sz 0 0 0 [(0, .ref (ad 3)), (1, .int x1), (2, .int x2)] [] σ := by
  unfold fX5_faultOfNumber at hf
  refine g_aload_n C dX5_faultOfNumber_0 rfl 0 rfl ?_
  refine g_get C (a_3 ad cy _) rfl hin_X5 0 (by decide) hF_X5_18 rfl rfl dX5_faultOfNumber_1 ?_
  refine g_get C (a_1 ad cy _) rfl hin_X8 3 (by decide) hF_X5_48 rfl rfl dX5_faultOfNumber_4 ?_
  refine g_iconst (v := 4) C dX5_faultOfNumber_7 (by decide) ?_
  rcases oi_e hf with ⟨c1, hf⟩ | ⟨c1, hf⟩
  · refine g_icmp_ne_t (tgt := 13) C dX5_faultOfNumber_8 (by decide) c1 ?_
    refine g_aload_n C dX5_faultOfNumber_13 rfl 0 rfl ?_
    refine g_get C (a_3 ad cy _) rfl hin_X5 0 (by decide) hF_X5_18 rfl rfl dX5_faultOfNumber_14 ?_
    refine g_get C (a_1 ad cy _) rfl hin_X8 3 (by decide) hF_X5_48 rfl rfl dX5_faultOfNumber_17 ?_
    refine g_iconst (v := 2) C dX5_faultOfNumber_20 (by decide) ?_
    rcases oi_e hf with ⟨c2, hf⟩ | ⟨c2, hf⟩
    · refine g_icmp_eq_t (tgt := 26) C dX5_faultOfNumber_21 (by decide) c2 ?_
      refine g_aload_n C dX5_faultOfNumber_26 rfl 0 rfl ?_
      refine g_get C (a_3 ad cy _) rfl hin_X5 0 (by decide) hF_X5_18 rfl rfl dX5_faultOfNumber_27 ?_
      refine g_get C (a_1 ad cy _) rfl hin_X8 5 (by decide) hF_X5_94 rfl rfl dX5_faultOfNumber_30 ?_
      refine g_iload_n C dX5_faultOfNumber_33 rfl 1 rfl ?_
      rcases oi_e hf with ⟨c3, hf⟩ | ⟨c3, hf⟩
      · refine g_icmp_lt_t (tgt := 48) C dX5_faultOfNumber_34 (by decide) c3 ?_
        exact g_sub [] rfl (fX5_faultOfNumber_b48_ok C σ hf)
      · refine g_icmp_lt_f (tgt := 48) C dX5_faultOfNumber_34 (by decide) c3 ?_
        refine g_aload_n C dX5_faultOfNumber_37 rfl 0 rfl ?_
        refine g_get C (a_3 ad cy _) rfl hin_X5 0 (by decide) hF_X5_18 rfl rfl dX5_faultOfNumber_38 ?_
        refine g_get C (a_1 ad cy _) rfl hin_X8 5 (by decide) hF_X5_94 rfl rfl dX5_faultOfNumber_41 ?_
        refine g_iload_n C dX5_faultOfNumber_44 rfl 2 rfl ?_
        rcases oi_e hf with ⟨c4, hf⟩ | ⟨c4, hf⟩
        · refine g_icmp_le_t (tgt := 52) C dX5_faultOfNumber_45 (by decide) c4 ?_
          refine g_iconst (v := 0) C dX5_faultOfNumber_52 (by decide) ?_
          obtain ⟨rfl, rfl⟩ := os_e hf
          exact g_iret C rfl dX5_faultOfNumber_53
        · refine g_icmp_le_f (tgt := 52) C dX5_faultOfNumber_45 (by decide) c4 ?_
          exact g_sub [] rfl (fX5_faultOfNumber_b48_ok C σ hf)
    · refine g_icmp_eq_f (tgt := 26) C dX5_faultOfNumber_21 (by decide) c2 ?_
      refine g_iconst (v := 2) C dX5_faultOfNumber_24 (by decide) ?_
      obtain ⟨rfl, rfl⟩ := os_e hf
      exact g_iret C rfl dX5_faultOfNumber_25
  · refine g_icmp_ne_f (tgt := 13) C dX5_faultOfNumber_8 (by decide) (Decidable.of_not_not c1) ?_
    refine g_iconst (v := 1) C dX5_faultOfNumber_11 (by decide) ?_
    obtain ⟨rfl, rfl⟩ := os_e hf
    exact g_iret C rfl dX5_faultOfNumber_12
theorem c_X5_faultOfNumber (l : Launch) (dC : Nat → ClassId) (dI : Nat → Nat → Nat) (ad : Nat → Nat) (cy : Nat → ClassId) (x1 : Int32) (x2 : Int32) : ConI l yX5_faultOfNumber cX5_faultOfNumber 3 (some .int) rm_X5_faultOfNumber dC dI ad cy [.ref (ad 3), .int x1, .int x2] (fun σ => fX5_faultOfNumber σ x1 x2) := con_i (own := RX5) (by decide) rfl (Nat.le_of_ble_eq_true rfl) (fun _ _ _ _ _ _ _ _ σ _ _ C hf => fX5_faultOfNumber_ok C σ x1 x2 hf)
theorem cal_X5_faultOfNumber : CalV yX5_faultOfNumber RX5 cX5_faultOfNumber 3 (some .int) 2 := ⟨hI_X5_faultOfNumber, hS_X5_faultOfNumber, hIni_X5, hC_X5_faultOfNumber, by decide +kernel⟩
abbrev rm_X5_nextNumber : Room := { frames := 1, cells := 0, slots := 0, locals := 22 }
def fX5_nextNumber_b26  (σ : S0)  : Option (Int32 × S0) := some (1, σ)
set_option maxHeartbeats 1000000 in
set_option maxRecDepth 100000 in
theorem fX5_nextNumber_b26_ok {p : Program} {l : Launch} {e : Env} {s : State} {m : MethodId} {args : Array Value} {below : List Frame} {meth : Method} {c : Code} {dC : Nat → ClassId} {dI : Nat → Nat → Nat} {ad : Nat → Nat} {cy : Nat → ClassId} {sz : Nat} (C : Cx p s m args meth c RX5 cX5_nextNumber 4 (some .boolean) dC dI ad cy sz) {rr : Int32} {ρ : S0}  (σ : S0)   (hf : fX5_nextNumber_b26 σ = some (rr, ρ)) : Gw p l e rm_X5_nextNumber s m args below meth c (MQ below (QcI dC dI ad cy sz rr ρ) args s 0 0 (AW ad sz)) dC dI ad cy 4 sz 0 0 26 [] [] σ := by
  unfold fX5_nextNumber_b26 at hf
  refine g_iconst (v := 1) C dX5_nextNumber_26 (by decide) ?_
  refine g_goto (tgt := 31) C dX5_nextNumber_27 (by decide) ?_
  obtain ⟨rfl, rfl⟩ := os_e hf
  exact g_zret C rfl (by decide) dX5_nextNumber_31
def fX5_nextNumber (σ : S0) (x1 : Int32) (x2 : Int32) : Option (Int32 × S0) := obp (fX8_readToken σ) (fun r1 σ2 => obp (fX5_faultOfNumber σ2 x1 x2) (fun r4 σ5 => if r4 = 0 then (fX5_nextNumber_b26 σ5) else (obp (fX5_refuse σ5 r4) (fun r8 σ9 => if r8 = 0 then (some (0, σ9)) else (fX5_nextNumber_b26 σ9)))))
set_option maxHeartbeats 1000000 in
set_option maxRecDepth 100000 in
theorem fX5_nextNumber_ok {p : Program} {l : Launch} {e : Env} {s : State} {m : MethodId} {args : Array Value} {below : List Frame} {meth : Method} {c : Code} {dC : Nat → ClassId} {dI : Nat → Nat → Nat} {ad : Nat → Nat} {cy : Nat → ClassId} {sz : Nat} (C : Cx p s m args meth c RX5 cX5_nextNumber 4 (some .boolean) dC dI ad cy sz) {rr : Int32} {ρ : S0} (σ : S0) (x1 : Int32) (x2 : Int32)  (hf : fX5_nextNumber σ x1 x2 = some (rr, ρ)) : Gw p l e rm_X5_nextNumber s m args below meth c (MQ below (QcI dC dI ad cy sz rr ρ) args s 0 0 (AW ad sz)) dC dI ad cy 4 sz 0 0 0 [(0, .ref (ad 3)), (1, .int x1), (2, .int x2)] [] σ := by
  unfold fX5_nextNumber at hf
  refine g_aload_n C dX5_nextNumber_0 rfl 0 rfl ?_
  refine g_get C (a_3 ad cy _) rfl hin_X5 0 (by decide) hF_X5_18 rfl rfl dX5_nextNumber_1 ?_
  obtain ⟨r1, σ2, h3, hf⟩ := obp_e hf
  refine g_callVv (As := []) (rest := []) C (a_1 ad cy _) rfl (c_X8_readToken l dC dI ad cy ) h3 hM_X5_159 cal_X8_readToken ⟨Nat.zero_le _, Nat.zero_le _⟩ ⟨rfl, rfl⟩ ⟨Nat.le_of_ble_eq_true rfl, Nat.le_of_ble_eq_true rfl⟩ rfl rfl (Nat.le_of_ble_eq_true rfl) dX5_nextNumber_4 ?_
  refine g_aload_n C dX5_nextNumber_7 rfl 0 rfl ?_
  refine g_iload_n C dX5_nextNumber_8 rfl 1 rfl ?_
  refine g_iload_n C dX5_nextNumber_9 rfl 2 rfl ?_
  obtain ⟨r4, σ5, h6, hf⟩ := obp_e hf
  refine g_callVi (As := [.int x1, .int x2]) (rest := []) C (a_3 ad cy _) rfl (c_X5_faultOfNumber l dC dI ad cy x1 x2) h6 hM_X5_144 cal_X5_faultOfNumber ⟨Nat.zero_le _, Nat.zero_le _⟩ ⟨rfl, rfl⟩ ⟨Nat.le_of_ble_eq_true rfl, Nat.le_of_ble_eq_true rfl⟩ rfl rfl (Nat.le_of_ble_eq_true rfl) dX5_nextNumber_10 ?_
  refine g_istore_n (lv2 := [(0, .ref (ad 3)), (1, .int x1), (2, .int x2), (3, .int r4)]) C dX5_nextNumber_13 rfl (by decide) [1, 2, 3, 0] rfl ?_
  refine g_iload_n C dX5_nextNumber_14 rfl 3 rfl ?_
  rcases oi_e hf with ⟨c7, hf⟩ | ⟨c7, hf⟩
  · refine g_if_eq_t (tgt := 26) C dX5_nextNumber_15 (by decide) c7 ?_
    exact g_sub [] rfl (fX5_nextNumber_b26_ok C σ5 hf)
  · refine g_if_eq_f (tgt := 26) C dX5_nextNumber_15 (by decide) c7 ?_
    refine g_aload_n C dX5_nextNumber_18 rfl 0 rfl ?_
    refine g_iload_n C dX5_nextNumber_19 rfl 3 rfl ?_
    obtain ⟨r8, σ9, h10, hf⟩ := obp_e hf
    refine g_callVi (As := [.int r4]) (rest := []) C (a_3 ad cy _) rfl (c_X5_refuse l dC dI ad cy r4) h10 hM_X5_57 cal_X5_refuse ⟨Nat.zero_le _, Nat.zero_le _⟩ ⟨rfl, rfl⟩ ⟨Nat.le_of_ble_eq_true rfl, Nat.le_of_ble_eq_true rfl⟩ rfl rfl (Nat.le_of_ble_eq_true rfl) dX5_nextNumber_20 ?_
    rcases oi_e hf with ⟨c11, hf⟩ | ⟨c11, hf⟩
    · refine g_if_eq_t (tgt := 30) C dX5_nextNumber_23 (by decide) c11 ?_
      refine g_iconst (v := 0) C dX5_nextNumber_30 (by decide) ?_
      obtain ⟨rfl, rfl⟩ := os_e hf
      exact g_zret C rfl (by decide) dX5_nextNumber_31
    · refine g_if_eq_f (tgt := 30) C dX5_nextNumber_23 (by decide) c11 ?_
      exact g_sub [] rfl (fX5_nextNumber_b26_ok C σ9 hf)
theorem c_X5_nextNumber (l : Launch) (dC : Nat → ClassId) (dI : Nat → Nat → Nat) (ad : Nat → Nat) (cy : Nat → ClassId) (x1 : Int32) (x2 : Int32) : ConI l yX5_nextNumber cX5_nextNumber 4 (some .boolean) rm_X5_nextNumber dC dI ad cy [.ref (ad 3), .int x1, .int x2] (fun σ => fX5_nextNumber σ x1 x2) := con_i (own := RX5) (by decide) rfl (Nat.le_of_ble_eq_true rfl) (fun _ _ _ _ _ _ _ _ σ _ _ C hf => fX5_nextNumber_ok C σ x1 x2 hf)
theorem cal_X5_nextNumber : CalV yX5_nextNumber RX5 cX5_nextNumber 4 (some .boolean) 2 := ⟨hI_X5_nextNumber, hS_X5_nextNumber, hIni_X5, hC_X5_nextNumber, by decide +kernel⟩
abbrev rm_X5_endLine : Room := { frames := 2, cells := 0, slots := 0, locals := 41 }
def fX5_endLine (σ : S0)  : Option (Int32 × S0) := if ¬ (σ 1 3) = 3 then (obp (fX5_refuse σ ((2 : Int32))) (fun r2 σ3 => og (r2 = 0 ∨ r2 = 1) (some (r2, σ3)))) else (obp (fX5_advance σ) (fun r6 σ7 => og (r6 = 0 ∨ r6 = 1) (some (r6, σ7))))
set_option maxHeartbeats 1000000 in
set_option maxRecDepth 100000 in
theorem fX5_endLine_ok {p : Program} {l : Launch} {e : Env} {s : State} {m : MethodId} {args : Array Value} {below : List Frame} {meth : Method} {c : Code} {dC : Nat → ClassId} {dI : Nat → Nat → Nat} {ad : Nat → Nat} {cy : Nat → ClassId} {sz : Nat} (C : Cx p s m args meth c RX5 cX5_endLine 1 (some .boolean) dC dI ad cy sz) {rr : Int32} {ρ : S0} (σ : S0)   (hf : fX5_endLine σ = some (rr, ρ)) : Gw p l e rm_X5_endLine s m args below meth c (MQ below (QcI dC dI ad cy sz rr ρ) args s 0 0 (AW ad sz)) dC dI ad cy 1 sz 0 0 0 [(0, .ref (ad 3))] [] σ := by
  unfold fX5_endLine at hf
  refine g_aload_n C dX5_endLine_0 rfl 0 rfl ?_
  refine g_get C (a_3 ad cy _) rfl hin_X5 0 (by decide) hF_X5_18 rfl rfl dX5_endLine_1 ?_
  refine g_get C (a_1 ad cy _) rfl hin_X8 3 (by decide) hF_X5_48 rfl rfl dX5_endLine_4 ?_
  refine g_iconst (v := 3) C dX5_endLine_7 (by decide) ?_
  rcases oi_e hf with ⟨c1, hf⟩ | ⟨c1, hf⟩
  · refine g_icmp_ne_t (tgt := 18) C dX5_endLine_8 (by decide) c1 ?_
    refine g_aload_n C dX5_endLine_18 rfl 0 rfl ?_
    refine g_iconst (v := 2) C dX5_endLine_19 (by decide) ?_
    obtain ⟨r2, σ3, h4, hf⟩ := obp_e hf
    refine g_callVi (As := [.int 2]) (rest := []) C (a_3 ad cy _) rfl (c_X5_refuse l dC dI ad cy ((2 : Int32))) h4 hM_X5_57 cal_X5_refuse ⟨Nat.zero_le _, Nat.zero_le _⟩ ⟨rfl, rfl⟩ ⟨Nat.le_of_ble_eq_true rfl, Nat.le_of_ble_eq_true rfl⟩ rfl rfl (Nat.le_of_ble_eq_true rfl) dX5_endLine_20 ?_
    obtain ⟨h5, hf⟩ := og_e hf
    obtain ⟨rfl, rfl⟩ := os_e hf
    exact g_zret C rfl (zb_ok h5) dX5_endLine_23
  · refine g_icmp_ne_f (tgt := 18) C dX5_endLine_8 (by decide) (Decidable.of_not_not c1) ?_
    refine g_aload_n C dX5_endLine_11 rfl 0 rfl ?_
    obtain ⟨r6, σ7, h8, hf⟩ := obp_e hf
    refine g_callVi (As := []) (rest := []) C (a_3 ad cy _) rfl (c_X5_advance l dC dI ad cy ) h8 hM_X5_44 cal_X5_advance ⟨Nat.zero_le _, Nat.zero_le _⟩ ⟨rfl, rfl⟩ ⟨Nat.le_of_ble_eq_true rfl, Nat.le_of_ble_eq_true rfl⟩ rfl rfl (Nat.le_of_ble_eq_true rfl) dX5_endLine_12 ?_
    refine g_goto (tgt := 23) C dX5_endLine_15 (by decide) ?_
    obtain ⟨h9, hf⟩ := og_e hf
    obtain ⟨rfl, rfl⟩ := os_e hf
    exact g_zret C rfl (zb_ok h9) dX5_endLine_23
theorem c_X5_endLine (l : Launch) (dC : Nat → ClassId) (dI : Nat → Nat → Nat) (ad : Nat → Nat) (cy : Nat → ClassId)  : ConI l yX5_endLine cX5_endLine 1 (some .boolean) rm_X5_endLine dC dI ad cy [.ref (ad 3)] (fun σ => fX5_endLine σ) := con_i (own := RX5) (by decide) rfl (Nat.le_of_ble_eq_true rfl) (fun _ _ _ _ _ _ _ _ σ _ _ C hf => fX5_endLine_ok C σ  hf)
theorem cal_X5_endLine : CalV yX5_endLine RX5 cX5_endLine 1 (some .boolean) 0 := ⟨hI_X5_endLine, hS_X5_endLine, hIni_X5, hC_X5_endLine, by decide +kernel⟩
abbrev rm_X5_readHouses : Room := { frames := 3, cells := 0, slots := 0, locals := 61 }
def fX5_readHouses (σ : S0)  : Option (Int32 × S0) := if (σ 3 2) = 0 then (ol (su σ 3 2 1) (fun σ2 => obp (fX5_nextNumber σ2 ((1 : Int32)) ((6 : Int32))) (fun r3 σ4 => if ¬ r3 = 0 then (ol (σ4 1 5) (fun v7 => ol (su σ4 4 0 v7) (fun σ8 => obp (fX5_advance σ8) (fun r9 σ10 => if r9 = 0 then (some (0, σ10)) else (obp (fX5_endLine σ10) (fun r13 σ14 => if r13 = 0 then (some (0, σ14)) else (some (1, σ14)))))))) else (some (0, σ4))))) else (obp (fX5_refuse σ ((4 : Int32))) (fun r17 σ18 => og (r17 = 0 ∨ r17 = 1) (some (r17, σ18))))
set_option maxHeartbeats 1000000 in
set_option maxRecDepth 100000 in
theorem fX5_readHouses_ok {p : Program} {l : Launch} {e : Env} {s : State} {m : MethodId} {args : Array Value} {below : List Frame} {meth : Method} {c : Code} {dC : Nat → ClassId} {dI : Nat → Nat → Nat} {ad : Nat → Nat} {cy : Nat → ClassId} {sz : Nat} (C : Cx p s m args meth c RX5 cX5_readHouses 1 (some .boolean) dC dI ad cy sz) {rr : Int32} {ρ : S0} (σ : S0)   (hf : fX5_readHouses σ = some (rr, ρ)) : Gw p l e rm_X5_readHouses s m args below meth c (MQ below (QcI dC dI ad cy sz rr ρ) args s 0 0 (AW ad sz)) dC dI ad cy 1 sz 0 0 0 [(0, .ref (ad 3))] [] σ := by
  unfold fX5_readHouses at hf
  refine g_aload_n C dX5_readHouses_0 rfl 0 rfl ?_
  refine g_get C (a_3 ad cy _) rfl hin_X5 2 (by decide) hF_X5_25 rfl rfl dX5_readHouses_1 ?_
  rcases oi_e hf with ⟨c1, hf⟩ | ⟨c1, hf⟩
  · refine g_if_eq_t (tgt := 13) C dX5_readHouses_4 (by decide) c1 ?_
    refine g_aload_n C dX5_readHouses_13 rfl 0 rfl ?_
    refine g_iconst (v := 1) C dX5_readHouses_14 (by decide) ?_
    obtain ⟨σ2, eσ2, hf⟩ := ol_e hf
    refine g_put (ty := .boolean) C (a_3 ad cy _) rfl hin_X5 tyX5 tyX5_ok nmX5 2 (by decide) hF_X5_25 rfl rfl (by decide +kernel) rfl rfl (Nat.le_of_ble_eq_true rfl) (p_3_2 ad cy _ _) eσ2 dX5_readHouses_15 ?_
    refine g_aload_n C dX5_readHouses_18 rfl 0 rfl ?_
    refine g_iconst (v := 1) C dX5_readHouses_19 (by decide) ?_
    refine g_bipush (v := 6) C dX5_readHouses_20 (by decide) ?_
    obtain ⟨r3, σ4, h5, hf⟩ := obp_e hf
    refine g_callVi (As := [.int 1, .int 6]) (rest := []) C (a_3 ad cy _) rfl (c_X5_nextNumber l dC dI ad cy ((1 : Int32)) ((6 : Int32))) h5 hM_X5_90 cal_X5_nextNumber ⟨Nat.zero_le _, Nat.zero_le _⟩ ⟨rfl, rfl⟩ ⟨Nat.le_of_ble_eq_true rfl, Nat.le_of_ble_eq_true rfl⟩ rfl rfl (Nat.le_of_ble_eq_true rfl) dX5_readHouses_22 ?_
    rcases oi_e hf with ⟨c6, hf⟩ | ⟨c6, hf⟩
    · refine g_if_ne_t (tgt := 30) C dX5_readHouses_25 (by decide) c6 ?_
      refine g_aload_n C dX5_readHouses_30 rfl 0 rfl ?_
      refine g_get C (a_3 ad cy _) rfl hin_X5 1 (by decide) hF_X5_12 rfl rfl dX5_readHouses_31 ?_
      refine g_aload_n C dX5_readHouses_34 rfl 0 rfl ?_
      refine g_get C (a_3 ad cy _) rfl hin_X5 0 (by decide) hF_X5_18 rfl rfl dX5_readHouses_35 ?_
      refine g_get C (a_1 ad cy _) rfl hin_X8 5 (by decide) hF_X5_94 rfl rfl dX5_readHouses_38 ?_
      obtain ⟨v7, ev7, hf⟩ := ol_e hf
      refine g_nm ev7 ?_
      obtain ⟨σ8, eσ8, hf⟩ := ol_e hf
      refine g_put (ty := .int) C (a_4 ad cy _) rfl hin_X9 tyX9 tyX9_ok nmX9 0 (by decide) hF_X5_97 rfl rfl (by decide +kernel) rfl rfl (Nat.le_of_ble_eq_true rfl) (p_4_0 ad cy _ _) eσ8 dX5_readHouses_41 ?_
      refine g_aload_n C dX5_readHouses_44 rfl 0 rfl ?_
      obtain ⟨r9, σ10, h11, hf⟩ := obp_e hf
      refine g_callVi (As := []) (rest := []) C (a_3 ad cy _) rfl (c_X5_advance l dC dI ad cy ) h11 hM_X5_44 cal_X5_advance ⟨Nat.zero_le _, Nat.zero_le _⟩ ⟨rfl, rfl⟩ ⟨Nat.le_of_ble_eq_true rfl, Nat.le_of_ble_eq_true rfl⟩ rfl rfl (Nat.le_of_ble_eq_true rfl) dX5_readHouses_45 ?_
      rcases oi_e hf with ⟨c12, hf⟩ | ⟨c12, hf⟩
      · refine g_if_eq_t (tgt := 62) C dX5_readHouses_48 (by decide) c12 ?_
        refine g_iconst (v := 0) C dX5_readHouses_62 (by decide) ?_
        obtain ⟨rfl, rfl⟩ := os_e hf
        exact g_zret C rfl (by decide) dX5_readHouses_63
      · refine g_if_eq_f (tgt := 62) C dX5_readHouses_48 (by decide) c12 ?_
        refine g_aload_n C dX5_readHouses_51 rfl 0 rfl ?_
        obtain ⟨r13, σ14, h15, hf⟩ := obp_e hf
        refine g_callVi (As := []) (rest := []) C (a_3 ad cy _) rfl (c_X5_endLine l dC dI ad cy ) h15 hM_X5_99 cal_X5_endLine ⟨Nat.zero_le _, Nat.zero_le _⟩ ⟨rfl, rfl⟩ ⟨Nat.le_of_ble_eq_true rfl, Nat.le_of_ble_eq_true rfl⟩ rfl rfl (Nat.le_of_ble_eq_true rfl) dX5_readHouses_52 ?_
        rcases oi_e hf with ⟨c16, hf⟩ | ⟨c16, hf⟩
        · refine g_if_eq_t (tgt := 62) C dX5_readHouses_55 (by decide) c16 ?_
          refine g_iconst (v := 0) C dX5_readHouses_62 (by decide) ?_
          obtain ⟨rfl, rfl⟩ := os_e hf
          exact g_zret C rfl (by decide) dX5_readHouses_63
        · refine g_if_eq_f (tgt := 62) C dX5_readHouses_55 (by decide) c16 ?_
          refine g_iconst (v := 1) C dX5_readHouses_58 (by decide) ?_
          refine g_goto (tgt := 63) C dX5_readHouses_59 (by decide) ?_
          obtain ⟨rfl, rfl⟩ := os_e hf
          exact g_zret C rfl (by decide) dX5_readHouses_63
    · refine g_if_ne_f (tgt := 30) C dX5_readHouses_25 (by decide) (Decidable.of_not_not c6) ?_
      refine g_iconst (v := 0) C dX5_readHouses_28 (by decide) ?_
      obtain ⟨rfl, rfl⟩ := os_e hf
      exact g_zret C rfl (by decide) dX5_readHouses_29
  · refine g_if_eq_f (tgt := 13) C dX5_readHouses_4 (by decide) c1 ?_
    refine g_aload_n C dX5_readHouses_7 rfl 0 rfl ?_
    refine g_iconst (v := 4) C dX5_readHouses_8 (by decide) ?_
    obtain ⟨r17, σ18, h19, hf⟩ := obp_e hf
    refine g_callVi (As := [.int 4]) (rest := []) C (a_3 ad cy _) rfl (c_X5_refuse l dC dI ad cy ((4 : Int32))) h19 hM_X5_57 cal_X5_refuse ⟨Nat.zero_le _, Nat.zero_le _⟩ ⟨rfl, rfl⟩ ⟨Nat.le_of_ble_eq_true rfl, Nat.le_of_ble_eq_true rfl⟩ rfl rfl (Nat.le_of_ble_eq_true rfl) dX5_readHouses_9 ?_
    obtain ⟨h20, hf⟩ := og_e hf
    obtain ⟨rfl, rfl⟩ := os_e hf
    exact g_zret C rfl (zb_ok h20) dX5_readHouses_12
theorem c_X5_readHouses (l : Launch) (dC : Nat → ClassId) (dI : Nat → Nat → Nat) (ad : Nat → Nat) (cy : Nat → ClassId)  : ConI l yX5_readHouses cX5_readHouses 1 (some .boolean) rm_X5_readHouses dC dI ad cy [.ref (ad 3)] (fun σ => fX5_readHouses σ) := con_i (own := RX5) (by decide) rfl (Nat.le_of_ble_eq_true rfl) (fun _ _ _ _ _ _ _ _ σ _ _ C hf => fX5_readHouses_ok C σ  hf)
theorem cal_X5_readHouses : CalV yX5_readHouses RX5 cX5_readHouses 1 (some .boolean) 0 := ⟨hI_X5_readHouses, hS_X5_readHouses, hIni_X5, hC_X5_readHouses, by decide +kernel⟩
abbrev rm_X5_readGap : Room := { frames := 3, cells := 0, slots := 0, locals := 61 }
def fX5_readGap (σ : S0)  : Option (Int32 × S0) := if (σ 3 3) = 0 then (ol (su σ 3 3 1) (fun σ2 => obp (fX5_nextNumber σ2 ((0 : Int32)) ((9 : Int32))) (fun r3 σ4 => if ¬ r3 = 0 then (ol (σ4 1 5) (fun v7 => ol (su σ4 4 1 v7) (fun σ8 => obp (fX5_advance σ8) (fun r9 σ10 => if r9 = 0 then (some (0, σ10)) else (obp (fX5_endLine σ10) (fun r13 σ14 => if r13 = 0 then (some (0, σ14)) else (some (1, σ14)))))))) else (some (0, σ4))))) else (obp (fX5_refuse σ ((4 : Int32))) (fun r17 σ18 => og (r17 = 0 ∨ r17 = 1) (some (r17, σ18))))
set_option maxHeartbeats 1000000 in
set_option maxRecDepth 100000 in
theorem fX5_readGap_ok {p : Program} {l : Launch} {e : Env} {s : State} {m : MethodId} {args : Array Value} {below : List Frame} {meth : Method} {c : Code} {dC : Nat → ClassId} {dI : Nat → Nat → Nat} {ad : Nat → Nat} {cy : Nat → ClassId} {sz : Nat} (C : Cx p s m args meth c RX5 cX5_readGap 1 (some .boolean) dC dI ad cy sz) {rr : Int32} {ρ : S0} (σ : S0)   (hf : fX5_readGap σ = some (rr, ρ)) : Gw p l e rm_X5_readGap s m args below meth c (MQ below (QcI dC dI ad cy sz rr ρ) args s 0 0 (AW ad sz)) dC dI ad cy 1 sz 0 0 0 [(0, .ref (ad 3))] [] σ := by
  unfold fX5_readGap at hf
  refine g_aload_n C dX5_readGap_0 rfl 0 rfl ?_
  refine g_get C (a_3 ad cy _) rfl hin_X5 3 (by decide) hF_X5_29 rfl rfl dX5_readGap_1 ?_
  rcases oi_e hf with ⟨c1, hf⟩ | ⟨c1, hf⟩
  · refine g_if_eq_t (tgt := 13) C dX5_readGap_4 (by decide) c1 ?_
    refine g_aload_n C dX5_readGap_13 rfl 0 rfl ?_
    refine g_iconst (v := 1) C dX5_readGap_14 (by decide) ?_
    obtain ⟨σ2, eσ2, hf⟩ := ol_e hf
    refine g_put (ty := .boolean) C (a_3 ad cy _) rfl hin_X5 tyX5 tyX5_ok nmX5 3 (by decide) hF_X5_29 rfl rfl (by decide +kernel) rfl rfl (Nat.le_of_ble_eq_true rfl) (p_3_3 ad cy _ _) eσ2 dX5_readGap_15 ?_
    refine g_aload_n C dX5_readGap_18 rfl 0 rfl ?_
    refine g_iconst (v := 0) C dX5_readGap_19 (by decide) ?_
    refine g_bipush (v := 9) C dX5_readGap_20 (by decide) ?_
    obtain ⟨r3, σ4, h5, hf⟩ := obp_e hf
    refine g_callVi (As := [.int 0, .int 9]) (rest := []) C (a_3 ad cy _) rfl (c_X5_nextNumber l dC dI ad cy ((0 : Int32)) ((9 : Int32))) h5 hM_X5_90 cal_X5_nextNumber ⟨Nat.zero_le _, Nat.zero_le _⟩ ⟨rfl, rfl⟩ ⟨Nat.le_of_ble_eq_true rfl, Nat.le_of_ble_eq_true rfl⟩ rfl rfl (Nat.le_of_ble_eq_true rfl) dX5_readGap_22 ?_
    rcases oi_e hf with ⟨c6, hf⟩ | ⟨c6, hf⟩
    · refine g_if_ne_t (tgt := 30) C dX5_readGap_25 (by decide) c6 ?_
      refine g_aload_n C dX5_readGap_30 rfl 0 rfl ?_
      refine g_get C (a_3 ad cy _) rfl hin_X5 1 (by decide) hF_X5_12 rfl rfl dX5_readGap_31 ?_
      refine g_aload_n C dX5_readGap_34 rfl 0 rfl ?_
      refine g_get C (a_3 ad cy _) rfl hin_X5 0 (by decide) hF_X5_18 rfl rfl dX5_readGap_35 ?_
      refine g_get C (a_1 ad cy _) rfl hin_X8 5 (by decide) hF_X5_94 rfl rfl dX5_readGap_38 ?_
      obtain ⟨v7, ev7, hf⟩ := ol_e hf
      refine g_nm ev7 ?_
      obtain ⟨σ8, eσ8, hf⟩ := ol_e hf
      refine g_put (ty := .int) C (a_4 ad cy _) rfl hin_X9 tyX9 tyX9_ok nmX9 1 (by decide) hF_X5_102 rfl rfl (by decide +kernel) rfl rfl (Nat.le_of_ble_eq_true rfl) (p_4_1 ad cy _ _) eσ8 dX5_readGap_41 ?_
      refine g_aload_n C dX5_readGap_44 rfl 0 rfl ?_
      obtain ⟨r9, σ10, h11, hf⟩ := obp_e hf
      refine g_callVi (As := []) (rest := []) C (a_3 ad cy _) rfl (c_X5_advance l dC dI ad cy ) h11 hM_X5_44 cal_X5_advance ⟨Nat.zero_le _, Nat.zero_le _⟩ ⟨rfl, rfl⟩ ⟨Nat.le_of_ble_eq_true rfl, Nat.le_of_ble_eq_true rfl⟩ rfl rfl (Nat.le_of_ble_eq_true rfl) dX5_readGap_45 ?_
      rcases oi_e hf with ⟨c12, hf⟩ | ⟨c12, hf⟩
      · refine g_if_eq_t (tgt := 62) C dX5_readGap_48 (by decide) c12 ?_
        refine g_iconst (v := 0) C dX5_readGap_62 (by decide) ?_
        obtain ⟨rfl, rfl⟩ := os_e hf
        exact g_zret C rfl (by decide) dX5_readGap_63
      · refine g_if_eq_f (tgt := 62) C dX5_readGap_48 (by decide) c12 ?_
        refine g_aload_n C dX5_readGap_51 rfl 0 rfl ?_
        obtain ⟨r13, σ14, h15, hf⟩ := obp_e hf
        refine g_callVi (As := []) (rest := []) C (a_3 ad cy _) rfl (c_X5_endLine l dC dI ad cy ) h15 hM_X5_99 cal_X5_endLine ⟨Nat.zero_le _, Nat.zero_le _⟩ ⟨rfl, rfl⟩ ⟨Nat.le_of_ble_eq_true rfl, Nat.le_of_ble_eq_true rfl⟩ rfl rfl (Nat.le_of_ble_eq_true rfl) dX5_readGap_52 ?_
        rcases oi_e hf with ⟨c16, hf⟩ | ⟨c16, hf⟩
        · refine g_if_eq_t (tgt := 62) C dX5_readGap_55 (by decide) c16 ?_
          refine g_iconst (v := 0) C dX5_readGap_62 (by decide) ?_
          obtain ⟨rfl, rfl⟩ := os_e hf
          exact g_zret C rfl (by decide) dX5_readGap_63
        · refine g_if_eq_f (tgt := 62) C dX5_readGap_55 (by decide) c16 ?_
          refine g_iconst (v := 1) C dX5_readGap_58 (by decide) ?_
          refine g_goto (tgt := 63) C dX5_readGap_59 (by decide) ?_
          obtain ⟨rfl, rfl⟩ := os_e hf
          exact g_zret C rfl (by decide) dX5_readGap_63
    · refine g_if_ne_f (tgt := 30) C dX5_readGap_25 (by decide) (Decidable.of_not_not c6) ?_
      refine g_iconst (v := 0) C dX5_readGap_28 (by decide) ?_
      obtain ⟨rfl, rfl⟩ := os_e hf
      exact g_zret C rfl (by decide) dX5_readGap_29
  · refine g_if_eq_f (tgt := 13) C dX5_readGap_4 (by decide) c1 ?_
    refine g_aload_n C dX5_readGap_7 rfl 0 rfl ?_
    refine g_iconst (v := 4) C dX5_readGap_8 (by decide) ?_
    obtain ⟨r17, σ18, h19, hf⟩ := obp_e hf
    refine g_callVi (As := [.int 4]) (rest := []) C (a_3 ad cy _) rfl (c_X5_refuse l dC dI ad cy ((4 : Int32))) h19 hM_X5_57 cal_X5_refuse ⟨Nat.zero_le _, Nat.zero_le _⟩ ⟨rfl, rfl⟩ ⟨Nat.le_of_ble_eq_true rfl, Nat.le_of_ble_eq_true rfl⟩ rfl rfl (Nat.le_of_ble_eq_true rfl) dX5_readGap_9 ?_
    obtain ⟨h20, hf⟩ := og_e hf
    obtain ⟨rfl, rfl⟩ := os_e hf
    exact g_zret C rfl (zb_ok h20) dX5_readGap_12
theorem c_X5_readGap (l : Launch) (dC : Nat → ClassId) (dI : Nat → Nat → Nat) (ad : Nat → Nat) (cy : Nat → ClassId)  : ConI l yX5_readGap cX5_readGap 1 (some .boolean) rm_X5_readGap dC dI ad cy [.ref (ad 3)] (fun σ => fX5_readGap σ) := con_i (own := RX5) (by decide) rfl (Nat.le_of_ble_eq_true rfl) (fun _ _ _ _ _ _ _ _ σ _ _ C hf => fX5_readGap_ok C σ  hf)
theorem cal_X5_readGap : CalV yX5_readGap RX5 cX5_readGap 1 (some .boolean) 0 := ⟨hI_X5_readGap, hS_X5_readGap, hIni_X5, hC_X5_readGap, by decide +kernel⟩
abbrev rm_X5_readWiths : Room := { frames := 5, cells := 0, slots := 0, locals := 107 }
def fX5_readWiths_b65  (σ : S0)  : Option (Int32 × S0) := obp (fX5_refuse σ ((4 : Int32))) (fun r1 σ2 => og (r1 = 0 ∨ r1 = 1) (some (r1, σ2)))
set_option maxHeartbeats 1000000 in
set_option maxRecDepth 100000 in
theorem fX5_readWiths_b65_ok {p : Program} {l : Launch} {e : Env} {s : State} {m : MethodId} {args : Array Value} {below : List Frame} {meth : Method} {c : Code} {dC : Nat → ClassId} {dI : Nat → Nat → Nat} {ad : Nat → Nat} {cy : Nat → ClassId} {sz : Nat} (C : Cx p s m args meth c RX5 cX5_readWiths 5 (some .boolean) dC dI ad cy sz) {rr : Int32} {ρ : S0}  (σ : S0)   (hf : fX5_readWiths_b65 σ = some (rr, ρ)) : Gw p l e rm_X5_readWiths s m args below meth c (MQ below (QcI dC dI ad cy sz rr ρ) args s 0 0 (AW ad sz)) dC dI ad cy 5 sz 0 0 65 [(0, .ref (ad 3))] [] σ := by
  unfold fX5_readWiths_b65 at hf
  refine g_aload_n C dX5_readWiths_65 rfl 0 rfl ?_
  refine g_iconst (v := 4) C dX5_readWiths_66 (by decide) ?_
  obtain ⟨r1, σ2, h3, hf⟩ := obp_e hf
  refine g_callVi (As := [.int 4]) (rest := []) C (a_3 ad cy _) rfl (c_X5_refuse l dC dI ad cy ((4 : Int32))) h3 hM_X5_57 cal_X5_refuse ⟨Nat.zero_le _, Nat.zero_le _⟩ ⟨rfl, rfl⟩ ⟨Nat.le_of_ble_eq_true rfl, Nat.le_of_ble_eq_true rfl⟩ rfl rfl (Nat.le_of_ble_eq_true rfl) dX5_readWiths_67 ?_
  obtain ⟨h4, hf⟩ := og_e hf
  obtain ⟨rfl, rfl⟩ := os_e hf
  exact g_zret C rfl (zb_ok h4) dX5_readWiths_70
def fX5_readWiths_b132 (sf_2 : S0 → Nat → Int32 → Int32 → Option (Int32 × S0)) (σ : S0) (x1 : Nat) (x2 : Int32) (x3 : Int32) : Option (Int32 × S0) := obp (fX5_advance σ) (fun r1 σ2 => if ¬ r1 = 0 then (ol (x3 + 1) (fun v5 => sf_2 σ2 x1 x2 v5)) else (some (0, σ2)))
set_option maxHeartbeats 1000000 in
set_option maxRecDepth 100000 in
theorem fX5_readWiths_b132_ok {p : Program} {l : Launch} {e : Env} {s : State} {m : MethodId} {args : Array Value} {below : List Frame} {meth : Method} {c : Code} {dC : Nat → ClassId} {dI : Nat → Nat → Nat} {ad : Nat → Nat} {cy : Nat → ClassId} {sz : Nat} (C : Cx p s m args meth c RX5 cX5_readWiths 5 (some .boolean) dC dI ad cy sz) {rr : Int32} {ρ : S0} (sf_2 : S0 → Nat → Int32 → Int32 → Option (Int32 × S0)) (hs_2 : ∀ (σ : S0) (x1 : Nat) (x2 : Int32) (x3 : Int32) (hx1 : isChimes x1), sf_2 σ x1 x2 x3 = some (rr, ρ) → Gw p l e rm_X5_readWiths s m args below meth c (MQ below (QcI dC dI ad cy sz rr ρ) args s 0 0 (AW ad sz)) dC dI ad cy 5 sz 0 0 2 [(0, .ref (ad 3)), (1, .ref (ad x1)), (2, .int x2), (3, .int x3)] [] σ) (σ : S0) (x1 : Nat) (x2 : Int32) (x3 : Int32) (hx1 : isChimes x1) (hf : fX5_readWiths_b132 sf_2 σ x1 x2 x3 = some (rr, ρ)) : Gw p l e rm_X5_readWiths s m args below meth c (MQ below (QcI dC dI ad cy sz rr ρ) args s 0 0 (AW ad sz)) dC dI ad cy 5 sz 0 0 132 [(0, .ref (ad 3)), (1, .ref (ad x1)), (2, .int x2), (3, .int x3)] [] σ := by
  unfold fX5_readWiths_b132 at hf
  refine g_aload_n C dX5_readWiths_132 rfl 0 rfl ?_
  obtain ⟨r1, σ2, h3, hf⟩ := obp_e hf
  refine g_callVi (As := []) (rest := []) C (a_3 ad cy _) rfl (c_X5_advance l dC dI ad cy ) h3 hM_X5_44 cal_X5_advance ⟨Nat.zero_le _, Nat.zero_le _⟩ ⟨rfl, rfl⟩ ⟨Nat.le_of_ble_eq_true rfl, Nat.le_of_ble_eq_true rfl⟩ rfl rfl (Nat.le_of_ble_eq_true rfl) dX5_readWiths_133 ?_
  rcases oi_e hf with ⟨c4, hf⟩ | ⟨c4, hf⟩
  · refine g_if_ne_t (tgt := 141) C dX5_readWiths_136 (by decide) c4 ?_
    obtain ⟨v5, ev5, hf⟩ := ol_e hf
    refine g_iinc (j := 3) (w := 1) (lv2 := [(0, .ref (ad 3)), (1, .ref (ad x1)), (2, .int x2), (3, .int v5)]) C dX5_readWiths_141 rfl (by decide) ev5 (by decide) [1, 2, 3, 0] rfl ?_
    refine g_goto (tgt := 2) C dX5_readWiths_144 (by decide) ?_
    exact g_sub [0, 1, 2, 3] rfl (hs_2 σ2 x1 x2 v5 hx1 hf)
  · refine g_if_ne_f (tgt := 141) C dX5_readWiths_136 (by decide) (Decidable.of_not_not c4) ?_
    refine g_iconst (v := 0) C dX5_readWiths_139 (by decide) ?_
    obtain ⟨rfl, rfl⟩ := os_e hf
    exact g_zret C rfl (by decide) dX5_readWiths_140
def fX5_readWiths_b71 (sf_2 : S0 → Nat → Int32 → Int32 → Option (Int32 × S0)) (σ : S0) (x1 : Nat) (x2 : Int32) (x3 : Int32) (x4 : Int32) : Option (Int32 × S0) := if ¬ x4 = 0 then (obp (fX5_nextNumber σ ((0 : Int32)) ((5 : Int32))) (fun r2 σ3 => if ¬ r2 = 0 then (og (¬ (x2 < 0 ∨ 12 ≤ x2.toNatClampNeg)) (ol (σ3 (x1 + 1) x2.toNatClampNeg) (fun v7 => if ¬ (σ3 1 5) = v7 then (ol (σ3 1 5) (fun v9 => og (¬ (x2 < 0 ∨ 12 ≤ x2.toNatClampNeg)) (ol (su σ3 (x1 + 5) x2.toNatClampNeg v9) (fun σ11 => fX5_readWiths_b132 sf_2 σ11 x1 x2 x3)))) else (obp (fX5_refuse σ3 ((4 : Int32))) (fun r12 σ13 => og (r12 = 0 ∨ r12 = 1) (some (r12, σ13))))))) else (some (0, σ3)))) else (og (¬ (x2 < 0 ∨ 12 ≤ x2.toNatClampNeg)) (ol (su σ (x1 + 4) x2.toNatClampNeg 1) (fun σ17 => fX5_readWiths_b132 sf_2 σ17 x1 x2 x3)))
set_option maxHeartbeats 1000000 in
set_option maxRecDepth 100000 in
theorem fX5_readWiths_b71_ok {p : Program} {l : Launch} {e : Env} {s : State} {m : MethodId} {args : Array Value} {below : List Frame} {meth : Method} {c : Code} {dC : Nat → ClassId} {dI : Nat → Nat → Nat} {ad : Nat → Nat} {cy : Nat → ClassId} {sz : Nat} (C : Cx p s m args meth c RX5 cX5_readWiths 5 (some .boolean) dC dI ad cy sz) {rr : Int32} {ρ : S0} (sf_2 : S0 → Nat → Int32 → Int32 → Option (Int32 × S0)) (hs_2 : ∀ (σ : S0) (x1 : Nat) (x2 : Int32) (x3 : Int32) (hx1 : isChimes x1), sf_2 σ x1 x2 x3 = some (rr, ρ) → Gw p l e rm_X5_readWiths s m args below meth c (MQ below (QcI dC dI ad cy sz rr ρ) args s 0 0 (AW ad sz)) dC dI ad cy 5 sz 0 0 2 [(0, .ref (ad 3)), (1, .ref (ad x1)), (2, .int x2), (3, .int x3)] [] σ) (σ : S0) (x1 : Nat) (x2 : Int32) (x3 : Int32) (x4 : Int32) (hx1 : isChimes x1) (hf : fX5_readWiths_b71 sf_2 σ x1 x2 x3 x4 = some (rr, ρ)) : Gw p l e rm_X5_readWiths s m args below meth c (MQ below (QcI dC dI ad cy sz rr ρ) args s 0 0 (AW ad sz)) dC dI ad cy 5 sz 0 0 71 [(0, .ref (ad 3)), (1, .ref (ad x1)), (2, .int x2), (3, .int x3), (4, .int x4)] [] σ := by
  unfold fX5_readWiths_b71 at hf
  refine g_iload C dX5_readWiths_71 4 rfl ?_
  rcases oi_e hf with ⟨c1, hf⟩ | ⟨c1, hf⟩
  · refine g_if_ne_t (tgt := 86) C dX5_readWiths_73 (by decide) c1 ?_
    refine g_aload_n C dX5_readWiths_86 rfl 0 rfl ?_
    refine g_iconst (v := 0) C dX5_readWiths_87 (by decide) ?_
    refine g_iconst (v := 5) C dX5_readWiths_88 (by decide) ?_
    obtain ⟨r2, σ3, h4, hf⟩ := obp_e hf
    refine g_callVi (As := [.int 0, .int 5]) (rest := []) C (a_3 ad cy _) rfl (c_X5_nextNumber l dC dI ad cy ((0 : Int32)) ((5 : Int32))) h4 hM_X5_90 cal_X5_nextNumber ⟨Nat.zero_le _, Nat.zero_le _⟩ ⟨rfl, rfl⟩ ⟨Nat.le_of_ble_eq_true rfl, Nat.le_of_ble_eq_true rfl⟩ rfl rfl (Nat.le_of_ble_eq_true rfl) dX5_readWiths_89 ?_
    rcases oi_e hf with ⟨c5, hf⟩ | ⟨c5, hf⟩
    · refine g_if_ne_t (tgt := 97) C dX5_readWiths_92 (by decide) c5 ?_
      refine g_aload_n C dX5_readWiths_97 rfl 0 rfl ?_
      refine g_get C (a_3 ad cy _) rfl hin_X5 0 (by decide) hF_X5_18 rfl rfl dX5_readWiths_98 ?_
      refine g_get C (a_1 ad cy _) rfl hin_X8 5 (by decide) hF_X5_94 rfl rfl dX5_readWiths_101 ?_
      refine g_aload_n C dX5_readWiths_104 rfl 1 rfl ?_
      refine g_get C (s_isChimes hx1 ad cy _) rfl hin_X1 1 (by decide) hF_X5_120 rfl rfl dX5_readWiths_105 ?_
      refine g_iload_n C dX5_readWiths_108 rfl 2 rfl ?_
      obtain ⟨h6, hf⟩ := og_e hf
      refine g_iald C (s_row hx1.r1 ad cy _) h6 dX5_readWiths_109 ?_
      obtain ⟨v7, ev7, hf⟩ := ol_e hf
      refine g_nm ev7 ?_
      rcases oi_e hf with ⟨c8, hf⟩ | ⟨c8, hf⟩
      · refine g_icmp_ne_t (tgt := 119) C dX5_readWiths_110 (by decide) c8 ?_
        refine g_aload_n C dX5_readWiths_119 rfl 1 rfl ?_
        refine g_get C (s_isChimes hx1 ad cy _) rfl hin_X1 5 (by decide) hF_X5_113 rfl rfl dX5_readWiths_120 ?_
        refine g_iload_n C dX5_readWiths_123 rfl 2 rfl ?_
        refine g_aload_n C dX5_readWiths_124 rfl 0 rfl ?_
        refine g_get C (a_3 ad cy _) rfl hin_X5 0 (by decide) hF_X5_18 rfl rfl dX5_readWiths_125 ?_
        refine g_get C (a_1 ad cy _) rfl hin_X8 5 (by decide) hF_X5_94 rfl rfl dX5_readWiths_128 ?_
        obtain ⟨v9, ev9, hf⟩ := ol_e hf
        refine g_nm ev9 ?_
        obtain ⟨h10, hf⟩ := og_e hf
        obtain ⟨σ11, eσ11, hf⟩ := ol_e hf
        refine g_iast C (s_row hx1.r5 ad cy _) h10 (ws_row hx1.r5 ad cy _) eσ11 dX5_readWiths_131 ?_
        exact g_sub [0, 1, 2, 3] rfl (fX5_readWiths_b132_ok C sf_2 hs_2 σ11 x1 x2 x3 hx1 hf)
      · refine g_icmp_ne_f (tgt := 119) C dX5_readWiths_110 (by decide) (Decidable.of_not_not c8) ?_
        refine g_aload_n C dX5_readWiths_113 rfl 0 rfl ?_
        refine g_iconst (v := 4) C dX5_readWiths_114 (by decide) ?_
        obtain ⟨r12, σ13, h14, hf⟩ := obp_e hf
        refine g_callVi (As := [.int 4]) (rest := []) C (a_3 ad cy _) rfl (c_X5_refuse l dC dI ad cy ((4 : Int32))) h14 hM_X5_57 cal_X5_refuse ⟨Nat.zero_le _, Nat.zero_le _⟩ ⟨rfl, rfl⟩ ⟨Nat.le_of_ble_eq_true rfl, Nat.le_of_ble_eq_true rfl⟩ rfl rfl (Nat.le_of_ble_eq_true rfl) dX5_readWiths_115 ?_
        obtain ⟨h15, hf⟩ := og_e hf
        obtain ⟨rfl, rfl⟩ := os_e hf
        exact g_zret C rfl (zb_ok h15) dX5_readWiths_118
    · refine g_if_ne_f (tgt := 97) C dX5_readWiths_92 (by decide) (Decidable.of_not_not c5) ?_
      refine g_iconst (v := 0) C dX5_readWiths_95 (by decide) ?_
      obtain ⟨rfl, rfl⟩ := os_e hf
      exact g_zret C rfl (by decide) dX5_readWiths_96
  · refine g_if_ne_f (tgt := 86) C dX5_readWiths_73 (by decide) (Decidable.of_not_not c1) ?_
    refine g_aload_n C dX5_readWiths_76 rfl 1 rfl ?_
    refine g_get C (s_isChimes hx1 ad cy _) rfl hin_X1 4 (by decide) hF_X5_117 rfl rfl dX5_readWiths_77 ?_
    refine g_iload_n C dX5_readWiths_80 rfl 2 rfl ?_
    refine g_iconst (v := 1) C dX5_readWiths_81 (by decide) ?_
    obtain ⟨h16, hf⟩ := og_e hf
    obtain ⟨σ17, eσ17, hf⟩ := ol_e hf
    refine g_iast C (s_row hx1.r4 ad cy _) h16 (ws_row hx1.r4 ad cy _) eσ17 dX5_readWiths_82 ?_
    refine g_goto (tgt := 132) C dX5_readWiths_83 (by decide) ?_
    exact g_sub [0, 1, 2, 3] rfl (fX5_readWiths_b132_ok C sf_2 hs_2 σ17 x1 x2 x3 hx1 hf)
def fX5_readWiths_b37 (sf_2 : S0 → Nat → Int32 → Int32 → Option (Int32 × S0)) (σ : S0) (x1 : Nat) (x2 : Int32) (x3 : Int32) (x4 : Int32) : Option (Int32 × S0) := if x4 = 0 then (og (¬ (x2 < 0 ∨ 12 ≤ x2.toNatClampNeg)) (ol (σ (x1 + 4) x2.toNatClampNeg) (fun v3 => if v3 = 0 then (fX5_readWiths_b71 sf_2 σ x1 x2 x3 x4) else (fX5_readWiths_b65 σ)))) else (og (¬ (x2 < 0 ∨ 12 ≤ x2.toNatClampNeg)) (ol (σ (x1 + 5) x2.toNatClampNeg) (fun v6 => if v6 = ((-4)) then (fX5_readWiths_b71 sf_2 σ x1 x2 x3 x4) else (fX5_readWiths_b65 σ))))
set_option maxHeartbeats 1000000 in
set_option maxRecDepth 100000 in
theorem fX5_readWiths_b37_ok {p : Program} {l : Launch} {e : Env} {s : State} {m : MethodId} {args : Array Value} {below : List Frame} {meth : Method} {c : Code} {dC : Nat → ClassId} {dI : Nat → Nat → Nat} {ad : Nat → Nat} {cy : Nat → ClassId} {sz : Nat} (C : Cx p s m args meth c RX5 cX5_readWiths 5 (some .boolean) dC dI ad cy sz) {rr : Int32} {ρ : S0} (sf_2 : S0 → Nat → Int32 → Int32 → Option (Int32 × S0)) (hs_2 : ∀ (σ : S0) (x1 : Nat) (x2 : Int32) (x3 : Int32) (hx1 : isChimes x1), sf_2 σ x1 x2 x3 = some (rr, ρ) → Gw p l e rm_X5_readWiths s m args below meth c (MQ below (QcI dC dI ad cy sz rr ρ) args s 0 0 (AW ad sz)) dC dI ad cy 5 sz 0 0 2 [(0, .ref (ad 3)), (1, .ref (ad x1)), (2, .int x2), (3, .int x3)] [] σ) (σ : S0) (x1 : Nat) (x2 : Int32) (x3 : Int32) (x4 : Int32) (hx1 : isChimes x1) (hf : fX5_readWiths_b37 sf_2 σ x1 x2 x3 x4 = some (rr, ρ)) : Gw p l e rm_X5_readWiths s m args below meth c (MQ below (QcI dC dI ad cy sz rr ρ) args s 0 0 (AW ad sz)) dC dI ad cy 5 sz 0 0 37 [(0, .ref (ad 3)), (1, .ref (ad x1)), (2, .int x2), (3, .int x3), (4, .int x4)] [] σ := by
  unfold fX5_readWiths_b37 at hf
  refine g_iload C dX5_readWiths_37 4 rfl ?_
  rcases oi_e hf with ⟨c1, hf⟩ | ⟨c1, hf⟩
  · refine g_if_eq_t (tgt := 56) C dX5_readWiths_39 (by decide) c1 ?_
    refine g_aload_n C dX5_readWiths_56 rfl 1 rfl ?_
    refine g_get C (s_isChimes hx1 ad cy _) rfl hin_X1 4 (by decide) hF_X5_117 rfl rfl dX5_readWiths_57 ?_
    refine g_iload_n C dX5_readWiths_60 rfl 2 rfl ?_
    obtain ⟨h2, hf⟩ := og_e hf
    refine g_iald C (s_row hx1.r4 ad cy _) h2 dX5_readWiths_61 ?_
    obtain ⟨v3, ev3, hf⟩ := ol_e hf
    refine g_nm ev3 ?_
    rcases oi_e hf with ⟨c4, hf⟩ | ⟨c4, hf⟩
    · refine g_if_eq_t (tgt := 71) C dX5_readWiths_62 (by decide) c4 ?_
      exact g_sub [0, 1, 2, 3, 4] rfl (fX5_readWiths_b71_ok C sf_2 hs_2 σ x1 x2 x3 x4 hx1 hf)
    · refine g_if_eq_f (tgt := 71) C dX5_readWiths_62 (by decide) c4 ?_
      exact g_sub [0] rfl (fX5_readWiths_b65_ok C σ hf)
  · refine g_if_eq_f (tgt := 56) C dX5_readWiths_39 (by decide) c1 ?_
    refine g_aload_n C dX5_readWiths_42 rfl 1 rfl ?_
    refine g_get C (s_isChimes hx1 ad cy _) rfl hin_X1 5 (by decide) hF_X5_113 rfl rfl dX5_readWiths_43 ?_
    refine g_iload_n C dX5_readWiths_46 rfl 2 rfl ?_
    obtain ⟨h5, hf⟩ := og_e hf
    refine g_iald C (s_row hx1.r5 ad cy _) h5 dX5_readWiths_47 ?_
    obtain ⟨v6, ev6, hf⟩ := ol_e hf
    refine g_nm ev6 ?_
    refine g_bipush (v := (-4)) C dX5_readWiths_48 (by decide) ?_
    rcases oi_e hf with ⟨c7, hf⟩ | ⟨c7, hf⟩
    · refine g_icmp_eq_t (tgt := 71) C dX5_readWiths_50 (by decide) c7 ?_
      exact g_sub [0, 1, 2, 3, 4] rfl (fX5_readWiths_b71_ok C sf_2 hs_2 σ x1 x2 x3 x4 hx1 hf)
    · refine g_icmp_eq_f (tgt := 71) C dX5_readWiths_50 (by decide) c7 ?_
      refine g_goto (tgt := 65) C dX5_readWiths_53 (by decide) ?_
      exact g_sub [0] rfl (fX5_readWiths_b65_ok C σ hf)
def fX5_readWiths_b2 (sf_2 : S0 → Nat → Int32 → Int32 → Option (Int32 × S0)) (σ : S0) (x1 : Nat) (x2 : Int32) (x3 : Int32) : Option (Int32 × S0) := if (3 : Int32) ≤ x3 then (some (1, σ)) else (obp (fX8_isName σ 5) (fun r2 σ3 => if ¬ r2 = 0 then (fX5_readWiths_b37 sf_2 σ3 x1 x2 x3 r2) else (obp (fX8_isName σ3 6) (fun r6 σ7 => if ¬ r6 = 0 then (fX5_readWiths_b37 sf_2 σ7 x1 x2 x3 r2) else (some (1, σ7))))))
set_option maxHeartbeats 1000000 in
set_option maxRecDepth 100000 in
theorem fX5_readWiths_b2_ok {p : Program} {l : Launch} {e : Env} {s : State} {m : MethodId} {args : Array Value} {below : List Frame} {meth : Method} {c : Code} {dC : Nat → ClassId} {dI : Nat → Nat → Nat} {ad : Nat → Nat} {cy : Nat → ClassId} {sz : Nat} (C : Cx p s m args meth c RX5 cX5_readWiths 5 (some .boolean) dC dI ad cy sz) {rr : Int32} {ρ : S0} (sf_2 : S0 → Nat → Int32 → Int32 → Option (Int32 × S0)) (hs_2 : ∀ (σ : S0) (x1 : Nat) (x2 : Int32) (x3 : Int32) (hx1 : isChimes x1), sf_2 σ x1 x2 x3 = some (rr, ρ) → Gw p l e rm_X5_readWiths s m args below meth c (MQ below (QcI dC dI ad cy sz rr ρ) args s 0 0 (AW ad sz)) dC dI ad cy 5 sz 0 0 2 [(0, .ref (ad 3)), (1, .ref (ad x1)), (2, .int x2), (3, .int x3)] [] σ) (σ : S0) (x1 : Nat) (x2 : Int32) (x3 : Int32) (hx1 : isChimes x1) (hf : fX5_readWiths_b2 sf_2 σ x1 x2 x3 = some (rr, ρ)) : Gw p l e rm_X5_readWiths s m args below meth c (MQ below (QcI dC dI ad cy sz rr ρ) args s 0 0 (AW ad sz)) dC dI ad cy 5 sz 0 0 2 [(0, .ref (ad 3)), (1, .ref (ad x1)), (2, .int x2), (3, .int x3)] [] σ := by
  unfold fX5_readWiths_b2 at hf
  refine g_iload_n C dX5_readWiths_2 rfl 3 rfl ?_
  refine g_iconst (v := 3) C dX5_readWiths_3 (by decide) ?_
  rcases oi_e hf with ⟨c1, hf⟩ | ⟨c1, hf⟩
  · refine g_icmp_ge_t (tgt := 147) C dX5_readWiths_4 (by decide) c1 ?_
    refine g_iconst (v := 1) C dX5_readWiths_147 (by decide) ?_
    obtain ⟨rfl, rfl⟩ := os_e hf
    exact g_zret C rfl (by decide) dX5_readWiths_148
  · refine g_icmp_ge_f (tgt := 147) C dX5_readWiths_4 (by decide) c1 ?_
    refine g_aload_n C dX5_readWiths_7 rfl 0 rfl ?_
    refine g_get C (a_3 ad cy _) rfl hin_X5 0 (by decide) hF_X5_18 rfl rfl dX5_readWiths_8 ?_
    refine g_ldcs C (i := 5) (by decide) rfl dX5_readWiths_11 ?_
    obtain ⟨r2, σ3, h4, hf⟩ := obp_e hf
    refine g_callVi (As := [.ref (ad (200 + 5))]) (rest := []) C (a_1 ad cy _) rfl (c_X8_isName l dC dI ad cy 5 ((by decide : isStr 5))) h4 hM_X5_63 cal_X8_isName ⟨Nat.zero_le _, Nat.zero_le _⟩ ⟨rfl, rfl⟩ ⟨Nat.le_of_ble_eq_true rfl, Nat.le_of_ble_eq_true rfl⟩ rfl rfl (Nat.le_of_ble_eq_true rfl) dX5_readWiths_13 ?_
    refine g_istore (lv2 := [(0, .ref (ad 3)), (1, .ref (ad x1)), (2, .int x2), (3, .int x3), (4, .int r2)]) C dX5_readWiths_16 (by decide) [1, 2, 3, 4, 0] rfl ?_
    refine g_iload C dX5_readWiths_18 4 rfl ?_
    rcases oi_e hf with ⟨c5, hf⟩ | ⟨c5, hf⟩
    · refine g_if_ne_t (tgt := 37) C dX5_readWiths_20 (by decide) c5 ?_
      exact g_sub [0, 1, 2, 3, 4] rfl (fX5_readWiths_b37_ok C sf_2 hs_2 σ3 x1 x2 x3 r2 hx1 hf)
    · refine g_if_ne_f (tgt := 37) C dX5_readWiths_20 (by decide) (Decidable.of_not_not c5) ?_
      refine g_aload_n C dX5_readWiths_23 rfl 0 rfl ?_
      refine g_get C (a_3 ad cy _) rfl hin_X5 0 (by decide) hF_X5_18 rfl rfl dX5_readWiths_24 ?_
      refine g_ldcs C (i := 6) (by decide) rfl dX5_readWiths_27 ?_
      obtain ⟨r6, σ7, h8, hf⟩ := obp_e hf
      refine g_callVi (As := [.ref (ad (200 + 6))]) (rest := []) C (a_1 ad cy _) rfl (c_X8_isName l dC dI ad cy 6 ((by decide : isStr 6))) h8 hM_X5_63 cal_X8_isName ⟨Nat.zero_le _, Nat.zero_le _⟩ ⟨rfl, rfl⟩ ⟨Nat.le_of_ble_eq_true rfl, Nat.le_of_ble_eq_true rfl⟩ rfl rfl (Nat.le_of_ble_eq_true rfl) dX5_readWiths_29 ?_
      rcases oi_e hf with ⟨c9, hf⟩ | ⟨c9, hf⟩
      · refine g_if_ne_t (tgt := 37) C dX5_readWiths_32 (by decide) c9 ?_
        exact g_sub [0, 1, 2, 3, 4] rfl (fX5_readWiths_b37_ok C sf_2 hs_2 σ7 x1 x2 x3 r2 hx1 hf)
      · refine g_if_ne_f (tgt := 37) C dX5_readWiths_32 (by decide) (Decidable.of_not_not c9) ?_
        refine g_iconst (v := 1) C dX5_readWiths_35 (by decide) ?_
        obtain ⟨rfl, rfl⟩ := os_e hf
        exact g_zret C rfl (by decide) dX5_readWiths_36
def fX5_readWiths_h2  : Nat → S0 → Nat → Int32 → Int32 → Option (Int32 × S0)
  | 0 => fun _ _ _ _ => none
  | n + 1 => fun σ x1 x2 x3 => fX5_readWiths_b2  (fX5_readWiths_h2  n) σ x1 x2 x3
set_option maxHeartbeats 1000000 in
set_option maxRecDepth 100000 in
theorem fX5_readWiths_h2_ok {p : Program} {l : Launch} {e : Env} {s : State} {m : MethodId} {args : Array Value} {below : List Frame} {meth : Method} {c : Code} {dC : Nat → ClassId} {dI : Nat → Nat → Nat} {ad : Nat → Nat} {cy : Nat → ClassId} {sz : Nat} (C : Cx p s m args meth c RX5 cX5_readWiths 5 (some .boolean) dC dI ad cy sz) {rr : Int32} {ρ : S0}  : ∀ (n : Nat) (σ : S0) (x1 : Nat) (x2 : Int32) (x3 : Int32) (hx1 : isChimes x1) (_hf : fX5_readWiths_h2  n σ x1 x2 x3 = some (rr, ρ)), Gw p l e rm_X5_readWiths s m args below meth c (MQ below (QcI dC dI ad cy sz rr ρ) args s 0 0 (AW ad sz)) dC dI ad cy 5 sz 0 0 2 [(0, .ref (ad 3)), (1, .ref (ad x1)), (2, .int x2), (3, .int x3)] [] σ
  | 0, _, _, _, _, _, hf => by cases hf
  | n + 1, σ, x1, x2, x3, hx1, hf => fX5_readWiths_b2_ok C  (fX5_readWiths_h2  n) (fX5_readWiths_h2_ok C  n) σ x1 x2 x3 hx1 hf
def fX5_readWiths (σ : S0) (k1 : Nat) (x2 : Int32) : Option (Int32 × S0) := fX5_readWiths_h2 400 σ k1 x2 0
set_option maxHeartbeats 1000000 in
set_option maxRecDepth 100000 in
theorem fX5_readWiths_ok {p : Program} {l : Launch} {e : Env} {s : State} {m : MethodId} {args : Array Value} {below : List Frame} {meth : Method} {c : Code} {dC : Nat → ClassId} {dI : Nat → Nat → Nat} {ad : Nat → Nat} {cy : Nat → ClassId} {sz : Nat} (C : Cx p s m args meth c RX5 cX5_readWiths 5 (some .boolean) dC dI ad cy sz) {rr : Int32} {ρ : S0} (σ : S0) (k1 : Nat) (x2 : Int32) (hk1 : isChimes k1) (hf : fX5_readWiths σ k1 x2 = some (rr, ρ)) : Gw p l e rm_X5_readWiths s m args below meth c (MQ below (QcI dC dI ad cy sz rr ρ) args s 0 0 (AW ad sz)) dC dI ad cy 5 sz 0 0 0 [(0, .ref (ad 3)), (1, .ref (ad k1)), (2, .int x2)] [] σ := by
  unfold fX5_readWiths at hf
  refine g_iconst (v := 0) C dX5_readWiths_0 (by decide) ?_
  refine g_istore_n (lv2 := [(0, .ref (ad 3)), (1, .ref (ad k1)), (2, .int x2), (3, .int 0)]) C dX5_readWiths_1 rfl (by decide) [1, 2, 3, 0] rfl ?_
  exact g_sub [0, 1, 2, 3] rfl (fX5_readWiths_h2_ok C 400 σ k1 x2 0 hk1 hf)
theorem c_X5_readWiths (l : Launch) (dC : Nat → ClassId) (dI : Nat → Nat → Nat) (ad : Nat → Nat) (cy : Nat → ClassId) (k1 : Nat) (hk1 : isChimes k1) (x2 : Int32) : ConI l yX5_readWiths cX5_readWiths 5 (some .boolean) rm_X5_readWiths dC dI ad cy [.ref (ad 3), .ref (ad k1), .int x2] (fun σ => fX5_readWiths σ k1 x2) := con_i (own := RX5) (by decide) rfl (Nat.le_of_ble_eq_true rfl) (fun _ _ _ _ _ _ _ _ σ _ _ C hf => fX5_readWiths_ok C σ k1 x2 hk1 hf)
theorem cal_X5_readWiths : CalV yX5_readWiths RX5 cX5_readWiths 5 (some .boolean) 2 := ⟨hI_X5_readWiths, hS_X5_readWiths, hIni_X5, hC_X5_readWiths, by decide +kernel⟩
abbrev rm_X5_readBell : Room := { frames := 6, cells := 0, slots := 0, locals := 131 }
def fX5_readBell (σ : S0)  : Option (Int32 × S0) := if (σ 14 0) < 12 then (ol (σ 14 0) (fun v2 => og (¬ (v2 < 0 ∨ 12 ≤ v2.toNatClampNeg)) (ol (su σ 19 v2.toNatClampNeg ((-4))) (fun σ4 => og (¬ (v2 < 0 ∨ 12 ≤ v2.toNatClampNeg)) (ol (su σ4 18 v2.toNatClampNeg 0) (fun σ6 => obp (fX5_nextNumber σ6 ((0 : Int32)) ((5 : Int32))) (fun r7 σ8 => if ¬ r7 = 0 then (ol (σ8 1 5) (fun v11 => og (¬ (v2 < 0 ∨ 12 ≤ v2.toNatClampNeg)) (ol (su σ8 15 v2.toNatClampNeg v11) (fun σ13 => obp (fX5_nextNumber σ13 ((0 : Int32)) ((20 : Int32))) (fun r14 σ15 => if ¬ r14 = 0 then (ol (σ15 1 5) (fun v18 => og (¬ (v2 < 0 ∨ 12 ≤ v2.toNatClampNeg)) (ol (su σ15 16 v2.toNatClampNeg v18) (fun σ20 => obp (fX5_nextNumber σ20 ((0 : Int32)) ((9 : Int32))) (fun r21 σ22 => if ¬ r21 = 0 then (ol (σ22 1 5) (fun v25 => og (¬ (v2 < 0 ∨ 12 ≤ v2.toNatClampNeg)) (ol (su σ22 17 v2.toNatClampNeg v25) (fun σ27 => ol ((σ27 14 0) + 1) (fun v28 => ol (su σ27 14 0 v28) (fun σ29 => obp (fX5_advance σ29) (fun r30 σ31 => if r30 = 0 then (some (0, σ31)) else (obp (fX5_readWiths σ31 14 v2) (fun r34 σ35 => if r34 = 0 then (some (0, σ35)) else (obp (fX5_endLine σ35) (fun r38 σ39 => if r38 = 0 then (some (0, σ39)) else (some (1, σ39))))))))))))) else (some (0, σ22))))))) else (some (0, σ15))))))) else (some (0, σ8))))))))) else (obp (fX5_refuse σ ((5 : Int32))) (fun r42 σ43 => og (r42 = 0 ∨ r42 = 1) (some (r42, σ43))))
set_option maxHeartbeats 1000000 in
set_option maxRecDepth 100000 in
theorem fX5_readBell_ok {p : Program} {l : Launch} {e : Env} {s : State} {m : MethodId} {args : Array Value} {below : List Frame} {meth : Method} {c : Code} {dC : Nat → ClassId} {dI : Nat → Nat → Nat} {ad : Nat → Nat} {cy : Nat → ClassId} {sz : Nat} (C : Cx p s m args meth c RX5 cX5_readBell 3 (some .boolean) dC dI ad cy sz) {rr : Int32} {ρ : S0} (σ : S0)   (hf : fX5_readBell σ = some (rr, ρ)) : Gw p l e rm_X5_readBell s m args below meth c (MQ below (QcI dC dI ad cy sz rr ρ) args s 0 0 (AW ad sz)) dC dI ad cy 3 sz 0 0 0 [(0, .ref (ad 3))] [] σ := by
  unfold fX5_readBell at hf
  refine g_aload_n C dX5_readBell_0 rfl 0 rfl ?_
  refine g_get C (a_3 ad cy _) rfl hin_X5 1 (by decide) hF_X5_12 rfl rfl dX5_readBell_1 ?_
  refine g_get C (a_4 ad cy _) rfl hin_X9 6 (by decide) hF_X5_104 rfl rfl dX5_readBell_4 ?_
  refine g_astore_n (lv2 := [(0, .ref (ad 3)), (1, .ref (ad 14))]) C dX5_readBell_7 rfl (by decide) [1, 0] rfl ?_
  refine g_aload_n C dX5_readBell_8 rfl 1 rfl ?_
  refine g_get C (a_14 ad cy _) rfl hin_X1 0 (by decide) hF_X5_108 rfl rfl dX5_readBell_9 ?_
  refine g_bipush (v := 12) C dX5_readBell_12 (by decide) ?_
  rcases oi_e hf with ⟨c1, hf⟩ | ⟨c1, hf⟩
  · refine g_icmp_lt_t (tgt := 23) C dX5_readBell_14 (by decide) c1 ?_
    refine g_aload_n C dX5_readBell_23 rfl 1 rfl ?_
    refine g_get C (a_14 ad cy _) rfl hin_X1 0 (by decide) hF_X5_108 rfl rfl dX5_readBell_24 ?_
    obtain ⟨v2, ev2, hf⟩ := ol_e hf
    refine g_nm ev2 ?_
    refine g_istore_n (lv2 := [(0, .ref (ad 3)), (1, .ref (ad 14)), (2, .int v2)]) C dX5_readBell_27 rfl (by decide) [1, 2, 0] rfl ?_
    refine g_aload_n C dX5_readBell_28 rfl 1 rfl ?_
    refine g_get C (a_14 ad cy _) rfl hin_X1 5 (by decide) hF_X5_113 rfl rfl dX5_readBell_29 ?_
    refine g_iload_n C dX5_readBell_32 rfl 2 rfl ?_
    refine g_bipush (v := (-4)) C dX5_readBell_33 (by decide) ?_
    obtain ⟨h3, hf⟩ := og_e hf
    obtain ⟨σ4, eσ4, hf⟩ := ol_e hf
    refine g_iast C (a_19 ad cy _) h3 (w_19 ad cy _) eσ4 dX5_readBell_35 ?_
    refine g_aload_n C dX5_readBell_36 rfl 1 rfl ?_
    refine g_get C (a_14 ad cy _) rfl hin_X1 4 (by decide) hF_X5_117 rfl rfl dX5_readBell_37 ?_
    refine g_iload_n C dX5_readBell_40 rfl 2 rfl ?_
    refine g_iconst (v := 0) C dX5_readBell_41 (by decide) ?_
    obtain ⟨h5, hf⟩ := og_e hf
    obtain ⟨σ6, eσ6, hf⟩ := ol_e hf
    refine g_iast C (a_18 ad cy _) h5 (w_18 ad cy _) eσ6 dX5_readBell_42 ?_
    refine g_aload_n C dX5_readBell_43 rfl 0 rfl ?_
    refine g_iconst (v := 0) C dX5_readBell_44 (by decide) ?_
    refine g_iconst (v := 5) C dX5_readBell_45 (by decide) ?_
    obtain ⟨r7, σ8, h9, hf⟩ := obp_e hf
    refine g_callVi (As := [.int 0, .int 5]) (rest := []) C (a_3 ad cy _) rfl (c_X5_nextNumber l dC dI ad cy ((0 : Int32)) ((5 : Int32))) h9 hM_X5_90 cal_X5_nextNumber ⟨Nat.zero_le _, Nat.zero_le _⟩ ⟨rfl, rfl⟩ ⟨Nat.le_of_ble_eq_true rfl, Nat.le_of_ble_eq_true rfl⟩ rfl rfl (Nat.le_of_ble_eq_true rfl) dX5_readBell_46 ?_
    rcases oi_e hf with ⟨c10, hf⟩ | ⟨c10, hf⟩
    · refine g_if_ne_t (tgt := 54) C dX5_readBell_49 (by decide) c10 ?_
      refine g_aload_n C dX5_readBell_54 rfl 1 rfl ?_
      refine g_get C (a_14 ad cy _) rfl hin_X1 1 (by decide) hF_X5_120 rfl rfl dX5_readBell_55 ?_
      refine g_iload_n C dX5_readBell_58 rfl 2 rfl ?_
      refine g_aload_n C dX5_readBell_59 rfl 0 rfl ?_
      refine g_get C (a_3 ad cy _) rfl hin_X5 0 (by decide) hF_X5_18 rfl rfl dX5_readBell_60 ?_
      refine g_get C (a_1 ad cy _) rfl hin_X8 5 (by decide) hF_X5_94 rfl rfl dX5_readBell_63 ?_
      obtain ⟨v11, ev11, hf⟩ := ol_e hf
      refine g_nm ev11 ?_
      obtain ⟨h12, hf⟩ := og_e hf
      obtain ⟨σ13, eσ13, hf⟩ := ol_e hf
      refine g_iast C (a_15 ad cy _) h12 (w_15 ad cy _) eσ13 dX5_readBell_66 ?_
      refine g_aload_n C dX5_readBell_67 rfl 0 rfl ?_
      refine g_iconst (v := 0) C dX5_readBell_68 (by decide) ?_
      refine g_bipush (v := 20) C dX5_readBell_69 (by decide) ?_
      obtain ⟨r14, σ15, h16, hf⟩ := obp_e hf
      refine g_callVi (As := [.int 0, .int 20]) (rest := []) C (a_3 ad cy _) rfl (c_X5_nextNumber l dC dI ad cy ((0 : Int32)) ((20 : Int32))) h16 hM_X5_90 cal_X5_nextNumber ⟨Nat.zero_le _, Nat.zero_le _⟩ ⟨rfl, rfl⟩ ⟨Nat.le_of_ble_eq_true rfl, Nat.le_of_ble_eq_true rfl⟩ rfl rfl (Nat.le_of_ble_eq_true rfl) dX5_readBell_71 ?_
      rcases oi_e hf with ⟨c17, hf⟩ | ⟨c17, hf⟩
      · refine g_if_ne_t (tgt := 79) C dX5_readBell_74 (by decide) c17 ?_
        refine g_aload_n C dX5_readBell_79 rfl 1 rfl ?_
        refine g_get C (a_14 ad cy _) rfl hin_X1 2 (by decide) hF_X5_123 rfl rfl dX5_readBell_80 ?_
        refine g_iload_n C dX5_readBell_83 rfl 2 rfl ?_
        refine g_aload_n C dX5_readBell_84 rfl 0 rfl ?_
        refine g_get C (a_3 ad cy _) rfl hin_X5 0 (by decide) hF_X5_18 rfl rfl dX5_readBell_85 ?_
        refine g_get C (a_1 ad cy _) rfl hin_X8 5 (by decide) hF_X5_94 rfl rfl dX5_readBell_88 ?_
        obtain ⟨v18, ev18, hf⟩ := ol_e hf
        refine g_nm ev18 ?_
        obtain ⟨h19, hf⟩ := og_e hf
        obtain ⟨σ20, eσ20, hf⟩ := ol_e hf
        refine g_iast C (a_16 ad cy _) h19 (w_16 ad cy _) eσ20 dX5_readBell_91 ?_
        refine g_aload_n C dX5_readBell_92 rfl 0 rfl ?_
        refine g_iconst (v := 0) C dX5_readBell_93 (by decide) ?_
        refine g_bipush (v := 9) C dX5_readBell_94 (by decide) ?_
        obtain ⟨r21, σ22, h23, hf⟩ := obp_e hf
        refine g_callVi (As := [.int 0, .int 9]) (rest := []) C (a_3 ad cy _) rfl (c_X5_nextNumber l dC dI ad cy ((0 : Int32)) ((9 : Int32))) h23 hM_X5_90 cal_X5_nextNumber ⟨Nat.zero_le _, Nat.zero_le _⟩ ⟨rfl, rfl⟩ ⟨Nat.le_of_ble_eq_true rfl, Nat.le_of_ble_eq_true rfl⟩ rfl rfl (Nat.le_of_ble_eq_true rfl) dX5_readBell_96 ?_
        rcases oi_e hf with ⟨c24, hf⟩ | ⟨c24, hf⟩
        · refine g_if_ne_t (tgt := 104) C dX5_readBell_99 (by decide) c24 ?_
          refine g_aload_n C dX5_readBell_104 rfl 1 rfl ?_
          refine g_get C (a_14 ad cy _) rfl hin_X1 3 (by decide) hF_X5_126 rfl rfl dX5_readBell_105 ?_
          refine g_iload_n C dX5_readBell_108 rfl 2 rfl ?_
          refine g_aload_n C dX5_readBell_109 rfl 0 rfl ?_
          refine g_get C (a_3 ad cy _) rfl hin_X5 0 (by decide) hF_X5_18 rfl rfl dX5_readBell_110 ?_
          refine g_get C (a_1 ad cy _) rfl hin_X8 5 (by decide) hF_X5_94 rfl rfl dX5_readBell_113 ?_
          obtain ⟨v25, ev25, hf⟩ := ol_e hf
          refine g_nm ev25 ?_
          obtain ⟨h26, hf⟩ := og_e hf
          obtain ⟨σ27, eσ27, hf⟩ := ol_e hf
          refine g_iast C (a_17 ad cy _) h26 (w_17 ad cy _) eσ27 dX5_readBell_116 ?_
          refine g_aload_n C dX5_readBell_117 rfl 1 rfl ?_
          refine g_dup C dX5_readBell_118 rfl ?_
          refine g_get C (a_14 ad cy _) rfl hin_X1 0 (by decide) hF_X5_108 rfl rfl dX5_readBell_119 ?_
          refine g_iconst (v := 1) C dX5_readBell_122 (by decide) ?_
          refine g_iadd C dX5_readBell_123 ?_
          obtain ⟨v28, ev28, hf⟩ := ol_e hf
          refine g_nm ev28 ?_
          obtain ⟨σ29, eσ29, hf⟩ := ol_e hf
          refine g_put (ty := .int) C (a_14 ad cy _) rfl hin_X1 tyX1 tyX1_ok nmX1 0 (by decide) hF_X5_108 rfl rfl (by decide +kernel) rfl rfl (Nat.le_of_ble_eq_true rfl) (p_14_0 ad cy _ _) eσ29 dX5_readBell_124 ?_
          refine g_aload_n C dX5_readBell_127 rfl 0 rfl ?_
          obtain ⟨r30, σ31, h32, hf⟩ := obp_e hf
          refine g_callVi (As := []) (rest := []) C (a_3 ad cy _) rfl (c_X5_advance l dC dI ad cy ) h32 hM_X5_44 cal_X5_advance ⟨Nat.zero_le _, Nat.zero_le _⟩ ⟨rfl, rfl⟩ ⟨Nat.le_of_ble_eq_true rfl, Nat.le_of_ble_eq_true rfl⟩ rfl rfl (Nat.le_of_ble_eq_true rfl) dX5_readBell_128 ?_
          rcases oi_e hf with ⟨c33, hf⟩ | ⟨c33, hf⟩
          · refine g_if_eq_t (tgt := 154) C dX5_readBell_131 (by decide) c33 ?_
            refine g_iconst (v := 0) C dX5_readBell_154 (by decide) ?_
            obtain ⟨rfl, rfl⟩ := os_e hf
            exact g_zret C rfl (by decide) dX5_readBell_155
          · refine g_if_eq_f (tgt := 154) C dX5_readBell_131 (by decide) c33 ?_
            refine g_aload_n C dX5_readBell_134 rfl 0 rfl ?_
            refine g_aload_n C dX5_readBell_135 rfl 1 rfl ?_
            refine g_iload_n C dX5_readBell_136 rfl 2 rfl ?_
            obtain ⟨r34, σ35, h36, hf⟩ := obp_e hf
            refine g_callVi (As := [.ref (ad 14), .int v2]) (rest := []) C (a_3 ad cy _) rfl (c_X5_readWiths l dC dI ad cy 14 k_isChimes_14 v2) h36 hM_X5_129 cal_X5_readWiths ⟨Nat.zero_le _, Nat.zero_le _⟩ ⟨rfl, rfl⟩ ⟨Nat.le_of_ble_eq_true rfl, Nat.le_of_ble_eq_true rfl⟩ rfl rfl (Nat.le_of_ble_eq_true rfl) dX5_readBell_137 ?_
            rcases oi_e hf with ⟨c37, hf⟩ | ⟨c37, hf⟩
            · refine g_if_eq_t (tgt := 154) C dX5_readBell_140 (by decide) c37 ?_
              refine g_iconst (v := 0) C dX5_readBell_154 (by decide) ?_
              obtain ⟨rfl, rfl⟩ := os_e hf
              exact g_zret C rfl (by decide) dX5_readBell_155
            · refine g_if_eq_f (tgt := 154) C dX5_readBell_140 (by decide) c37 ?_
              refine g_aload_n C dX5_readBell_143 rfl 0 rfl ?_
              obtain ⟨r38, σ39, h40, hf⟩ := obp_e hf
              refine g_callVi (As := []) (rest := []) C (a_3 ad cy _) rfl (c_X5_endLine l dC dI ad cy ) h40 hM_X5_99 cal_X5_endLine ⟨Nat.zero_le _, Nat.zero_le _⟩ ⟨rfl, rfl⟩ ⟨Nat.le_of_ble_eq_true rfl, Nat.le_of_ble_eq_true rfl⟩ rfl rfl (Nat.le_of_ble_eq_true rfl) dX5_readBell_144 ?_
              rcases oi_e hf with ⟨c41, hf⟩ | ⟨c41, hf⟩
              · refine g_if_eq_t (tgt := 154) C dX5_readBell_147 (by decide) c41 ?_
                refine g_iconst (v := 0) C dX5_readBell_154 (by decide) ?_
                obtain ⟨rfl, rfl⟩ := os_e hf
                exact g_zret C rfl (by decide) dX5_readBell_155
              · refine g_if_eq_f (tgt := 154) C dX5_readBell_147 (by decide) c41 ?_
                refine g_iconst (v := 1) C dX5_readBell_150 (by decide) ?_
                refine g_goto (tgt := 155) C dX5_readBell_151 (by decide) ?_
                obtain ⟨rfl, rfl⟩ := os_e hf
                exact g_zret C rfl (by decide) dX5_readBell_155
        · refine g_if_ne_f (tgt := 104) C dX5_readBell_99 (by decide) (Decidable.of_not_not c24) ?_
          refine g_iconst (v := 0) C dX5_readBell_102 (by decide) ?_
          obtain ⟨rfl, rfl⟩ := os_e hf
          exact g_zret C rfl (by decide) dX5_readBell_103
      · refine g_if_ne_f (tgt := 79) C dX5_readBell_74 (by decide) (Decidable.of_not_not c17) ?_
        refine g_iconst (v := 0) C dX5_readBell_77 (by decide) ?_
        obtain ⟨rfl, rfl⟩ := os_e hf
        exact g_zret C rfl (by decide) dX5_readBell_78
    · refine g_if_ne_f (tgt := 54) C dX5_readBell_49 (by decide) (Decidable.of_not_not c10) ?_
      refine g_iconst (v := 0) C dX5_readBell_52 (by decide) ?_
      obtain ⟨rfl, rfl⟩ := os_e hf
      exact g_zret C rfl (by decide) dX5_readBell_53
  · refine g_icmp_lt_f (tgt := 23) C dX5_readBell_14 (by decide) c1 ?_
    refine g_aload_n C dX5_readBell_17 rfl 0 rfl ?_
    refine g_iconst (v := 5) C dX5_readBell_18 (by decide) ?_
    obtain ⟨r42, σ43, h44, hf⟩ := obp_e hf
    refine g_callVi (As := [.int 5]) (rest := []) C (a_3 ad cy _) rfl (c_X5_refuse l dC dI ad cy ((5 : Int32))) h44 hM_X5_57 cal_X5_refuse ⟨Nat.zero_le _, Nat.zero_le _⟩ ⟨rfl, rfl⟩ ⟨Nat.le_of_ble_eq_true rfl, Nat.le_of_ble_eq_true rfl⟩ rfl rfl (Nat.le_of_ble_eq_true rfl) dX5_readBell_19 ?_
    obtain ⟨h45, hf⟩ := og_e hf
    obtain ⟨rfl, rfl⟩ := os_e hf
    exact g_zret C rfl (zb_ok h45) dX5_readBell_22
theorem c_X5_readBell (l : Launch) (dC : Nat → ClassId) (dI : Nat → Nat → Nat) (ad : Nat → Nat) (cy : Nat → ClassId)  : ConI l yX5_readBell cX5_readBell 3 (some .boolean) rm_X5_readBell dC dI ad cy [.ref (ad 3)] (fun σ => fX5_readBell σ) := con_i (own := RX5) (by decide) rfl (Nat.le_of_ble_eq_true rfl) (fun _ _ _ _ _ _ _ _ σ _ _ C hf => fX5_readBell_ok C σ  hf)
theorem cal_X5_readBell : CalV yX5_readBell RX5 cX5_readBell 3 (some .boolean) 0 := ⟨hI_X5_readBell, hS_X5_readBell, hIni_X5, hC_X5_readBell, by decide +kernel⟩
abbrev rm_X5_readStrokes : Room := { frames := 2, cells := 0, slots := 0, locals := 41 }
def fX5_readStrokes_b25 (sf_2 : S0 → Int32 → Int32 → Option (Int32 × S0)) (σ : S0) (x1 : Int32) (x2 : Int32) : Option (Int32 × S0) := obp (fX5_faultOfNumber σ ((0 : Int32)) ((11 : Int32))) (fun r1 σ2 => if r1 = 0 then (if x2 < 12 then (og (¬ (x1 < 0 ∨ 6 ≤ x1.toNatClampNeg)) (ol (8 + 1 * x1.toNatClampNeg) (fun q7 => ol (σ2 1 5) (fun v8 => og (¬ (x2 < 0 ∨ 12 ≤ x2.toNatClampNeg)) (ol (su σ2 q7 x2.toNatClampNeg v8) (fun σ10 => ol (x2 + 1) (fun v11 => og (¬ (x1 < 0 ∨ 6 ≤ x1.toNatClampNeg)) (ol (su σ10 6 x1.toNatClampNeg v11) (fun σ13 => obp (fX5_advance σ13) (fun r14 σ15 => if ¬ r14 = 0 then (ol (x2 + 1) (fun v18 => sf_2 σ15 x1 v18)) else (some (0, σ15)))))))))))) else (obp (fX5_refuse σ2 ((5 : Int32))) (fun r19 σ20 => og (r19 = 0 ∨ r19 = 1) (some (r19, σ20))))) else (obp (fX5_refuse σ2 r1) (fun r23 σ24 => og (r23 = 0 ∨ r23 = 1) (some (r23, σ24)))))
set_option maxHeartbeats 1000000 in
set_option maxRecDepth 100000 in
theorem fX5_readStrokes_b25_ok {p : Program} {l : Launch} {e : Env} {s : State} {m : MethodId} {args : Array Value} {below : List Frame} {meth : Method} {c : Code} {dC : Nat → ClassId} {dI : Nat → Nat → Nat} {ad : Nat → Nat} {cy : Nat → ClassId} {sz : Nat} (C : Cx p s m args meth c RX5 cX5_readStrokes 4 (some .boolean) dC dI ad cy sz) {rr : Int32} {ρ : S0} (sf_2 : S0 → Int32 → Int32 → Option (Int32 × S0)) (hs_2 : ∀ (σ : S0) (x1 : Int32) (x2 : Int32) , sf_2 σ x1 x2 = some (rr, ρ) → Gw p l e rm_X5_readStrokes s m args below meth c (MQ below (QcI dC dI ad cy sz rr ρ) args s 0 0 (AW ad sz)) dC dI ad cy 4 sz 0 0 2 [(0, .ref (ad 3)), (1, .int x1), (2, .int x2)] [] σ) (σ : S0) (x1 : Int32) (x2 : Int32)  (hf : fX5_readStrokes_b25 sf_2 σ x1 x2 = some (rr, ρ)) : Gw p l e rm_X5_readStrokes s m args below meth c (MQ below (QcI dC dI ad cy sz rr ρ) args s 0 0 (AW ad sz)) dC dI ad cy 4 sz 0 0 25 [(0, .ref (ad 3)), (1, .int x1), (2, .int x2)] [] σ := by
  unfold fX5_readStrokes_b25 at hf
  refine g_aload_n C dX5_readStrokes_25 rfl 0 rfl ?_
  refine g_iconst (v := 0) C dX5_readStrokes_26 (by decide) ?_
  refine g_bipush (v := 11) C dX5_readStrokes_27 (by decide) ?_
  obtain ⟨r1, σ2, h3, hf⟩ := obp_e hf
  refine g_callVi (As := [.int 0, .int 11]) (rest := []) C (a_3 ad cy _) rfl (c_X5_faultOfNumber l dC dI ad cy ((0 : Int32)) ((11 : Int32))) h3 hM_X5_144 cal_X5_faultOfNumber ⟨Nat.zero_le _, Nat.zero_le _⟩ ⟨rfl, rfl⟩ ⟨Nat.le_of_ble_eq_true rfl, Nat.le_of_ble_eq_true rfl⟩ rfl rfl (Nat.le_of_ble_eq_true rfl) dX5_readStrokes_29 ?_
  refine g_istore_n (lv2 := [(0, .ref (ad 3)), (1, .int x1), (2, .int x2), (3, .int r1)]) C dX5_readStrokes_32 rfl (by decide) [1, 2, 3, 0] rfl ?_
  refine g_iload_n C dX5_readStrokes_33 rfl 3 rfl ?_
  rcases oi_e hf with ⟨c4, hf⟩ | ⟨c4, hf⟩
  · refine g_if_eq_t (tgt := 43) C dX5_readStrokes_34 (by decide) c4 ?_
    refine g_iload_n C dX5_readStrokes_43 rfl 2 rfl ?_
    refine g_bipush (v := 12) C dX5_readStrokes_44 (by decide) ?_
    rcases oi_e hf with ⟨c5, hf⟩ | ⟨c5, hf⟩
    · refine g_icmp_lt_t (tgt := 55) C dX5_readStrokes_46 (by decide) c5 ?_
      refine g_aload_n C dX5_readStrokes_55 rfl 0 rfl ?_
      refine g_get C (a_3 ad cy _) rfl hin_X5 1 (by decide) hF_X5_12 rfl rfl dX5_readStrokes_56 ?_
      refine g_get C (a_4 ad cy _) rfl hin_X9 5 (by decide) hF_X5_148 rfl rfl dX5_readStrokes_59 ?_
      refine g_iload_n C dX5_readStrokes_62 rfl 1 rfl ?_
      obtain ⟨h6, hf⟩ := og_e hf
      obtain ⟨q7, eq7, hf⟩ := ol_e hf
      refine g_aald C (a_7 ad cy _) rfl rfl h6 dX5_readStrokes_63 ?_
      refine g_nmr eq7 ?_
      have hq7 := (o_7 h6 eq7)
      refine g_iload_n C dX5_readStrokes_64 rfl 2 rfl ?_
      refine g_aload_n C dX5_readStrokes_65 rfl 0 rfl ?_
      refine g_get C (a_3 ad cy _) rfl hin_X5 0 (by decide) hF_X5_18 rfl rfl dX5_readStrokes_66 ?_
      refine g_get C (a_1 ad cy _) rfl hin_X8 5 (by decide) hF_X5_94 rfl rfl dX5_readStrokes_69 ?_
      obtain ⟨v8, ev8, hf⟩ := ol_e hf
      refine g_nm ev8 ?_
      obtain ⟨h9, hf⟩ := og_e hf
      obtain ⟨σ10, eσ10, hf⟩ := ol_e hf
      refine g_iast C (s_row hq7 ad cy _) h9 (ws_row hq7 ad cy _) eσ10 dX5_readStrokes_72 ?_
      refine g_aload_n C dX5_readStrokes_73 rfl 0 rfl ?_
      refine g_get C (a_3 ad cy _) rfl hin_X5 1 (by decide) hF_X5_12 rfl rfl dX5_readStrokes_74 ?_
      refine g_get C (a_4 ad cy _) rfl hin_X9 4 (by decide) hF_X5_152 rfl rfl dX5_readStrokes_77 ?_
      refine g_iload_n C dX5_readStrokes_80 rfl 1 rfl ?_
      refine g_iload_n C dX5_readStrokes_81 rfl 2 rfl ?_
      refine g_iconst (v := 1) C dX5_readStrokes_82 (by decide) ?_
      refine g_iadd C dX5_readStrokes_83 ?_
      obtain ⟨v11, ev11, hf⟩ := ol_e hf
      refine g_nm ev11 ?_
      obtain ⟨h12, hf⟩ := og_e hf
      obtain ⟨σ13, eσ13, hf⟩ := ol_e hf
      refine g_iast C (a_6 ad cy _) h12 (w_6 ad cy _) eσ13 dX5_readStrokes_84 ?_
      refine g_aload_n C dX5_readStrokes_85 rfl 0 rfl ?_
      obtain ⟨r14, σ15, h16, hf⟩ := obp_e hf
      refine g_callVi (As := []) (rest := []) C (a_3 ad cy _) rfl (c_X5_advance l dC dI ad cy ) h16 hM_X5_44 cal_X5_advance ⟨Nat.zero_le _, Nat.zero_le _⟩ ⟨rfl, rfl⟩ ⟨Nat.le_of_ble_eq_true rfl, Nat.le_of_ble_eq_true rfl⟩ rfl rfl (Nat.le_of_ble_eq_true rfl) dX5_readStrokes_86 ?_
      rcases oi_e hf with ⟨c17, hf⟩ | ⟨c17, hf⟩
      · refine g_if_ne_t (tgt := 94) C dX5_readStrokes_89 (by decide) c17 ?_
        obtain ⟨v18, ev18, hf⟩ := ol_e hf
        refine g_iinc (j := 2) (w := 1) (lv2 := [(0, .ref (ad 3)), (1, .int x1), (2, .int v18), (3, .int r1)]) C dX5_readStrokes_94 rfl (by decide) ev18 (by decide) [1, 2, 0, 3] rfl ?_
        refine g_goto (tgt := 2) C dX5_readStrokes_97 (by decide) ?_
        exact g_sub [0, 1, 2] rfl (hs_2 σ15 x1 v18 hf)
      · refine g_if_ne_f (tgt := 94) C dX5_readStrokes_89 (by decide) (Decidable.of_not_not c17) ?_
        refine g_iconst (v := 0) C dX5_readStrokes_92 (by decide) ?_
        obtain ⟨rfl, rfl⟩ := os_e hf
        exact g_zret C rfl (by decide) dX5_readStrokes_93
    · refine g_icmp_lt_f (tgt := 55) C dX5_readStrokes_46 (by decide) c5 ?_
      refine g_aload_n C dX5_readStrokes_49 rfl 0 rfl ?_
      refine g_iconst (v := 5) C dX5_readStrokes_50 (by decide) ?_
      obtain ⟨r19, σ20, h21, hf⟩ := obp_e hf
      refine g_callVi (As := [.int 5]) (rest := []) C (a_3 ad cy _) rfl (c_X5_refuse l dC dI ad cy ((5 : Int32))) h21 hM_X5_57 cal_X5_refuse ⟨Nat.zero_le _, Nat.zero_le _⟩ ⟨rfl, rfl⟩ ⟨Nat.le_of_ble_eq_true rfl, Nat.le_of_ble_eq_true rfl⟩ rfl rfl (Nat.le_of_ble_eq_true rfl) dX5_readStrokes_51 ?_
      obtain ⟨h22, hf⟩ := og_e hf
      obtain ⟨rfl, rfl⟩ := os_e hf
      exact g_zret C rfl (zb_ok h22) dX5_readStrokes_54
  · refine g_if_eq_f (tgt := 43) C dX5_readStrokes_34 (by decide) c4 ?_
    refine g_aload_n C dX5_readStrokes_37 rfl 0 rfl ?_
    refine g_iload_n C dX5_readStrokes_38 rfl 3 rfl ?_
    obtain ⟨r23, σ24, h25, hf⟩ := obp_e hf
    refine g_callVi (As := [.int r1]) (rest := []) C (a_3 ad cy _) rfl (c_X5_refuse l dC dI ad cy r1) h25 hM_X5_57 cal_X5_refuse ⟨Nat.zero_le _, Nat.zero_le _⟩ ⟨rfl, rfl⟩ ⟨Nat.le_of_ble_eq_true rfl, Nat.le_of_ble_eq_true rfl⟩ rfl rfl (Nat.le_of_ble_eq_true rfl) dX5_readStrokes_39 ?_
    obtain ⟨h26, hf⟩ := og_e hf
    obtain ⟨rfl, rfl⟩ := os_e hf
    exact g_zret C rfl (zb_ok h26) dX5_readStrokes_42
def fX5_readStrokes_b2 (sf_2 : S0 → Int32 → Int32 → Option (Int32 × S0)) (σ : S0) (x1 : Int32) (x2 : Int32) : Option (Int32 × S0) := if (12 : Int32) < x2 then (some (1, σ)) else (if x2 ≤ 0 then (fX5_readStrokes_b25 sf_2 σ x1 x2) else (if (σ 1 3) = 2 then (fX5_readStrokes_b25 sf_2 σ x1 x2) else (some (1, σ))))
set_option maxHeartbeats 1000000 in
set_option maxRecDepth 100000 in
theorem fX5_readStrokes_b2_ok {p : Program} {l : Launch} {e : Env} {s : State} {m : MethodId} {args : Array Value} {below : List Frame} {meth : Method} {c : Code} {dC : Nat → ClassId} {dI : Nat → Nat → Nat} {ad : Nat → Nat} {cy : Nat → ClassId} {sz : Nat} (C : Cx p s m args meth c RX5 cX5_readStrokes 4 (some .boolean) dC dI ad cy sz) {rr : Int32} {ρ : S0} (sf_2 : S0 → Int32 → Int32 → Option (Int32 × S0)) (hs_2 : ∀ (σ : S0) (x1 : Int32) (x2 : Int32) , sf_2 σ x1 x2 = some (rr, ρ) → Gw p l e rm_X5_readStrokes s m args below meth c (MQ below (QcI dC dI ad cy sz rr ρ) args s 0 0 (AW ad sz)) dC dI ad cy 4 sz 0 0 2 [(0, .ref (ad 3)), (1, .int x1), (2, .int x2)] [] σ) (σ : S0) (x1 : Int32) (x2 : Int32)  (hf : fX5_readStrokes_b2 sf_2 σ x1 x2 = some (rr, ρ)) : Gw p l e rm_X5_readStrokes s m args below meth c (MQ below (QcI dC dI ad cy sz rr ρ) args s 0 0 (AW ad sz)) dC dI ad cy 4 sz 0 0 2 [(0, .ref (ad 3)), (1, .int x1), (2, .int x2)] [] σ := by
  unfold fX5_readStrokes_b2 at hf
  refine g_iload_n C dX5_readStrokes_2 rfl 2 rfl ?_
  refine g_bipush (v := 12) C dX5_readStrokes_3 (by decide) ?_
  rcases oi_e hf with ⟨c1, hf⟩ | ⟨c1, hf⟩
  · refine g_icmp_gt_t (tgt := 100) C dX5_readStrokes_5 (by decide) c1 ?_
    refine g_iconst (v := 1) C dX5_readStrokes_100 (by decide) ?_
    obtain ⟨rfl, rfl⟩ := os_e hf
    exact g_zret C rfl (by decide) dX5_readStrokes_101
  · refine g_icmp_gt_f (tgt := 100) C dX5_readStrokes_5 (by decide) c1 ?_
    refine g_iload_n C dX5_readStrokes_8 rfl 2 rfl ?_
    rcases oi_e hf with ⟨c2, hf⟩ | ⟨c2, hf⟩
    · refine g_if_le_t (tgt := 25) C dX5_readStrokes_9 (by decide) c2 ?_
      exact g_sub [0, 1, 2] rfl (fX5_readStrokes_b25_ok C sf_2 hs_2 σ x1 x2 hf)
    · refine g_if_le_f (tgt := 25) C dX5_readStrokes_9 (by decide) c2 ?_
      refine g_aload_n C dX5_readStrokes_12 rfl 0 rfl ?_
      refine g_get C (a_3 ad cy _) rfl hin_X5 0 (by decide) hF_X5_18 rfl rfl dX5_readStrokes_13 ?_
      refine g_get C (a_1 ad cy _) rfl hin_X8 3 (by decide) hF_X5_48 rfl rfl dX5_readStrokes_16 ?_
      refine g_iconst (v := 2) C dX5_readStrokes_19 (by decide) ?_
      rcases oi_e hf with ⟨c3, hf⟩ | ⟨c3, hf⟩
      · refine g_icmp_eq_t (tgt := 25) C dX5_readStrokes_20 (by decide) c3 ?_
        exact g_sub [0, 1, 2] rfl (fX5_readStrokes_b25_ok C sf_2 hs_2 σ x1 x2 hf)
      · refine g_icmp_eq_f (tgt := 25) C dX5_readStrokes_20 (by decide) c3 ?_
        refine g_iconst (v := 1) C dX5_readStrokes_23 (by decide) ?_
        obtain ⟨rfl, rfl⟩ := os_e hf
        exact g_zret C rfl (by decide) dX5_readStrokes_24
def fX5_readStrokes_h2  : Nat → S0 → Int32 → Int32 → Option (Int32 × S0)
  | 0 => fun _ _ _ => none
  | n + 1 => fun σ x1 x2 => fX5_readStrokes_b2  (fX5_readStrokes_h2  n) σ x1 x2
set_option maxHeartbeats 1000000 in
set_option maxRecDepth 100000 in
theorem fX5_readStrokes_h2_ok {p : Program} {l : Launch} {e : Env} {s : State} {m : MethodId} {args : Array Value} {below : List Frame} {meth : Method} {c : Code} {dC : Nat → ClassId} {dI : Nat → Nat → Nat} {ad : Nat → Nat} {cy : Nat → ClassId} {sz : Nat} (C : Cx p s m args meth c RX5 cX5_readStrokes 4 (some .boolean) dC dI ad cy sz) {rr : Int32} {ρ : S0}  : ∀ (n : Nat) (σ : S0) (x1 : Int32) (x2 : Int32)  (_hf : fX5_readStrokes_h2  n σ x1 x2 = some (rr, ρ)), Gw p l e rm_X5_readStrokes s m args below meth c (MQ below (QcI dC dI ad cy sz rr ρ) args s 0 0 (AW ad sz)) dC dI ad cy 4 sz 0 0 2 [(0, .ref (ad 3)), (1, .int x1), (2, .int x2)] [] σ
  | 0, _, _, _, hf => by cases hf
  | n + 1, σ, x1, x2, hf => fX5_readStrokes_b2_ok C  (fX5_readStrokes_h2  n) (fX5_readStrokes_h2_ok C  n) σ x1 x2 hf
def fX5_readStrokes (σ : S0) (x1 : Int32) : Option (Int32 × S0) := fX5_readStrokes_h2 400 σ x1 0
set_option maxHeartbeats 1000000 in
set_option maxRecDepth 100000 in
theorem fX5_readStrokes_ok {p : Program} {l : Launch} {e : Env} {s : State} {m : MethodId} {args : Array Value} {below : List Frame} {meth : Method} {c : Code} {dC : Nat → ClassId} {dI : Nat → Nat → Nat} {ad : Nat → Nat} {cy : Nat → ClassId} {sz : Nat} (C : Cx p s m args meth c RX5 cX5_readStrokes 4 (some .boolean) dC dI ad cy sz) {rr : Int32} {ρ : S0} (σ : S0) (x1 : Int32)  (hf : fX5_readStrokes σ x1 = some (rr, ρ)) : Gw p l e rm_X5_readStrokes s m args below meth c (MQ below (QcI dC dI ad cy sz rr ρ) args s 0 0 (AW ad sz)) dC dI ad cy 4 sz 0 0 0 [(0, .ref (ad 3)), (1, .int x1)] [] σ := by
  unfold fX5_readStrokes at hf
  refine g_iconst (v := 0) C dX5_readStrokes_0 (by decide) ?_
  refine g_istore_n (lv2 := [(0, .ref (ad 3)), (1, .int x1), (2, .int 0)]) C dX5_readStrokes_1 rfl (by decide) [1, 2, 0] rfl ?_
  exact g_sub [0, 1, 2] rfl (fX5_readStrokes_h2_ok C 400 σ x1 0 hf)
theorem c_X5_readStrokes (l : Launch) (dC : Nat → ClassId) (dI : Nat → Nat → Nat) (ad : Nat → Nat) (cy : Nat → ClassId) (x1 : Int32) : ConI l yX5_readStrokes cX5_readStrokes 4 (some .boolean) rm_X5_readStrokes dC dI ad cy [.ref (ad 3), .int x1] (fun σ => fX5_readStrokes σ x1) := con_i (own := RX5) (by decide) rfl (Nat.le_of_ble_eq_true rfl) (fun _ _ _ _ _ _ _ _ σ _ _ C hf => fX5_readStrokes_ok C σ x1 hf)
theorem cal_X5_readStrokes : CalV yX5_readStrokes RX5 cX5_readStrokes 4 (some .boolean) 1 := ⟨hI_X5_readStrokes, hS_X5_readStrokes, hIni_X5, hC_X5_readStrokes, by decide +kernel⟩
abbrev rm_X5_readTune : Room := { frames := 3, cells := 0, slots := 0, locals := 64 }
def fX5_readTune (σ : S0)  : Option (Int32 × S0) := if (σ 4 2) < 6 then (ol (σ 4 2) (fun v2 => obp (fX5_nextNumber σ ((0 : Int32)) ((99 : Int32))) (fun r3 σ4 => if ¬ r3 = 0 then (ol (σ4 1 5) (fun v7 => og (¬ (v2 < 0 ∨ 6 ≤ v2.toNatClampNeg)) (ol (su σ4 5 v2.toNatClampNeg v7) (fun σ9 => ol ((σ9 4 2) + 1) (fun v10 => ol (su σ9 4 2 v10) (fun σ11 => obp (fX5_advance σ11) (fun r12 σ13 => if r12 = 0 then (some (0, σ13)) else (obp (fX5_readStrokes σ13 v2) (fun r16 σ17 => if r16 = 0 then (some (0, σ17)) else (obp (fX5_endLine σ17) (fun r20 σ21 => if r20 = 0 then (some (0, σ21)) else (some (1, σ21))))))))))))) else (some (0, σ4))))) else (obp (fX5_refuse σ ((5 : Int32))) (fun r24 σ25 => og (r24 = 0 ∨ r24 = 1) (some (r24, σ25))))
set_option maxHeartbeats 1000000 in
set_option maxRecDepth 100000 in
theorem fX5_readTune_ok {p : Program} {l : Launch} {e : Env} {s : State} {m : MethodId} {args : Array Value} {below : List Frame} {meth : Method} {c : Code} {dC : Nat → ClassId} {dI : Nat → Nat → Nat} {ad : Nat → Nat} {cy : Nat → ClassId} {sz : Nat} (C : Cx p s m args meth c RX5 cX5_readTune 2 (some .boolean) dC dI ad cy sz) {rr : Int32} {ρ : S0} (σ : S0)   (hf : fX5_readTune σ = some (rr, ρ)) : Gw p l e rm_X5_readTune s m args below meth c (MQ below (QcI dC dI ad cy sz rr ρ) args s 0 0 (AW ad sz)) dC dI ad cy 2 sz 0 0 0 [(0, .ref (ad 3))] [] σ := by
  unfold fX5_readTune at hf
  refine g_aload_n C dX5_readTune_0 rfl 0 rfl ?_
  refine g_get C (a_3 ad cy _) rfl hin_X5 1 (by decide) hF_X5_12 rfl rfl dX5_readTune_1 ?_
  refine g_get C (a_4 ad cy _) rfl hin_X9 2 (by decide) hF_X5_135 rfl rfl dX5_readTune_4 ?_
  refine g_bipush (v := 6) C dX5_readTune_7 (by decide) ?_
  rcases oi_e hf with ⟨c1, hf⟩ | ⟨c1, hf⟩
  · refine g_icmp_lt_t (tgt := 18) C dX5_readTune_9 (by decide) c1 ?_
    refine g_aload_n C dX5_readTune_18 rfl 0 rfl ?_
    refine g_get C (a_3 ad cy _) rfl hin_X5 1 (by decide) hF_X5_12 rfl rfl dX5_readTune_19 ?_
    refine g_get C (a_4 ad cy _) rfl hin_X9 2 (by decide) hF_X5_135 rfl rfl dX5_readTune_22 ?_
    obtain ⟨v2, ev2, hf⟩ := ol_e hf
    refine g_nm ev2 ?_
    refine g_istore_n (lv2 := [(0, .ref (ad 3)), (1, .int v2)]) C dX5_readTune_25 rfl (by decide) [1, 0] rfl ?_
    refine g_aload_n C dX5_readTune_26 rfl 0 rfl ?_
    refine g_iconst (v := 0) C dX5_readTune_27 (by decide) ?_
    refine g_bipush (v := 99) C dX5_readTune_28 (by decide) ?_
    obtain ⟨r3, σ4, h5, hf⟩ := obp_e hf
    refine g_callVi (As := [.int 0, .int 99]) (rest := []) C (a_3 ad cy _) rfl (c_X5_nextNumber l dC dI ad cy ((0 : Int32)) ((99 : Int32))) h5 hM_X5_90 cal_X5_nextNumber ⟨Nat.zero_le _, Nat.zero_le _⟩ ⟨rfl, rfl⟩ ⟨Nat.le_of_ble_eq_true rfl, Nat.le_of_ble_eq_true rfl⟩ rfl rfl (Nat.le_of_ble_eq_true rfl) dX5_readTune_30 ?_
    rcases oi_e hf with ⟨c6, hf⟩ | ⟨c6, hf⟩
    · refine g_if_ne_t (tgt := 38) C dX5_readTune_33 (by decide) c6 ?_
      refine g_aload_n C dX5_readTune_38 rfl 0 rfl ?_
      refine g_get C (a_3 ad cy _) rfl hin_X5 1 (by decide) hF_X5_12 rfl rfl dX5_readTune_39 ?_
      refine g_get C (a_4 ad cy _) rfl hin_X9 3 (by decide) hF_X5_138 rfl rfl dX5_readTune_42 ?_
      refine g_iload_n C dX5_readTune_45 rfl 1 rfl ?_
      refine g_aload_n C dX5_readTune_46 rfl 0 rfl ?_
      refine g_get C (a_3 ad cy _) rfl hin_X5 0 (by decide) hF_X5_18 rfl rfl dX5_readTune_47 ?_
      refine g_get C (a_1 ad cy _) rfl hin_X8 5 (by decide) hF_X5_94 rfl rfl dX5_readTune_50 ?_
      obtain ⟨v7, ev7, hf⟩ := ol_e hf
      refine g_nm ev7 ?_
      obtain ⟨h8, hf⟩ := og_e hf
      obtain ⟨σ9, eσ9, hf⟩ := ol_e hf
      refine g_iast C (a_5 ad cy _) h8 (w_5 ad cy _) eσ9 dX5_readTune_53 ?_
      refine g_aload_n C dX5_readTune_54 rfl 0 rfl ?_
      refine g_get C (a_3 ad cy _) rfl hin_X5 1 (by decide) hF_X5_12 rfl rfl dX5_readTune_55 ?_
      refine g_dup C dX5_readTune_58 rfl ?_
      refine g_get C (a_4 ad cy _) rfl hin_X9 2 (by decide) hF_X5_135 rfl rfl dX5_readTune_59 ?_
      refine g_iconst (v := 1) C dX5_readTune_62 (by decide) ?_
      refine g_iadd C dX5_readTune_63 ?_
      obtain ⟨v10, ev10, hf⟩ := ol_e hf
      refine g_nm ev10 ?_
      obtain ⟨σ11, eσ11, hf⟩ := ol_e hf
      refine g_put (ty := .int) C (a_4 ad cy _) rfl hin_X9 tyX9 tyX9_ok nmX9 2 (by decide) hF_X5_135 rfl rfl (by decide +kernel) rfl rfl (Nat.le_of_ble_eq_true rfl) (p_4_2 ad cy _ _) eσ11 dX5_readTune_64 ?_
      refine g_aload_n C dX5_readTune_67 rfl 0 rfl ?_
      obtain ⟨r12, σ13, h14, hf⟩ := obp_e hf
      refine g_callVi (As := []) (rest := []) C (a_3 ad cy _) rfl (c_X5_advance l dC dI ad cy ) h14 hM_X5_44 cal_X5_advance ⟨Nat.zero_le _, Nat.zero_le _⟩ ⟨rfl, rfl⟩ ⟨Nat.le_of_ble_eq_true rfl, Nat.le_of_ble_eq_true rfl⟩ rfl rfl (Nat.le_of_ble_eq_true rfl) dX5_readTune_68 ?_
      rcases oi_e hf with ⟨c15, hf⟩ | ⟨c15, hf⟩
      · refine g_if_eq_t (tgt := 93) C dX5_readTune_71 (by decide) c15 ?_
        refine g_iconst (v := 0) C dX5_readTune_93 (by decide) ?_
        obtain ⟨rfl, rfl⟩ := os_e hf
        exact g_zret C rfl (by decide) dX5_readTune_94
      · refine g_if_eq_f (tgt := 93) C dX5_readTune_71 (by decide) c15 ?_
        refine g_aload_n C dX5_readTune_74 rfl 0 rfl ?_
        refine g_iload_n C dX5_readTune_75 rfl 1 rfl ?_
        obtain ⟨r16, σ17, h18, hf⟩ := obp_e hf
        refine g_callVi (As := [.int v2]) (rest := []) C (a_3 ad cy _) rfl (c_X5_readStrokes l dC dI ad cy v2) h18 hM_X5_141 cal_X5_readStrokes ⟨Nat.zero_le _, Nat.zero_le _⟩ ⟨rfl, rfl⟩ ⟨Nat.le_of_ble_eq_true rfl, Nat.le_of_ble_eq_true rfl⟩ rfl rfl (Nat.le_of_ble_eq_true rfl) dX5_readTune_76 ?_
        rcases oi_e hf with ⟨c19, hf⟩ | ⟨c19, hf⟩
        · refine g_if_eq_t (tgt := 93) C dX5_readTune_79 (by decide) c19 ?_
          refine g_iconst (v := 0) C dX5_readTune_93 (by decide) ?_
          obtain ⟨rfl, rfl⟩ := os_e hf
          exact g_zret C rfl (by decide) dX5_readTune_94
        · refine g_if_eq_f (tgt := 93) C dX5_readTune_79 (by decide) c19 ?_
          refine g_aload_n C dX5_readTune_82 rfl 0 rfl ?_
          obtain ⟨r20, σ21, h22, hf⟩ := obp_e hf
          refine g_callVi (As := []) (rest := []) C (a_3 ad cy _) rfl (c_X5_endLine l dC dI ad cy ) h22 hM_X5_99 cal_X5_endLine ⟨Nat.zero_le _, Nat.zero_le _⟩ ⟨rfl, rfl⟩ ⟨Nat.le_of_ble_eq_true rfl, Nat.le_of_ble_eq_true rfl⟩ rfl rfl (Nat.le_of_ble_eq_true rfl) dX5_readTune_83 ?_
          rcases oi_e hf with ⟨c23, hf⟩ | ⟨c23, hf⟩
          · refine g_if_eq_t (tgt := 93) C dX5_readTune_86 (by decide) c23 ?_
            refine g_iconst (v := 0) C dX5_readTune_93 (by decide) ?_
            obtain ⟨rfl, rfl⟩ := os_e hf
            exact g_zret C rfl (by decide) dX5_readTune_94
          · refine g_if_eq_f (tgt := 93) C dX5_readTune_86 (by decide) c23 ?_
            refine g_iconst (v := 1) C dX5_readTune_89 (by decide) ?_
            refine g_goto (tgt := 94) C dX5_readTune_90 (by decide) ?_
            obtain ⟨rfl, rfl⟩ := os_e hf
            exact g_zret C rfl (by decide) dX5_readTune_94
    · refine g_if_ne_f (tgt := 38) C dX5_readTune_33 (by decide) (Decidable.of_not_not c6) ?_
      refine g_iconst (v := 0) C dX5_readTune_36 (by decide) ?_
      obtain ⟨rfl, rfl⟩ := os_e hf
      exact g_zret C rfl (by decide) dX5_readTune_37
  · refine g_icmp_lt_f (tgt := 18) C dX5_readTune_9 (by decide) c1 ?_
    refine g_aload_n C dX5_readTune_12 rfl 0 rfl ?_
    refine g_iconst (v := 5) C dX5_readTune_13 (by decide) ?_
    obtain ⟨r24, σ25, h26, hf⟩ := obp_e hf
    refine g_callVi (As := [.int 5]) (rest := []) C (a_3 ad cy _) rfl (c_X5_refuse l dC dI ad cy ((5 : Int32))) h26 hM_X5_57 cal_X5_refuse ⟨Nat.zero_le _, Nat.zero_le _⟩ ⟨rfl, rfl⟩ ⟨Nat.le_of_ble_eq_true rfl, Nat.le_of_ble_eq_true rfl⟩ rfl rfl (Nat.le_of_ble_eq_true rfl) dX5_readTune_14 ?_
    obtain ⟨h27, hf⟩ := og_e hf
    obtain ⟨rfl, rfl⟩ := os_e hf
    exact g_zret C rfl (zb_ok h27) dX5_readTune_17
theorem c_X5_readTune (l : Launch) (dC : Nat → ClassId) (dI : Nat → Nat → Nat) (ad : Nat → Nat) (cy : Nat → ClassId)  : ConI l yX5_readTune cX5_readTune 2 (some .boolean) rm_X5_readTune dC dI ad cy [.ref (ad 3)] (fun σ => fX5_readTune σ) := con_i (own := RX5) (by decide) rfl (Nat.le_of_ble_eq_true rfl) (fun _ _ _ _ _ _ _ _ σ _ _ C hf => fX5_readTune_ok C σ  hf)
theorem cal_X5_readTune : CalV yX5_readTune RX5 cX5_readTune 2 (some .boolean) 0 := ⟨hI_X5_readTune, hS_X5_readTune, hIni_X5, hC_X5_readTune, by decide +kernel⟩
end
