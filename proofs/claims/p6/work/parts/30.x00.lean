abbrev rm_X1_empty : Room := { frames := 1, cells := 0, slots := 0, locals := 23 }
def fX1_empty (σ : S0) (k : Nat) : Option (Int32 × S0) := ol (su σ k 0 0) (fun σ1 => ol (su σ1 k 7 0) (fun σ2 => obp (fJ7_fill_53178 σ2 6 (k + 6) ((0 : Int32))) (fun r3 σ4 => some (0, σ4))))
set_option maxHeartbeats 1000000 in
set_option maxRecDepth 100000 in
theorem fX1_empty_ok {p : Program} {l : Launch} {e : Env} {s : State} {m : MethodId} {args : Array Value} {below : List Frame} {meth : Method} {c : Code} {dC : Nat → ClassId} {dI : Nat → Nat → Nat} {ad : Nat → Nat} {cy : Nat → ClassId} {sz : Nat} (C : Cx p s m args meth c RX1 cX1_empty 1 none dC dI ad cy sz) {rr : Int32} {ρ : S0} (σ : S0) (k : Nat) (hk : isChimes k) (hf : fX1_empty σ k = some (rr, ρ)) : Gw p l e rm_X1_empty s m args below meth c (MQ below (QcV dC dI ad cy sz ρ) args s 0 0 (AW ad sz)) dC dI ad cy 1 sz 0 0 0 [(0, .ref (ad k))] [] σ := by
  unfold fX1_empty at hf
  refine g_aload_n C dX1_empty_0 rfl 0 rfl ?_
  refine g_iconst (v := 0) C dX1_empty_1 (by decide) ?_
  obtain ⟨σ1, eσ1, hf⟩ := ol_e hf
  refine g_put (ty := .int) C (s_isChimes hk ad cy _) rfl hin_X1 tyX1 tyX1_ok nmX1 0 (by decide) hF_X1_33 rfl rfl (by decide +kernel) rfl rfl (Nat.le_of_ble_eq_true rfl) (ps_isChimes_0 hk ad cy _ _) eσ1 dX1_empty_2 ?_
  refine g_aload_n C dX1_empty_5 rfl 0 rfl ?_
  refine g_iconst (v := 0) C dX1_empty_6 (by decide) ?_
  obtain ⟨σ2, eσ2, hf⟩ := ol_e hf
  refine g_put (ty := .int) C (s_isChimes hk ad cy _) rfl hin_X1 tyX1 tyX1_ok nmX1 7 (by decide) hF_X1_37 rfl rfl (by decide +kernel) rfl rfl (Nat.le_of_ble_eq_true rfl) (ps_isChimes_7 hk ad cy _ _) eσ2 dX1_empty_7 ?_
  refine g_aload_n C dX1_empty_10 rfl 0 rfl ?_
  refine g_get C (s_isChimes hk ad cy _) rfl hin_X1 6 (by decide) hF_X1_27 rfl rfl dX1_empty_11 ?_
  refine g_iconst (v := 0) C dX1_empty_14 (by decide) ?_
  obtain ⟨r3, σ4, h5, hf⟩ := obp_e hf
  refine g_callSv (As := [.ref (ad (k + 6)), .int 0]) (rest := []) C (c_J7_fill_53178 l dC dI ad cy 6 (k + 6) hk.r6 ((0 : Int32))) h5 hM_X1_40 cal_J7_fill_53178 ⟨Nat.zero_le _, Nat.zero_le _⟩ ⟨rfl, rfl⟩ ⟨Nat.le_of_ble_eq_true rfl, Nat.le_of_ble_eq_true rfl⟩ rfl rfl (Nat.le_of_ble_eq_true rfl) dX1_empty_15 ?_
  obtain ⟨rfl, rfl⟩ := os_e hf
  exact g_vret C rfl dX1_empty_18
theorem c_X1_empty (l : Launch) (dC : Nat → ClassId) (dI : Nat → Nat → Nat) (ad : Nat → Nat) (cy : Nat → ClassId) (k : Nat) (hk : isChimes k) : ConV l yX1_empty cX1_empty 1 none rm_X1_empty dC dI ad cy [.ref (ad k)] (fun σ => fX1_empty σ k) := con_v (own := RX1) (by decide) rfl (Nat.le_of_ble_eq_true rfl) (fun _ _ _ _ _ _ _ _ σ _ _ C hf => fX1_empty_ok C σ k hk hf)
theorem cal_X1_empty : CalV yX1_empty RX1 cX1_empty 1 none 0 := ⟨hI_X1_empty, hS_X1_empty, hIni_X1, hC_X1_empty, by decide +kernel⟩
abbrev rm_X1_copyFrom : Room := { frames := 1, cells := 0, slots := 0, locals := 18 }
def fX1_copyFrom (σ : S0) (k : Nat) (k1 : Nat) : Option (Int32 × S0) := ol (σ k1 0) (fun v1 => ol (su σ k 0 v1) (fun σ2 => ol (va_up σ2 (k + 1) (va_cpy (σ2 (k1 + 1)) (σ2 (k + 1)) 0 0 (12 : Int32).toNatClampNeg)) (fun σ3 => ol (va_up σ3 (k + 2) (va_cpy (σ3 (k1 + 2)) (σ3 (k + 2)) 0 0 (12 : Int32).toNatClampNeg)) (fun σ4 => ol (va_up σ4 (k + 3) (va_cpy (σ4 (k1 + 3)) (σ4 (k + 3)) 0 0 (12 : Int32).toNatClampNeg)) (fun σ5 => ol (va_up σ5 (k + 4) (va_cpy (σ5 (k1 + 4)) (σ5 (k + 4)) 0 0 (12 : Int32).toNatClampNeg)) (fun σ6 => ol (va_up σ6 (k + 5) (va_cpy (σ6 (k1 + 5)) (σ6 (k + 5)) 0 0 (12 : Int32).toNatClampNeg)) (fun σ7 => ol (va_up σ7 (k + 6) (va_cpy (σ7 (k1 + 6)) (σ7 (k + 6)) 0 0 (6 : Int32).toNatClampNeg)) (fun σ8 => ol (σ8 k1 7) (fun v9 => ol (su σ8 k 7 v9) (fun σ10 => ol (va_up σ10 (k + 7) (va_cpy (σ10 (k1 + 7)) (σ10 (k + 7)) 0 0 (12 : Int32).toNatClampNeg)) (fun σ11 => some (0, σ11))))))))))))
set_option maxHeartbeats 1000000 in
set_option maxRecDepth 100000 in
theorem fX1_copyFrom_ok {p : Program} {l : Launch} {e : Env} {s : State} {m : MethodId} {args : Array Value} {below : List Frame} {meth : Method} {c : Code} {dC : Nat → ClassId} {dI : Nat → Nat → Nat} {ad : Nat → Nat} {cy : Nat → ClassId} {sz : Nat} (C : Cx p s m args meth c RX1 cX1_copyFrom 2 none dC dI ad cy sz) {rr : Int32} {ρ : S0} (σ : S0) (k : Nat) (k1 : Nat) (hk : isChimes k) (hk1 : isChimes k1) (hf : fX1_copyFrom σ k k1 = some (rr, ρ)) : Gw p l e rm_X1_copyFrom s m args below meth c (MQ below (QcV dC dI ad cy sz ρ) args s 0 0 (AW ad sz)) dC dI ad cy 2 sz 0 0 0 [(0, .ref (ad k)), (1, .ref (ad k1))] [] σ := by
  unfold fX1_copyFrom at hf
  refine g_aload_n C dX1_copyFrom_0 rfl 0 rfl ?_
  refine g_aload_n C dX1_copyFrom_1 rfl 1 rfl ?_
  refine g_get C (s_isChimes hk1 ad cy _) rfl hin_X1 0 (by decide) hF_X1_33 rfl rfl dX1_copyFrom_2 ?_
  obtain ⟨v1, ev1, hf⟩ := ol_e hf
  refine g_nm ev1 ?_
  obtain ⟨σ2, eσ2, hf⟩ := ol_e hf
  refine g_put (ty := .int) C (s_isChimes hk ad cy _) rfl hin_X1 tyX1 tyX1_ok nmX1 0 (by decide) hF_X1_33 rfl rfl (by decide +kernel) rfl rfl (Nat.le_of_ble_eq_true rfl) (ps_isChimes_0 hk ad cy _ _) eσ2 dX1_copyFrom_5 ?_
  refine g_aload_n C dX1_copyFrom_8 rfl 1 rfl ?_
  refine g_get C (s_isChimes hk1 ad cy _) rfl hin_X1 1 (by decide) hF_X1_9 rfl rfl dX1_copyFrom_9 ?_
  refine g_iconst (v := 0) C dX1_copyFrom_12 (by decide) ?_
  refine g_aload_n C dX1_copyFrom_13 rfl 0 rfl ?_
  refine g_get C (s_isChimes hk ad cy _) rfl hin_X1 1 (by decide) hF_X1_9 rfl rfl dX1_copyFrom_14 ?_
  refine g_iconst (v := 0) C dX1_copyFrom_17 (by decide) ?_
  refine g_bipush (v := 12) C dX1_copyFrom_18 (by decide) ?_
  obtain ⟨σ3, eσ3, hf⟩ := ol_e hf
  refine g_copy C hM_X1_46 (s_row hk1.r1 ad cy _) (s_row hk.r1 ad cy _) (by decide) (by decide) (by decide) ⟨Nat.le_of_ble_eq_true rfl, Nat.le_of_ble_eq_true rfl⟩ (fun f => ws_row hk.r1 ad cy f) eσ3 dX1_copyFrom_20 ?_
  refine g_aload_n C dX1_copyFrom_23 rfl 1 rfl ?_
  refine g_get C (s_isChimes hk1 ad cy _) rfl hin_X1 2 (by decide) hF_X1_15 rfl rfl dX1_copyFrom_24 ?_
  refine g_iconst (v := 0) C dX1_copyFrom_27 (by decide) ?_
  refine g_aload_n C dX1_copyFrom_28 rfl 0 rfl ?_
  refine g_get C (s_isChimes hk ad cy _) rfl hin_X1 2 (by decide) hF_X1_15 rfl rfl dX1_copyFrom_29 ?_
  refine g_iconst (v := 0) C dX1_copyFrom_32 (by decide) ?_
  refine g_bipush (v := 12) C dX1_copyFrom_33 (by decide) ?_
  obtain ⟨σ4, eσ4, hf⟩ := ol_e hf
  refine g_copy C hM_X1_46 (s_row hk1.r2 ad cy _) (s_row hk.r2 ad cy _) (by decide) (by decide) (by decide) ⟨Nat.le_of_ble_eq_true rfl, Nat.le_of_ble_eq_true rfl⟩ (fun f => ws_row hk.r2 ad cy f) eσ4 dX1_copyFrom_35 ?_
  refine g_aload_n C dX1_copyFrom_38 rfl 1 rfl ?_
  refine g_get C (s_isChimes hk1 ad cy _) rfl hin_X1 3 (by decide) hF_X1_18 rfl rfl dX1_copyFrom_39 ?_
  refine g_iconst (v := 0) C dX1_copyFrom_42 (by decide) ?_
  refine g_aload_n C dX1_copyFrom_43 rfl 0 rfl ?_
  refine g_get C (s_isChimes hk ad cy _) rfl hin_X1 3 (by decide) hF_X1_18 rfl rfl dX1_copyFrom_44 ?_
  refine g_iconst (v := 0) C dX1_copyFrom_47 (by decide) ?_
  refine g_bipush (v := 12) C dX1_copyFrom_48 (by decide) ?_
  obtain ⟨σ5, eσ5, hf⟩ := ol_e hf
  refine g_copy C hM_X1_46 (s_row hk1.r3 ad cy _) (s_row hk.r3 ad cy _) (by decide) (by decide) (by decide) ⟨Nat.le_of_ble_eq_true rfl, Nat.le_of_ble_eq_true rfl⟩ (fun f => ws_row hk.r3 ad cy f) eσ5 dX1_copyFrom_50 ?_
  refine g_aload_n C dX1_copyFrom_53 rfl 1 rfl ?_
  refine g_get C (s_isChimes hk1 ad cy _) rfl hin_X1 4 (by decide) hF_X1_21 rfl rfl dX1_copyFrom_54 ?_
  refine g_iconst (v := 0) C dX1_copyFrom_57 (by decide) ?_
  refine g_aload_n C dX1_copyFrom_58 rfl 0 rfl ?_
  refine g_get C (s_isChimes hk ad cy _) rfl hin_X1 4 (by decide) hF_X1_21 rfl rfl dX1_copyFrom_59 ?_
  refine g_iconst (v := 0) C dX1_copyFrom_62 (by decide) ?_
  refine g_bipush (v := 12) C dX1_copyFrom_63 (by decide) ?_
  obtain ⟨σ6, eσ6, hf⟩ := ol_e hf
  refine g_copy C hM_X1_46 (s_row hk1.r4 ad cy _) (s_row hk.r4 ad cy _) (by decide) (by decide) (by decide) ⟨Nat.le_of_ble_eq_true rfl, Nat.le_of_ble_eq_true rfl⟩ (fun f => ws_row hk.r4 ad cy f) eσ6 dX1_copyFrom_65 ?_
  refine g_aload_n C dX1_copyFrom_68 rfl 1 rfl ?_
  refine g_get C (s_isChimes hk1 ad cy _) rfl hin_X1 5 (by decide) hF_X1_24 rfl rfl dX1_copyFrom_69 ?_
  refine g_iconst (v := 0) C dX1_copyFrom_72 (by decide) ?_
  refine g_aload_n C dX1_copyFrom_73 rfl 0 rfl ?_
  refine g_get C (s_isChimes hk ad cy _) rfl hin_X1 5 (by decide) hF_X1_24 rfl rfl dX1_copyFrom_74 ?_
  refine g_iconst (v := 0) C dX1_copyFrom_77 (by decide) ?_
  refine g_bipush (v := 12) C dX1_copyFrom_78 (by decide) ?_
  obtain ⟨σ7, eσ7, hf⟩ := ol_e hf
  refine g_copy C hM_X1_46 (s_row hk1.r5 ad cy _) (s_row hk.r5 ad cy _) (by decide) (by decide) (by decide) ⟨Nat.le_of_ble_eq_true rfl, Nat.le_of_ble_eq_true rfl⟩ (fun f => ws_row hk.r5 ad cy f) eσ7 dX1_copyFrom_80 ?_
  refine g_aload_n C dX1_copyFrom_83 rfl 1 rfl ?_
  refine g_get C (s_isChimes hk1 ad cy _) rfl hin_X1 6 (by decide) hF_X1_27 rfl rfl dX1_copyFrom_84 ?_
  refine g_iconst (v := 0) C dX1_copyFrom_87 (by decide) ?_
  refine g_aload_n C dX1_copyFrom_88 rfl 0 rfl ?_
  refine g_get C (s_isChimes hk ad cy _) rfl hin_X1 6 (by decide) hF_X1_27 rfl rfl dX1_copyFrom_89 ?_
  refine g_iconst (v := 0) C dX1_copyFrom_92 (by decide) ?_
  refine g_bipush (v := 6) C dX1_copyFrom_93 (by decide) ?_
  obtain ⟨σ8, eσ8, hf⟩ := ol_e hf
  refine g_copy C hM_X1_46 (s_row hk1.r6 ad cy _) (s_row hk.r6 ad cy _) (by decide) (by decide) (by decide) ⟨Nat.le_of_ble_eq_true rfl, Nat.le_of_ble_eq_true rfl⟩ (fun f => ws_row hk.r6 ad cy f) eσ8 dX1_copyFrom_95 ?_
  refine g_aload_n C dX1_copyFrom_98 rfl 0 rfl ?_
  refine g_aload_n C dX1_copyFrom_99 rfl 1 rfl ?_
  refine g_get C (s_isChimes hk1 ad cy _) rfl hin_X1 7 (by decide) hF_X1_37 rfl rfl dX1_copyFrom_100 ?_
  obtain ⟨v9, ev9, hf⟩ := ol_e hf
  refine g_nm ev9 ?_
  obtain ⟨σ10, eσ10, hf⟩ := ol_e hf
  refine g_put (ty := .int) C (s_isChimes hk ad cy _) rfl hin_X1 tyX1 tyX1_ok nmX1 7 (by decide) hF_X1_37 rfl rfl (by decide +kernel) rfl rfl (Nat.le_of_ble_eq_true rfl) (ps_isChimes_7 hk ad cy _ _) eσ10 dX1_copyFrom_103 ?_
  refine g_aload_n C dX1_copyFrom_106 rfl 1 rfl ?_
  refine g_get C (s_isChimes hk1 ad cy _) rfl hin_X1 8 (by decide) hF_X1_30 rfl rfl dX1_copyFrom_107 ?_
  refine g_iconst (v := 0) C dX1_copyFrom_110 (by decide) ?_
  refine g_aload_n C dX1_copyFrom_111 rfl 0 rfl ?_
  refine g_get C (s_isChimes hk ad cy _) rfl hin_X1 8 (by decide) hF_X1_30 rfl rfl dX1_copyFrom_112 ?_
  refine g_iconst (v := 0) C dX1_copyFrom_115 (by decide) ?_
  refine g_bipush (v := 12) C dX1_copyFrom_116 (by decide) ?_
  obtain ⟨σ11, eσ11, hf⟩ := ol_e hf
  refine g_copy C hM_X1_46 (s_row hk1.r7 ad cy _) (s_row hk.r7 ad cy _) (by decide) (by decide) (by decide) ⟨Nat.le_of_ble_eq_true rfl, Nat.le_of_ble_eq_true rfl⟩ (fun f => ws_row hk.r7 ad cy f) eσ11 dX1_copyFrom_118 ?_
  obtain ⟨rfl, rfl⟩ := os_e hf
  exact g_vret C rfl dX1_copyFrom_121
theorem c_X1_copyFrom (l : Launch) (dC : Nat → ClassId) (dI : Nat → Nat → Nat) (ad : Nat → Nat) (cy : Nat → ClassId) (k : Nat) (hk : isChimes k) (k1 : Nat) (hk1 : isChimes k1) : ConV l yX1_copyFrom cX1_copyFrom 2 none rm_X1_copyFrom dC dI ad cy [.ref (ad k), .ref (ad k1)] (fun σ => fX1_copyFrom σ k k1) := con_v (own := RX1) (by decide) rfl (Nat.le_of_ble_eq_true rfl) (fun _ _ _ _ _ _ _ _ σ _ _ C hf => fX1_copyFrom_ok C σ k k1 hk hk1 hf)
theorem cal_X1_copyFrom : CalV yX1_copyFrom RX1 cX1_copyFrom 2 none 1 := ⟨hI_X1_copyFrom, hS_X1_copyFrom, hIni_X1, hC_X1_copyFrom, by decide +kernel⟩
abbrev rm_X1_hasBell : Room := { frames := 0, cells := 0, slots := 0, locals := 0 }
def fX1_hasBell (σ : S0) (k : Nat) (x1 : Int32) : Option (Int32 × S0) := if x1 < 0 then (some (0, σ)) else (if (σ k 0) ≤ x1 then (some (0, σ)) else (some (1, σ)))
set_option maxHeartbeats 1000000 in
set_option maxRecDepth 100000 in
theorem fX1_hasBell_ok {p : Program} {l : Launch} {e : Env} {s : State} {m : MethodId} {args : Array Value} {below : List Frame} {meth : Method} {c : Code} {dC : Nat → ClassId} {dI : Nat → Nat → Nat} {ad : Nat → Nat} {cy : Nat → ClassId} {sz : Nat} (C : Cx p s m args meth c RX1 cX1_hasBell 2 (some .boolean) dC dI ad cy sz) {rr : Int32} {ρ : S0} (σ : S0) (k : Nat) (x1 : Int32) (hk : isChimes k) (hf : fX1_hasBell σ k x1 = some (rr, ρ)) : Gw p l e rm_X1_hasBell s m args below meth c (MQ below (QcI dC dI ad cy sz rr ρ) args s 0 0 (AW ad sz)) dC dI ad cy 2 sz 0 0 0 [(0, .ref (ad k)), (1, .int x1)] [] σ := by
  unfold fX1_hasBell at hf
  refine g_iload_n C dX1_hasBell_0 rfl 1 rfl ?_
  rcases oi_e hf with ⟨c1, hf⟩ | ⟨c1, hf⟩
  · refine g_if_lt_t (tgt := 16) C dX1_hasBell_1 (by decide) c1 ?_
    refine g_iconst (v := 0) C dX1_hasBell_16 (by decide) ?_
    obtain ⟨rfl, rfl⟩ := os_e hf
    exact g_zret C rfl (by decide) dX1_hasBell_17
  · refine g_if_lt_f (tgt := 16) C dX1_hasBell_1 (by decide) c1 ?_
    refine g_iload_n C dX1_hasBell_4 rfl 1 rfl ?_
    refine g_aload_n C dX1_hasBell_5 rfl 0 rfl ?_
    refine g_get C (s_isChimes hk ad cy _) rfl hin_X1 0 (by decide) hF_X1_33 rfl rfl dX1_hasBell_6 ?_
    rcases oi_e hf with ⟨c2, hf⟩ | ⟨c2, hf⟩
    · refine g_icmp_ge_t (tgt := 16) C dX1_hasBell_9 (by decide) c2 ?_
      refine g_iconst (v := 0) C dX1_hasBell_16 (by decide) ?_
      obtain ⟨rfl, rfl⟩ := os_e hf
      exact g_zret C rfl (by decide) dX1_hasBell_17
    · refine g_icmp_ge_f (tgt := 16) C dX1_hasBell_9 (by decide) c2 ?_
      refine g_iconst (v := 1) C dX1_hasBell_12 (by decide) ?_
      refine g_goto (tgt := 17) C dX1_hasBell_13 (by decide) ?_
      obtain ⟨rfl, rfl⟩ := os_e hf
      exact g_zret C rfl (by decide) dX1_hasBell_17
theorem c_X1_hasBell (l : Launch) (dC : Nat → ClassId) (dI : Nat → Nat → Nat) (ad : Nat → Nat) (cy : Nat → ClassId) (k : Nat) (hk : isChimes k) (x1 : Int32) : ConI l yX1_hasBell cX1_hasBell 2 (some .boolean) rm_X1_hasBell dC dI ad cy [.ref (ad k), .int x1] (fun σ => fX1_hasBell σ k x1) := con_i (own := RX1) (by decide) rfl (Nat.le_of_ble_eq_true rfl) (fun _ _ _ _ _ _ _ _ σ _ _ C hf => fX1_hasBell_ok C σ k x1 hk hf)
theorem cal_X1_hasBell : CalV yX1_hasBell RX1 cX1_hasBell 2 (some .boolean) 1 := ⟨hI_X1_hasBell, hS_X1_hasBell, hIni_X1, hC_X1_hasBell, by decide +kernel⟩
abbrev rm_X1_areFoes : Room := { frames := 0, cells := 0, slots := 0, locals := 0 }
def fX1_areFoes (σ : S0) (k : Nat) (x1 : Int32) (x2 : Int32) : Option (Int32 × S0) := og (¬ (x1 < 0 ∨ 6 ≤ x1.toNatClampNeg)) (ol (σ (k + 6) x1.toNatClampNeg) (fun v2 => if (v2 &&& ((1 : Int32) <<< (x2 &&& 31))) = 0 then (some (0, σ)) else (some (1, σ))))
set_option maxHeartbeats 1000000 in
set_option maxRecDepth 100000 in
theorem fX1_areFoes_ok {p : Program} {l : Launch} {e : Env} {s : State} {m : MethodId} {args : Array Value} {below : List Frame} {meth : Method} {c : Code} {dC : Nat → ClassId} {dI : Nat → Nat → Nat} {ad : Nat → Nat} {cy : Nat → ClassId} {sz : Nat} (C : Cx p s m args meth c RX1 cX1_areFoes 3 (some .boolean) dC dI ad cy sz) {rr : Int32} {ρ : S0} (σ : S0) (k : Nat) (x1 : Int32) (x2 : Int32) (hk : isChimes k) (hf : fX1_areFoes σ k x1 x2 = some (rr, ρ)) : Gw p l e rm_X1_areFoes s m args below meth c (MQ below (QcI dC dI ad cy sz rr ρ) args s 0 0 (AW ad sz)) dC dI ad cy 3 sz 0 0 0 [(0, .ref (ad k)), (1, .int x1), (2, .int x2)] [] σ := by
  unfold fX1_areFoes at hf
  refine g_aload_n C dX1_areFoes_0 rfl 0 rfl ?_
  refine g_get C (s_isChimes hk ad cy _) rfl hin_X1 6 (by decide) hF_X1_27 rfl rfl dX1_areFoes_1 ?_
  refine g_iload_n C dX1_areFoes_4 rfl 1 rfl ?_
  obtain ⟨h1, hf⟩ := og_e hf
  refine g_iald C (s_row hk.r6 ad cy _) h1 dX1_areFoes_5 ?_
  obtain ⟨v2, ev2, hf⟩ := ol_e hf
  refine g_nm ev2 ?_
  refine g_iconst (v := 1) C dX1_areFoes_6 (by decide) ?_
  refine g_iload_n C dX1_areFoes_7 rfl 2 rfl ?_
  refine g_ishl C dX1_areFoes_8 ?_
  refine g_iand C dX1_areFoes_9 ?_
  rcases oi_e hf with ⟨c3, hf⟩ | ⟨c3, hf⟩
  · refine g_if_eq_t (tgt := 17) C dX1_areFoes_10 (by decide) c3 ?_
    refine g_iconst (v := 0) C dX1_areFoes_17 (by decide) ?_
    obtain ⟨rfl, rfl⟩ := os_e hf
    exact g_zret C rfl (by decide) dX1_areFoes_18
  · refine g_if_eq_f (tgt := 17) C dX1_areFoes_10 (by decide) c3 ?_
    refine g_iconst (v := 1) C dX1_areFoes_13 (by decide) ?_
    refine g_goto (tgt := 18) C dX1_areFoes_14 (by decide) ?_
    obtain ⟨rfl, rfl⟩ := os_e hf
    exact g_zret C rfl (by decide) dX1_areFoes_18
theorem c_X1_areFoes (l : Launch) (dC : Nat → ClassId) (dI : Nat → Nat → Nat) (ad : Nat → Nat) (cy : Nat → ClassId) (k : Nat) (hk : isChimes k) (x1 : Int32) (x2 : Int32) : ConI l yX1_areFoes cX1_areFoes 3 (some .boolean) rm_X1_areFoes dC dI ad cy [.ref (ad k), .int x1, .int x2] (fun σ => fX1_areFoes σ k x1 x2) := con_i (own := RX1) (by decide) rfl (Nat.le_of_ble_eq_true rfl) (fun _ _ _ _ _ _ _ _ σ _ _ C hf => fX1_areFoes_ok C σ k x1 x2 hk hf)
theorem cal_X1_areFoes : CalV yX1_areFoes RX1 cX1_areFoes 3 (some .boolean) 2 := ⟨hI_X1_areFoes, hS_X1_areFoes, hIni_X1, hC_X1_areFoes, by decide +kernel⟩
abbrev rm_X1_setFoes : Room := { frames := 0, cells := 0, slots := 0, locals := 0 }
def fX1_setFoes_b69  (σ : S0) (t0 : Int32) (t1 : Int32) (t2 : Nat) : Option (Int32 × S0) := og (¬ (t1 < 0 ∨ 6 ≤ t1.toNatClampNeg)) (ol (su σ t2 t1.toNatClampNeg t0) (fun σ2 => some (0, σ2)))
set_option maxHeartbeats 1000000 in
set_option maxRecDepth 100000 in
theorem fX1_setFoes_b69_ok {p : Program} {l : Launch} {e : Env} {s : State} {m : MethodId} {args : Array Value} {below : List Frame} {meth : Method} {c : Code} {dC : Nat → ClassId} {dI : Nat → Nat → Nat} {ad : Nat → Nat} {cy : Nat → ClassId} {sz : Nat} (C : Cx p s m args meth c RX1 cX1_setFoes 4 none dC dI ad cy sz) {rr : Int32} {ρ : S0}  (σ : S0) (t0 : Int32) (t1 : Int32) (t2 : Nat) (ht2 : isRow 6 t2) (hf : fX1_setFoes_b69 σ t0 t1 t2 = some (rr, ρ)) : Gw p l e rm_X1_setFoes s m args below meth c (MQ below (QcV dC dI ad cy sz ρ) args s 0 0 (AW ad sz)) dC dI ad cy 4 sz 0 0 69 [] [.int t0, .int t1, .ref (ad t2)] σ := by
  unfold fX1_setFoes_b69 at hf
  obtain ⟨h1, hf⟩ := og_e hf
  obtain ⟨σ2, eσ2, hf⟩ := ol_e hf
  refine g_iast C (s_row ht2 ad cy _) h1 (ws_row ht2 ad cy _) eσ2 dX1_setFoes_69 ?_
  obtain ⟨rfl, rfl⟩ := os_e hf
  exact g_vret C rfl dX1_setFoes_70
def fX1_setFoes_b34  (σ : S0) (k : Nat) (x1 : Int32) (x2 : Int32) (x3 : Int32) (t0 : Int32) (t1 : Int32) (t2 : Nat) : Option (Int32 × S0) := og (¬ (t1 < 0 ∨ 6 ≤ t1.toNatClampNeg)) (ol (su σ t2 t1.toNatClampNeg t0) (fun σ2 => if x3 = 0 then (og (¬ (x2 < 0 ∨ 6 ≤ x2.toNatClampNeg)) (ol (σ2 (k + 6) x2.toNatClampNeg) (fun v5 => fX1_setFoes_b69 σ2 (v5 &&& (((1 : Int32) <<< (x1 &&& 31)) ^^^ ((-1)))) x2 (k + 6)))) else (og (¬ (x2 < 0 ∨ 6 ≤ x2.toNatClampNeg)) (ol (σ2 (k + 6) x2.toNatClampNeg) (fun v7 => fX1_setFoes_b69 σ2 (v7 ||| ((1 : Int32) <<< (x1 &&& 31))) x2 (k + 6))))))
set_option maxHeartbeats 1000000 in
set_option maxRecDepth 100000 in
theorem fX1_setFoes_b34_ok {p : Program} {l : Launch} {e : Env} {s : State} {m : MethodId} {args : Array Value} {below : List Frame} {meth : Method} {c : Code} {dC : Nat → ClassId} {dI : Nat → Nat → Nat} {ad : Nat → Nat} {cy : Nat → ClassId} {sz : Nat} (C : Cx p s m args meth c RX1 cX1_setFoes 4 none dC dI ad cy sz) {rr : Int32} {ρ : S0}  (σ : S0) (k : Nat) (x1 : Int32) (x2 : Int32) (x3 : Int32) (t0 : Int32) (t1 : Int32) (t2 : Nat) (hk : isChimes k) (ht2 : isRow 6 t2) (hf : fX1_setFoes_b34 σ k x1 x2 x3 t0 t1 t2 = some (rr, ρ)) : Gw p l e rm_X1_setFoes s m args below meth c (MQ below (QcV dC dI ad cy sz ρ) args s 0 0 (AW ad sz)) dC dI ad cy 4 sz 0 0 34 [(0, .ref (ad k)), (1, .int x1), (2, .int x2), (3, .int x3)] [.int t0, .int t1, .ref (ad t2)] σ := by
  unfold fX1_setFoes_b34 at hf
  obtain ⟨h1, hf⟩ := og_e hf
  obtain ⟨σ2, eσ2, hf⟩ := ol_e hf
  refine g_iast C (s_row ht2 ad cy _) h1 (ws_row ht2 ad cy _) eσ2 dX1_setFoes_34 ?_
  refine g_aload_n C dX1_setFoes_35 rfl 0 rfl ?_
  refine g_get C (s_isChimes hk ad cy _) rfl hin_X1 6 (by decide) hF_X1_27 rfl rfl dX1_setFoes_36 ?_
  refine g_iload_n C dX1_setFoes_39 rfl 2 rfl ?_
  refine g_iload_n C dX1_setFoes_40 rfl 3 rfl ?_
  rcases oi_e hf with ⟨c3, hf⟩ | ⟨c3, hf⟩
  · refine g_if_eq_t (tgt := 57) C dX1_setFoes_41 (by decide) c3 ?_
    refine g_aload_n C dX1_setFoes_57 rfl 0 rfl ?_
    refine g_get C (s_isChimes hk ad cy _) rfl hin_X1 6 (by decide) hF_X1_27 rfl rfl dX1_setFoes_58 ?_
    refine g_iload_n C dX1_setFoes_61 rfl 2 rfl ?_
    obtain ⟨h4, hf⟩ := og_e hf
    refine g_iald C (s_row hk.r6 ad cy _) h4 dX1_setFoes_62 ?_
    obtain ⟨v5, ev5, hf⟩ := ol_e hf
    refine g_nm ev5 ?_
    refine g_iconst (v := 1) C dX1_setFoes_63 (by decide) ?_
    refine g_iload_n C dX1_setFoes_64 rfl 1 rfl ?_
    refine g_ishl C dX1_setFoes_65 ?_
    refine g_iconst (v := (-1)) C dX1_setFoes_66 (by decide) ?_
    refine g_ixor C dX1_setFoes_67 ?_
    refine g_iand C dX1_setFoes_68 ?_
    exact g_sub [] rfl (fX1_setFoes_b69_ok C σ2 (v5 &&& (((1 : Int32) <<< (x1 &&& 31)) ^^^ ((-1)))) x2 (k + 6) hk.r6 hf)
  · refine g_if_eq_f (tgt := 57) C dX1_setFoes_41 (by decide) c3 ?_
    refine g_aload_n C dX1_setFoes_44 rfl 0 rfl ?_
    refine g_get C (s_isChimes hk ad cy _) rfl hin_X1 6 (by decide) hF_X1_27 rfl rfl dX1_setFoes_45 ?_
    refine g_iload_n C dX1_setFoes_48 rfl 2 rfl ?_
    obtain ⟨h6, hf⟩ := og_e hf
    refine g_iald C (s_row hk.r6 ad cy _) h6 dX1_setFoes_49 ?_
    obtain ⟨v7, ev7, hf⟩ := ol_e hf
    refine g_nm ev7 ?_
    refine g_iconst (v := 1) C dX1_setFoes_50 (by decide) ?_
    refine g_iload_n C dX1_setFoes_51 rfl 1 rfl ?_
    refine g_ishl C dX1_setFoes_52 ?_
    refine g_ior C dX1_setFoes_53 ?_
    refine g_goto (tgt := 69) C dX1_setFoes_54 (by decide) ?_
    exact g_sub [] rfl (fX1_setFoes_b69_ok C σ2 (v7 ||| ((1 : Int32) <<< (x1 &&& 31))) x2 (k + 6) hk.r6 hf)
def fX1_setFoes (σ : S0) (k : Nat) (x1 : Int32) (x2 : Int32) (x3 : Int32) : Option (Int32 × S0) := if x3 = 0 then (og (¬ (x1 < 0 ∨ 6 ≤ x1.toNatClampNeg)) (ol (σ (k + 6) x1.toNatClampNeg) (fun v3 => fX1_setFoes_b34 σ k x1 x2 x3 (v3 &&& (((1 : Int32) <<< (x2 &&& 31)) ^^^ ((-1)))) x1 (k + 6)))) else (og (¬ (x1 < 0 ∨ 6 ≤ x1.toNatClampNeg)) (ol (σ (k + 6) x1.toNatClampNeg) (fun v5 => fX1_setFoes_b34 σ k x1 x2 x3 (v5 ||| ((1 : Int32) <<< (x2 &&& 31))) x1 (k + 6))))
set_option maxHeartbeats 1000000 in
set_option maxRecDepth 100000 in
theorem fX1_setFoes_ok {p : Program} {l : Launch} {e : Env} {s : State} {m : MethodId} {args : Array Value} {below : List Frame} {meth : Method} {c : Code} {dC : Nat → ClassId} {dI : Nat → Nat → Nat} {ad : Nat → Nat} {cy : Nat → ClassId} {sz : Nat} (C : Cx p s m args meth c RX1 cX1_setFoes 4 none dC dI ad cy sz) {rr : Int32} {ρ : S0} (σ : S0) (k : Nat) (x1 : Int32) (x2 : Int32) (x3 : Int32) (hk : isChimes k) (hf : fX1_setFoes σ k x1 x2 x3 = some (rr, ρ)) : Gw p l e rm_X1_setFoes s m args below meth c (MQ below (QcV dC dI ad cy sz ρ) args s 0 0 (AW ad sz)) dC dI ad cy 4 sz 0 0 0 [(0, .ref (ad k)), (1, .int x1), (2, .int x2), (3, .int x3)] [] σ := by
  unfold fX1_setFoes at hf
  refine g_aload_n C dX1_setFoes_0 rfl 0 rfl ?_
  refine g_get C (s_isChimes hk ad cy _) rfl hin_X1 6 (by decide) hF_X1_27 rfl rfl dX1_setFoes_1 ?_
  refine g_iload_n C dX1_setFoes_4 rfl 1 rfl ?_
  refine g_iload_n C dX1_setFoes_5 rfl 3 rfl ?_
  rcases oi_e hf with ⟨c1, hf⟩ | ⟨c1, hf⟩
  · refine g_if_eq_t (tgt := 22) C dX1_setFoes_6 (by decide) c1 ?_
    refine g_aload_n C dX1_setFoes_22 rfl 0 rfl ?_
    refine g_get C (s_isChimes hk ad cy _) rfl hin_X1 6 (by decide) hF_X1_27 rfl rfl dX1_setFoes_23 ?_
    refine g_iload_n C dX1_setFoes_26 rfl 1 rfl ?_
    obtain ⟨h2, hf⟩ := og_e hf
    refine g_iald C (s_row hk.r6 ad cy _) h2 dX1_setFoes_27 ?_
    obtain ⟨v3, ev3, hf⟩ := ol_e hf
    refine g_nm ev3 ?_
    refine g_iconst (v := 1) C dX1_setFoes_28 (by decide) ?_
    refine g_iload_n C dX1_setFoes_29 rfl 2 rfl ?_
    refine g_ishl C dX1_setFoes_30 ?_
    refine g_iconst (v := (-1)) C dX1_setFoes_31 (by decide) ?_
    refine g_ixor C dX1_setFoes_32 ?_
    refine g_iand C dX1_setFoes_33 ?_
    exact g_sub [0, 1, 2, 3] rfl (fX1_setFoes_b34_ok C σ k x1 x2 x3 (v3 &&& (((1 : Int32) <<< (x2 &&& 31)) ^^^ ((-1)))) x1 (k + 6) hk hk.r6 hf)
  · refine g_if_eq_f (tgt := 22) C dX1_setFoes_6 (by decide) c1 ?_
    refine g_aload_n C dX1_setFoes_9 rfl 0 rfl ?_
    refine g_get C (s_isChimes hk ad cy _) rfl hin_X1 6 (by decide) hF_X1_27 rfl rfl dX1_setFoes_10 ?_
    refine g_iload_n C dX1_setFoes_13 rfl 1 rfl ?_
    obtain ⟨h4, hf⟩ := og_e hf
    refine g_iald C (s_row hk.r6 ad cy _) h4 dX1_setFoes_14 ?_
    obtain ⟨v5, ev5, hf⟩ := ol_e hf
    refine g_nm ev5 ?_
    refine g_iconst (v := 1) C dX1_setFoes_15 (by decide) ?_
    refine g_iload_n C dX1_setFoes_16 rfl 2 rfl ?_
    refine g_ishl C dX1_setFoes_17 ?_
    refine g_ior C dX1_setFoes_18 ?_
    refine g_goto (tgt := 34) C dX1_setFoes_19 (by decide) ?_
    exact g_sub [0, 1, 2, 3] rfl (fX1_setFoes_b34_ok C σ k x1 x2 x3 (v5 ||| ((1 : Int32) <<< (x2 &&& 31))) x1 (k + 6) hk hk.r6 hf)
theorem c_X1_setFoes (l : Launch) (dC : Nat → ClassId) (dI : Nat → Nat → Nat) (ad : Nat → Nat) (cy : Nat → ClassId) (k : Nat) (hk : isChimes k) (x1 : Int32) (x2 : Int32) (x3 : Int32) : ConV l yX1_setFoes cX1_setFoes 4 none rm_X1_setFoes dC dI ad cy [.ref (ad k), .int x1, .int x2, .int x3] (fun σ => fX1_setFoes σ k x1 x2 x3) := con_v (own := RX1) (by decide) rfl (Nat.le_of_ble_eq_true rfl) (fun _ _ _ _ _ _ _ _ σ _ _ C hf => fX1_setFoes_ok C σ k x1 x2 x3 hk hf)
theorem cal_X1_setFoes : CalV yX1_setFoes RX1 cX1_setFoes 4 none 3 := ⟨hI_X1_setFoes, hS_X1_setFoes, hIni_X1, hC_X1_setFoes, by decide +kernel⟩
abbrev rm_X1_feudPairs : Room := { frames := 1, cells := 0, slots := 0, locals := 20 }
def fX1_feudPairs_b4 (sf_4 : S0 → Nat → Int32 → Int32 → Option (Int32 × S0)) (σ : S0) (k : Nat) (x1 : Int32) (x2 : Int32) : Option (Int32 × S0) := if (6 : Int32) ≤ x2 then (og (¬ ((2 : Int32)) = 0) (ol (x1 / 2) (fun v3 => some (v3, σ)))) else (og (¬ (x2 < 0 ∨ 6 ≤ x2.toNatClampNeg)) (ol (σ (k + 6) x2.toNatClampNeg) (fun v5 => obp (fJ6_bitCount_0f7a4 σ v5) (fun r6 σ7 => ol (x1 + r6) (fun v9 => ol (x2 + 1) (fun v10 => sf_4 σ7 k v9 v10))))))
set_option maxHeartbeats 1000000 in
set_option maxRecDepth 100000 in
theorem fX1_feudPairs_b4_ok {p : Program} {l : Launch} {e : Env} {s : State} {m : MethodId} {args : Array Value} {below : List Frame} {meth : Method} {c : Code} {dC : Nat → ClassId} {dI : Nat → Nat → Nat} {ad : Nat → Nat} {cy : Nat → ClassId} {sz : Nat} (C : Cx p s m args meth c RX1 cX1_feudPairs 3 (some .int) dC dI ad cy sz) {rr : Int32} {ρ : S0} (sf_4 : S0 → Nat → Int32 → Int32 → Option (Int32 × S0)) (hs_4 : ∀ (σ : S0) (k : Nat) (x1 : Int32) (x2 : Int32) (hk : isChimes k), sf_4 σ k x1 x2 = some (rr, ρ) → Gw p l e rm_X1_feudPairs s m args below meth c (MQ below (QcI dC dI ad cy sz rr ρ) args s 0 0 (AW ad sz)) dC dI ad cy 3 sz 0 0 4 [(0, .ref (ad k)), (1, .int x1), (2, .int x2)] [] σ) (σ : S0) (k : Nat) (x1 : Int32) (x2 : Int32) (hk : isChimes k) (hf : fX1_feudPairs_b4 sf_4 σ k x1 x2 = some (rr, ρ)) : Gw p l e rm_X1_feudPairs s m args below meth c (MQ below (QcI dC dI ad cy sz rr ρ) args s 0 0 (AW ad sz)) dC dI ad cy 3 sz 0 0 4 [(0, .ref (ad k)), (1, .int x1), (2, .int x2)] [] σ := by
  unfold fX1_feudPairs_b4 at hf
  refine g_iload_n C dX1_feudPairs_4 rfl 2 rfl ?_
  refine g_bipush (v := 6) C dX1_feudPairs_5 (by decide) ?_
  rcases oi_e hf with ⟨c1, hf⟩ | ⟨c1, hf⟩
  · refine g_icmp_ge_t (tgt := 28) C dX1_feudPairs_7 (by decide) c1 ?_
    refine g_iload_n C dX1_feudPairs_28 rfl 1 rfl ?_
    refine g_iconst (v := 2) C dX1_feudPairs_29 (by decide) ?_
    obtain ⟨h2, hf⟩ := og_e hf
    refine g_idiv C dX1_feudPairs_30 h2 ?_
    obtain ⟨v3, ev3, hf⟩ := ol_e hf
    refine g_nm ev3 ?_
    obtain ⟨rfl, rfl⟩ := os_e hf
    exact g_iret C rfl dX1_feudPairs_31
  · refine g_icmp_ge_f (tgt := 28) C dX1_feudPairs_7 (by decide) c1 ?_
    refine g_iload_n C dX1_feudPairs_10 rfl 1 rfl ?_
    refine g_aload_n C dX1_feudPairs_11 rfl 0 rfl ?_
    refine g_get C (s_isChimes hk ad cy _) rfl hin_X1 6 (by decide) hF_X1_27 rfl rfl dX1_feudPairs_12 ?_
    refine g_iload_n C dX1_feudPairs_15 rfl 2 rfl ?_
    obtain ⟨h4, hf⟩ := og_e hf
    refine g_iald C (s_row hk.r6 ad cy _) h4 dX1_feudPairs_16 ?_
    obtain ⟨v5, ev5, hf⟩ := ol_e hf
    refine g_nm ev5 ?_
    obtain ⟨r6, σ7, h8, hf⟩ := obp_e hf
    refine g_callSi (As := [.int v5]) (rest := [.int x1]) C (c_J6_bitCount_0f7a4 l dC dI ad cy v5) h8 hM_X1_52 cal_J6_bitCount_0f7a4 ⟨Nat.zero_le _, Nat.zero_le _⟩ ⟨rfl, rfl⟩ ⟨Nat.le_of_ble_eq_true rfl, Nat.le_of_ble_eq_true rfl⟩ rfl rfl (Nat.le_of_ble_eq_true rfl) dX1_feudPairs_17 ?_
    refine g_iadd C dX1_feudPairs_20 ?_
    obtain ⟨v9, ev9, hf⟩ := ol_e hf
    refine g_nm ev9 ?_
    refine g_istore_n (lv2 := [(0, .ref (ad k)), (1, .int v9), (2, .int x2)]) C dX1_feudPairs_21 rfl (by decide) [1, 0, 2] rfl ?_
    obtain ⟨v10, ev10, hf⟩ := ol_e hf
    refine g_iinc (j := 2) (w := 1) (lv2 := [(0, .ref (ad k)), (1, .int v9), (2, .int v10)]) C dX1_feudPairs_22 rfl (by decide) ev10 (by decide) [1, 2, 0] rfl ?_
    refine g_goto (tgt := 4) C dX1_feudPairs_25 (by decide) ?_
    exact g_sub [0, 1, 2] rfl (hs_4 σ7 k v9 v10 hk hf)
def fX1_feudPairs_h4  : Nat → S0 → Nat → Int32 → Int32 → Option (Int32 × S0)
  | 0 => fun _ _ _ _ => none
  | n + 1 => fun σ k x1 x2 => fX1_feudPairs_b4  (fX1_feudPairs_h4  n) σ k x1 x2
set_option maxHeartbeats 1000000 in
set_option maxRecDepth 100000 in
theorem fX1_feudPairs_h4_ok {p : Program} {l : Launch} {e : Env} {s : State} {m : MethodId} {args : Array Value} {below : List Frame} {meth : Method} {c : Code} {dC : Nat → ClassId} {dI : Nat → Nat → Nat} {ad : Nat → Nat} {cy : Nat → ClassId} {sz : Nat} (C : Cx p s m args meth c RX1 cX1_feudPairs 3 (some .int) dC dI ad cy sz) {rr : Int32} {ρ : S0}  : ∀ (n : Nat) (σ : S0) (k : Nat) (x1 : Int32) (x2 : Int32) (hk : isChimes k) (_hf : fX1_feudPairs_h4  n σ k x1 x2 = some (rr, ρ)), Gw p l e rm_X1_feudPairs s m args below meth c (MQ below (QcI dC dI ad cy sz rr ρ) args s 0 0 (AW ad sz)) dC dI ad cy 3 sz 0 0 4 [(0, .ref (ad k)), (1, .int x1), (2, .int x2)] [] σ
  | 0, _, _, _, _, _, hf => by cases hf
  | n + 1, σ, k, x1, x2, hk, hf => fX1_feudPairs_b4_ok C  (fX1_feudPairs_h4  n) (fX1_feudPairs_h4_ok C  n) σ k x1 x2 hk hf
def fX1_feudPairs (σ : S0) (k : Nat) : Option (Int32 × S0) := fX1_feudPairs_h4 400 σ k 0 0
set_option maxHeartbeats 1000000 in
set_option maxRecDepth 100000 in
theorem fX1_feudPairs_ok {p : Program} {l : Launch} {e : Env} {s : State} {m : MethodId} {args : Array Value} {below : List Frame} {meth : Method} {c : Code} {dC : Nat → ClassId} {dI : Nat → Nat → Nat} {ad : Nat → Nat} {cy : Nat → ClassId} {sz : Nat} (C : Cx p s m args meth c RX1 cX1_feudPairs 3 (some .int) dC dI ad cy sz) {rr : Int32} {ρ : S0} (σ : S0) (k : Nat) (hk : isChimes k) (hf : fX1_feudPairs σ k = some (rr, ρ)) : Gw p l e rm_X1_feudPairs s m args below meth c (MQ below (QcI dC dI ad cy sz rr ρ) args s 0 0 (AW ad sz)) dC dI ad cy 3 sz 0 0 0 [(0, .ref (ad k))] [] σ := by
  unfold fX1_feudPairs at hf
  refine g_iconst (v := 0) C dX1_feudPairs_0 (by decide) ?_
  refine g_istore_n (lv2 := [(0, .ref (ad k)), (1, .int 0)]) C dX1_feudPairs_1 rfl (by decide) [1, 0] rfl ?_
  refine g_iconst (v := 0) C dX1_feudPairs_2 (by decide) ?_
  refine g_istore_n (lv2 := [(0, .ref (ad k)), (1, .int 0), (2, .int 0)]) C dX1_feudPairs_3 rfl (by decide) [1, 2, 0] rfl ?_
  exact g_sub [0, 1, 2] rfl (fX1_feudPairs_h4_ok C 400 σ k 0 0 hk hf)
theorem c_X1_feudPairs (l : Launch) (dC : Nat → ClassId) (dI : Nat → Nat → Nat) (ad : Nat → Nat) (cy : Nat → ClassId) (k : Nat) (hk : isChimes k) : ConI l yX1_feudPairs cX1_feudPairs 3 (some .int) rm_X1_feudPairs dC dI ad cy [.ref (ad k)] (fun σ => fX1_feudPairs σ k) := con_i (own := RX1) (by decide) rfl (Nat.le_of_ble_eq_true rfl) (fun _ _ _ _ _ _ _ _ σ _ _ C hf => fX1_feudPairs_ok C σ k hk hf)
theorem cal_X1_feudPairs : CalV yX1_feudPairs RX1 cX1_feudPairs 3 (some .int) 0 := ⟨hI_X1_feudPairs, hS_X1_feudPairs, hIni_X1, hC_X1_feudPairs, by decide +kernel⟩
abbrev rm_X1_partsOf : Room := { frames := 0, cells := 0, slots := 0, locals := 0 }
def fX1_partsOf (σ : S0) (k : Nat) (x1 : Int32) (x2 : Int32) : Option (Int32 × S0) := og (¬ (x2 < 0 ∨ 12 ≤ x2.toNatClampNeg)) (ol (σ (k + 1) x2.toNatClampNeg) (fun v2 => if ¬ v2 = x1 then (og (¬ (x2 < 0 ∨ 12 ≤ x2.toNatClampNeg)) (ol (σ (k + 5) x2.toNatClampNeg) (fun v5 => if ¬ v5 = x1 then (some (0, σ)) else (some (1, σ))))) else (og (¬ (x2 < 0 ∨ 12 ≤ x2.toNatClampNeg)) (ol (σ (k + 5) x2.toNatClampNeg) (fun v8 => if ¬ v8 = ((-4)) then (some (1, σ)) else (some (2, σ)))))))
set_option maxHeartbeats 1000000 in
set_option maxRecDepth 100000 in
theorem fX1_partsOf_ok {p : Program} {l : Launch} {e : Env} {s : State} {m : MethodId} {args : Array Value} {below : List Frame} {meth : Method} {c : Code} {dC : Nat → ClassId} {dI : Nat → Nat → Nat} {ad : Nat → Nat} {cy : Nat → ClassId} {sz : Nat} (C : Cx p s m args meth c RX1 cX1_partsOf 3 (some .int) dC dI ad cy sz) {rr : Int32} {ρ : S0} (σ : S0) (k : Nat) (x1 : Int32) (x2 : Int32) (hk : isChimes k) (hf : fX1_partsOf σ k x1 x2 = some (rr, ρ)) : Gw p l e rm_X1_partsOf s m args below meth c (MQ below (QcI dC dI ad cy sz rr ρ) args s 0 0 (AW ad sz)) dC dI ad cy 3 sz 0 0 0 [(0, .ref (ad k)), (1, .int x1), (2, .int x2)] [] σ := by
  unfold fX1_partsOf at hf
  refine g_aload_n C dX1_partsOf_0 rfl 0 rfl ?_
  refine g_get C (s_isChimes hk ad cy _) rfl hin_X1 1 (by decide) hF_X1_9 rfl rfl dX1_partsOf_1 ?_
  refine g_iload_n C dX1_partsOf_4 rfl 2 rfl ?_
  obtain ⟨h1, hf⟩ := og_e hf
  refine g_iald C (s_row hk.r1 ad cy _) h1 dX1_partsOf_5 ?_
  obtain ⟨v2, ev2, hf⟩ := ol_e hf
  refine g_nm ev2 ?_
  refine g_iload_n C dX1_partsOf_6 rfl 1 rfl ?_
  rcases oi_e hf with ⟨c3, hf⟩ | ⟨c3, hf⟩
  · refine g_icmp_ne_t (tgt := 27) C dX1_partsOf_7 (by decide) c3 ?_
    refine g_aload_n C dX1_partsOf_27 rfl 0 rfl ?_
    refine g_get C (s_isChimes hk ad cy _) rfl hin_X1 5 (by decide) hF_X1_24 rfl rfl dX1_partsOf_28 ?_
    refine g_iload_n C dX1_partsOf_31 rfl 2 rfl ?_
    obtain ⟨h4, hf⟩ := og_e hf
    refine g_iald C (s_row hk.r5 ad cy _) h4 dX1_partsOf_32 ?_
    obtain ⟨v5, ev5, hf⟩ := ol_e hf
    refine g_nm ev5 ?_
    refine g_iload_n C dX1_partsOf_33 rfl 1 rfl ?_
    rcases oi_e hf with ⟨c6, hf⟩ | ⟨c6, hf⟩
    · refine g_icmp_ne_t (tgt := 41) C dX1_partsOf_34 (by decide) c6 ?_
      refine g_iconst (v := 0) C dX1_partsOf_41 (by decide) ?_
      obtain ⟨rfl, rfl⟩ := os_e hf
      exact g_iret C rfl dX1_partsOf_42
    · refine g_icmp_ne_f (tgt := 41) C dX1_partsOf_34 (by decide) (Decidable.of_not_not c6) ?_
      refine g_iconst (v := 1) C dX1_partsOf_37 (by decide) ?_
      refine g_goto (tgt := 42) C dX1_partsOf_38 (by decide) ?_
      obtain ⟨rfl, rfl⟩ := os_e hf
      exact g_iret C rfl dX1_partsOf_42
  · refine g_icmp_ne_f (tgt := 27) C dX1_partsOf_7 (by decide) (Decidable.of_not_not c3) ?_
    refine g_aload_n C dX1_partsOf_10 rfl 0 rfl ?_
    refine g_get C (s_isChimes hk ad cy _) rfl hin_X1 5 (by decide) hF_X1_24 rfl rfl dX1_partsOf_11 ?_
    refine g_iload_n C dX1_partsOf_14 rfl 2 rfl ?_
    obtain ⟨h7, hf⟩ := og_e hf
    refine g_iald C (s_row hk.r5 ad cy _) h7 dX1_partsOf_15 ?_
    obtain ⟨v8, ev8, hf⟩ := ol_e hf
    refine g_nm ev8 ?_
    refine g_bipush (v := (-4)) C dX1_partsOf_16 (by decide) ?_
    rcases oi_e hf with ⟨c9, hf⟩ | ⟨c9, hf⟩
    · refine g_icmp_ne_t (tgt := 25) C dX1_partsOf_18 (by decide) c9 ?_
      refine g_iconst (v := 1) C dX1_partsOf_25 (by decide) ?_
      obtain ⟨rfl, rfl⟩ := os_e hf
      exact g_iret C rfl dX1_partsOf_26
    · refine g_icmp_ne_f (tgt := 25) C dX1_partsOf_18 (by decide) (Decidable.of_not_not c9) ?_
      refine g_iconst (v := 2) C dX1_partsOf_21 (by decide) ?_
      refine g_goto (tgt := 26) C dX1_partsOf_22 (by decide) ?_
      obtain ⟨rfl, rfl⟩ := os_e hf
      exact g_iret C rfl dX1_partsOf_26
theorem c_X1_partsOf (l : Launch) (dC : Nat → ClassId) (dI : Nat → Nat → Nat) (ad : Nat → Nat) (cy : Nat → ClassId) (k : Nat) (hk : isChimes k) (x1 : Int32) (x2 : Int32) : ConI l yX1_partsOf cX1_partsOf 3 (some .int) rm_X1_partsOf dC dI ad cy [.ref (ad k), .int x1, .int x2] (fun σ => fX1_partsOf σ k x1 x2) := con_i (own := RX1) (by decide) rfl (Nat.le_of_ble_eq_true rfl) (fun _ _ _ _ _ _ _ _ σ _ _ C hf => fX1_partsOf_ok C σ k x1 x2 hk hf)
theorem cal_X1_partsOf : CalV yX1_partsOf RX1 cX1_partsOf 3 (some .int) 2 := ⟨hI_X1_partsOf, hS_X1_partsOf, hIni_X1, hC_X1_partsOf, by decide +kernel⟩
abbrev rm_X1_shareOf : Room := { frames := 1, cells := 0, slots := 0, locals := 22 }
def fX1_shareOf (σ : S0) (k : Nat) (x1 : Int32) (x2 : Int32) : Option (Int32 × S0) := obp (fX1_partsOf σ k x1 x2) (fun r1 σ2 => og (¬ (x2 < 0 ∨ 12 ≤ x2.toNatClampNeg)) (ol (σ2 (k + 2) x2.toNatClampNeg) (fun v5 => some (r1 * v5, σ2))))
set_option maxHeartbeats 1000000 in
set_option maxRecDepth 100000 in
theorem fX1_shareOf_ok {p : Program} {l : Launch} {e : Env} {s : State} {m : MethodId} {args : Array Value} {below : List Frame} {meth : Method} {c : Code} {dC : Nat → ClassId} {dI : Nat → Nat → Nat} {ad : Nat → Nat} {cy : Nat → ClassId} {sz : Nat} (C : Cx p s m args meth c RX1 cX1_shareOf 3 (some .int) dC dI ad cy sz) {rr : Int32} {ρ : S0} (σ : S0) (k : Nat) (x1 : Int32) (x2 : Int32) (hk : isChimes k) (hf : fX1_shareOf σ k x1 x2 = some (rr, ρ)) : Gw p l e rm_X1_shareOf s m args below meth c (MQ below (QcI dC dI ad cy sz rr ρ) args s 0 0 (AW ad sz)) dC dI ad cy 3 sz 0 0 0 [(0, .ref (ad k)), (1, .int x1), (2, .int x2)] [] σ := by
  unfold fX1_shareOf at hf
  refine g_aload_n C dX1_shareOf_0 rfl 0 rfl ?_
  refine g_iload_n C dX1_shareOf_1 rfl 1 rfl ?_
  refine g_iload_n C dX1_shareOf_2 rfl 2 rfl ?_
  obtain ⟨r1, σ2, h3, hf⟩ := obp_e hf
  refine g_callVi (As := [.int x1, .int x2]) (rest := []) C (s_isChimes hk ad cy _) rfl (c_X1_partsOf l dC dI ad cy k hk x1 x2) h3 hM_X1_58 cal_X1_partsOf ⟨Nat.zero_le _, Nat.zero_le _⟩ ⟨rfl, rfl⟩ ⟨Nat.le_of_ble_eq_true rfl, Nat.le_of_ble_eq_true rfl⟩ rfl rfl (Nat.le_of_ble_eq_true rfl) dX1_shareOf_3 ?_
  refine g_aload_n C dX1_shareOf_6 rfl 0 rfl ?_
  refine g_get C (s_isChimes hk ad cy _) rfl hin_X1 2 (by decide) hF_X1_15 rfl rfl dX1_shareOf_7 ?_
  refine g_iload_n C dX1_shareOf_10 rfl 2 rfl ?_
  obtain ⟨h4, hf⟩ := og_e hf
  refine g_iald C (s_row hk.r2 ad cy _) h4 dX1_shareOf_11 ?_
  obtain ⟨v5, ev5, hf⟩ := ol_e hf
  refine g_nm ev5 ?_
  refine g_imul C dX1_shareOf_12 ?_
  obtain ⟨rfl, rfl⟩ := os_e hf
  exact g_iret C rfl dX1_shareOf_13
theorem c_X1_shareOf (l : Launch) (dC : Nat → ClassId) (dI : Nat → Nat → Nat) (ad : Nat → Nat) (cy : Nat → ClassId) (k : Nat) (hk : isChimes k) (x1 : Int32) (x2 : Int32) : ConI l yX1_shareOf cX1_shareOf 3 (some .int) rm_X1_shareOf dC dI ad cy [.ref (ad k), .int x1, .int x2] (fun σ => fX1_shareOf σ k x1 x2) := con_i (own := RX1) (by decide) rfl (Nat.le_of_ble_eq_true rfl) (fun _ _ _ _ _ _ _ _ σ _ _ C hf => fX1_shareOf_ok C σ k x1 x2 hk hf)
theorem cal_X1_shareOf : CalV yX1_shareOf RX1 cX1_shareOf 3 (some .int) 2 := ⟨hI_X1_shareOf, hS_X1_shareOf, hIni_X1, hC_X1_shareOf, by decide +kernel⟩
abbrev rm_X1_canBeHeard : Room := { frames := 1, cells := 0, slots := 0, locals := 21 }
def fX1_canBeHeard_b14  (σ : S0)  : Option (Int32 × S0) := some (1, σ)
set_option maxHeartbeats 1000000 in
set_option maxRecDepth 100000 in
theorem fX1_canBeHeard_b14_ok {p : Program} {l : Launch} {e : Env} {s : State} {m : MethodId} {args : Array Value} {below : List Frame} {meth : Method} {c : Code} {dC : Nat → ClassId} {dI : Nat → Nat → Nat} {ad : Nat → Nat} {cy : Nat → ClassId} {sz : Nat} (C : Cx p s m args meth c RX1 cX1_canBeHeard 2 (some .boolean) dC dI ad cy sz) {rr : Int32} {ρ : S0}  (σ : S0)   (hf : fX1_canBeHeard_b14 σ = some (rr, ρ)) : Gw p l e rm_X1_canBeHeard s m args below meth c (MQ below (QcI dC dI ad cy sz rr ρ) args s 0 0 (AW ad sz)) dC dI ad cy 2 sz 0 0 14 [] [] σ := by
  unfold fX1_canBeHeard_b14 at hf
  refine g_iconst (v := 1) C dX1_canBeHeard_14 (by decide) ?_
  refine g_goto (tgt := 19) C dX1_canBeHeard_15 (by decide) ?_
  obtain ⟨rfl, rfl⟩ := os_e hf
  exact g_zret C rfl (by decide) dX1_canBeHeard_19
def fX1_canBeHeard (σ : S0) (k : Nat) (x1 : Int32) : Option (Int32 × S0) := if x1 = ((-4)) then (fX1_canBeHeard_b14 σ) else (obp (fX1_hasBell σ k x1) (fun r2 σ3 => if r2 = 0 then (some (0, σ3)) else (fX1_canBeHeard_b14 σ3)))
set_option maxHeartbeats 1000000 in
set_option maxRecDepth 100000 in
theorem fX1_canBeHeard_ok {p : Program} {l : Launch} {e : Env} {s : State} {m : MethodId} {args : Array Value} {below : List Frame} {meth : Method} {c : Code} {dC : Nat → ClassId} {dI : Nat → Nat → Nat} {ad : Nat → Nat} {cy : Nat → ClassId} {sz : Nat} (C : Cx p s m args meth c RX1 cX1_canBeHeard 2 (some .boolean) dC dI ad cy sz) {rr : Int32} {ρ : S0} (σ : S0) (k : Nat) (x1 : Int32) (hk : isChimes k) (hf : fX1_canBeHeard σ k x1 = some (rr, ρ)) : Gw p l e rm_X1_canBeHeard s m args below meth c (MQ below (QcI dC dI ad cy sz rr ρ) args s 0 0 (AW ad sz)) dC dI ad cy 2 sz 0 0 0 [(0, .ref (ad k)), (1, .int x1)] [] σ := by
  unfold fX1_canBeHeard at hf
  refine g_iload_n C dX1_canBeHeard_0 rfl 1 rfl ?_
  refine g_bipush (v := (-4)) C dX1_canBeHeard_1 (by decide) ?_
  rcases oi_e hf with ⟨c1, hf⟩ | ⟨c1, hf⟩
  · refine g_icmp_eq_t (tgt := 14) C dX1_canBeHeard_3 (by decide) c1 ?_
    exact g_sub [] rfl (fX1_canBeHeard_b14_ok C σ hf)
  · refine g_icmp_eq_f (tgt := 14) C dX1_canBeHeard_3 (by decide) c1 ?_
    refine g_aload_n C dX1_canBeHeard_6 rfl 0 rfl ?_
    refine g_iload_n C dX1_canBeHeard_7 rfl 1 rfl ?_
    obtain ⟨r2, σ3, h4, hf⟩ := obp_e hf
    refine g_callVi (As := [.int x1]) (rest := []) C (s_isChimes hk ad cy _) rfl (c_X1_hasBell l dC dI ad cy k hk x1) h4 hM_X1_62 cal_X1_hasBell ⟨Nat.zero_le _, Nat.zero_le _⟩ ⟨rfl, rfl⟩ ⟨Nat.le_of_ble_eq_true rfl, Nat.le_of_ble_eq_true rfl⟩ rfl rfl (Nat.le_of_ble_eq_true rfl) dX1_canBeHeard_8 ?_
    rcases oi_e hf with ⟨c5, hf⟩ | ⟨c5, hf⟩
    · refine g_if_eq_t (tgt := 18) C dX1_canBeHeard_11 (by decide) c5 ?_
      refine g_iconst (v := 0) C dX1_canBeHeard_18 (by decide) ?_
      obtain ⟨rfl, rfl⟩ := os_e hf
      exact g_zret C rfl (by decide) dX1_canBeHeard_19
    · refine g_if_eq_f (tgt := 18) C dX1_canBeHeard_11 (by decide) c5 ?_
      exact g_sub [] rfl (fX1_canBeHeard_b14_ok C σ3 hf)
theorem c_X1_canBeHeard (l : Launch) (dC : Nat → ClassId) (dI : Nat → Nat → Nat) (ad : Nat → Nat) (cy : Nat → ClassId) (k : Nat) (hk : isChimes k) (x1 : Int32) : ConI l yX1_canBeHeard cX1_canBeHeard 2 (some .boolean) rm_X1_canBeHeard dC dI ad cy [.ref (ad k), .int x1] (fun σ => fX1_canBeHeard σ k x1) := con_i (own := RX1) (by decide) rfl (Nat.le_of_ble_eq_true rfl) (fun _ _ _ _ _ _ _ _ σ _ _ C hf => fX1_canBeHeard_ok C σ k x1 hk hf)
theorem cal_X1_canBeHeard : CalV yX1_canBeHeard RX1 cX1_canBeHeard 2 (some .boolean) 1 := ⟨hI_X1_canBeHeard, hS_X1_canBeHeard, hIni_X1, hC_X1_canBeHeard, by decide +kernel⟩
abbrev rm_X1_addHeard : Room := { frames := 0, cells := 0, slots := 0, locals := 0 }
def fX1_addHeard (σ : S0) (k : Nat) (x1 : Int32) : Option (Int32 × S0) := if (12 : Int32) ≤ (σ k 7) then (some (0, σ)) else (ol (σ k 7) (fun v2 => og (¬ (v2 < 0 ∨ 12 ≤ v2.toNatClampNeg)) (ol (su σ (k + 7) v2.toNatClampNeg x1) (fun σ4 => ol ((σ4 k 7) + 1) (fun v5 => ol (su σ4 k 7 v5) (fun σ6 => some (0, σ6)))))))
set_option maxHeartbeats 1000000 in
set_option maxRecDepth 100000 in
theorem fX1_addHeard_ok {p : Program} {l : Launch} {e : Env} {s : State} {m : MethodId} {args : Array Value} {below : List Frame} {meth : Method} {c : Code} {dC : Nat → ClassId} {dI : Nat → Nat → Nat} {ad : Nat → Nat} {cy : Nat → ClassId} {sz : Nat} (C : Cx p s m args meth c RX1 cX1_addHeard 2 none dC dI ad cy sz) {rr : Int32} {ρ : S0} (σ : S0) (k : Nat) (x1 : Int32) (hk : isChimes k) (hf : fX1_addHeard σ k x1 = some (rr, ρ)) : Gw p l e rm_X1_addHeard s m args below meth c (MQ below (QcV dC dI ad cy sz ρ) args s 0 0 (AW ad sz)) dC dI ad cy 2 sz 0 0 0 [(0, .ref (ad k)), (1, .int x1)] [] σ := by
  unfold fX1_addHeard at hf
  refine g_aload_n C dX1_addHeard_0 rfl 0 rfl ?_
  refine g_get C (s_isChimes hk ad cy _) rfl hin_X1 7 (by decide) hF_X1_37 rfl rfl dX1_addHeard_1 ?_
  refine g_bipush (v := 12) C dX1_addHeard_4 (by decide) ?_
  rcases oi_e hf with ⟨c1, hf⟩ | ⟨c1, hf⟩
  · refine g_icmp_ge_t (tgt := 29) C dX1_addHeard_6 (by decide) c1 ?_
    obtain ⟨rfl, rfl⟩ := os_e hf
    exact g_vret C rfl dX1_addHeard_29
  · refine g_icmp_ge_f (tgt := 29) C dX1_addHeard_6 (by decide) c1 ?_
    refine g_aload_n C dX1_addHeard_9 rfl 0 rfl ?_
    refine g_get C (s_isChimes hk ad cy _) rfl hin_X1 8 (by decide) hF_X1_30 rfl rfl dX1_addHeard_10 ?_
    refine g_aload_n C dX1_addHeard_13 rfl 0 rfl ?_
    refine g_get C (s_isChimes hk ad cy _) rfl hin_X1 7 (by decide) hF_X1_37 rfl rfl dX1_addHeard_14 ?_
    refine g_iload_n C dX1_addHeard_17 rfl 1 rfl ?_
    obtain ⟨v2, ev2, hf⟩ := ol_e hf
    refine g_nm2 ev2 ?_
    obtain ⟨h3, hf⟩ := og_e hf
    obtain ⟨σ4, eσ4, hf⟩ := ol_e hf
    refine g_iast C (s_row hk.r7 ad cy _) h3 (ws_row hk.r7 ad cy _) eσ4 dX1_addHeard_18 ?_
    refine g_aload_n C dX1_addHeard_19 rfl 0 rfl ?_
    refine g_dup C dX1_addHeard_20 rfl ?_
    refine g_get C (s_isChimes hk ad cy _) rfl hin_X1 7 (by decide) hF_X1_37 rfl rfl dX1_addHeard_21 ?_
    refine g_iconst (v := 1) C dX1_addHeard_24 (by decide) ?_
    refine g_iadd C dX1_addHeard_25 ?_
    obtain ⟨v5, ev5, hf⟩ := ol_e hf
    refine g_nm ev5 ?_
    obtain ⟨σ6, eσ6, hf⟩ := ol_e hf
    refine g_put (ty := .int) C (s_isChimes hk ad cy _) rfl hin_X1 tyX1 tyX1_ok nmX1 7 (by decide) hF_X1_37 rfl rfl (by decide +kernel) rfl rfl (Nat.le_of_ble_eq_true rfl) (ps_isChimes_7 hk ad cy _ _) eσ6 dX1_addHeard_26 ?_
    obtain ⟨rfl, rfl⟩ := os_e hf
    exact g_vret C rfl dX1_addHeard_29
theorem c_X1_addHeard (l : Launch) (dC : Nat → ClassId) (dI : Nat → Nat → Nat) (ad : Nat → Nat) (cy : Nat → ClassId) (k : Nat) (hk : isChimes k) (x1 : Int32) : ConV l yX1_addHeard cX1_addHeard 2 none rm_X1_addHeard dC dI ad cy [.ref (ad k), .int x1] (fun σ => fX1_addHeard σ k x1) := con_v (own := RX1) (by decide) rfl (Nat.le_of_ble_eq_true rfl) (fun _ _ _ _ _ _ _ _ σ _ _ C hf => fX1_addHeard_ok C σ k x1 hk hf)
theorem cal_X1_addHeard : CalV yX1_addHeard RX1 cX1_addHeard 2 none 1 := ⟨hI_X1_addHeard, hS_X1_addHeard, hIni_X1, hC_X1_addHeard, by decide +kernel⟩
abbrev rm_X7_isNothing : Room := { frames := 0, cells := 0, slots := 0, locals := 0 }
def fX7_isNothing (σ : S0) (k : Nat) : Option (Int32 × S0) := if ¬ (σ k 0) = ((-1)) then (some (0, σ)) else (some (1, σ))
set_option maxHeartbeats 1000000 in
set_option maxRecDepth 100000 in
theorem fX7_isNothing_ok {p : Program} {l : Launch} {e : Env} {s : State} {m : MethodId} {args : Array Value} {below : List Frame} {meth : Method} {c : Code} {dC : Nat → ClassId} {dI : Nat → Nat → Nat} {ad : Nat → Nat} {cy : Nat → ClassId} {sz : Nat} (C : Cx p s m args meth c RX7 cX7_isNothing 1 (some .boolean) dC dI ad cy sz) {rr : Int32} {ρ : S0} (σ : S0) (k : Nat) (hk : isSheet k) (hf : fX7_isNothing σ k = some (rr, ρ)) : Gw p l e rm_X7_isNothing s m args below meth c (MQ below (QcI dC dI ad cy sz rr ρ) args s 0 0 (AW ad sz)) dC dI ad cy 1 sz 0 0 0 [(0, .ref (ad k))] [] σ := by
  unfold fX7_isNothing at hf
  refine g_aload_n C dX7_isNothing_0 rfl 0 rfl ?_
  refine g_get C (s_isSheet hk ad cy _) rfl hin_X7 0 (by decide) hF_X7_11 rfl rfl dX7_isNothing_1 ?_
  refine g_iconst (v := (-1)) C dX7_isNothing_4 (by decide) ?_
  rcases oi_e hf with ⟨c1, hf⟩ | ⟨c1, hf⟩
  · refine g_icmp_ne_t (tgt := 12) C dX7_isNothing_5 (by decide) c1 ?_
    refine g_iconst (v := 0) C dX7_isNothing_12 (by decide) ?_
    obtain ⟨rfl, rfl⟩ := os_e hf
    exact g_zret C rfl (by decide) dX7_isNothing_13
  · refine g_icmp_ne_f (tgt := 12) C dX7_isNothing_5 (by decide) (Decidable.of_not_not c1) ?_
    refine g_iconst (v := 1) C dX7_isNothing_8 (by decide) ?_
    refine g_goto (tgt := 13) C dX7_isNothing_9 (by decide) ?_
    obtain ⟨rfl, rfl⟩ := os_e hf
    exact g_zret C rfl (by decide) dX7_isNothing_13
theorem c_X7_isNothing (l : Launch) (dC : Nat → ClassId) (dI : Nat → Nat → Nat) (ad : Nat → Nat) (cy : Nat → ClassId) (k : Nat) (hk : isSheet k) : ConI l yX7_isNothing cX7_isNothing 1 (some .boolean) rm_X7_isNothing dC dI ad cy [.ref (ad k)] (fun σ => fX7_isNothing σ k) := con_i (own := RX7) (by decide) rfl (Nat.le_of_ble_eq_true rfl) (fun _ _ _ _ _ _ _ _ σ _ _ C hf => fX7_isNothing_ok C σ k hk hf)
theorem cal_X7_isNothing : CalV yX7_isNothing RX7 cX7_isNothing 1 (some .boolean) 0 := ⟨hI_X7_isNothing, hS_X7_isNothing, hIni_X7, hC_X7_isNothing, by decide +kernel⟩
abbrev rm_X7_renew : Room := { frames := 1, cells := 0, slots := 0, locals := 23 }
def fX7_renew (σ : S0) (k : Nat) (x1 : Int32) (x2 : Int32) : Option (Int32 × S0) := ol (su σ k 0 x1) (fun σ1 => ol (su σ1 k 1 x2) (fun σ2 => obp (fJ7_fill_53178 σ2 40 (k + 1) ((0 : Int32))) (fun r3 σ4 => some (0, σ4))))
set_option maxHeartbeats 1000000 in
set_option maxRecDepth 100000 in
theorem fX7_renew_ok {p : Program} {l : Launch} {e : Env} {s : State} {m : MethodId} {args : Array Value} {below : List Frame} {meth : Method} {c : Code} {dC : Nat → ClassId} {dI : Nat → Nat → Nat} {ad : Nat → Nat} {cy : Nat → ClassId} {sz : Nat} (C : Cx p s m args meth c RX7 cX7_renew 3 none dC dI ad cy sz) {rr : Int32} {ρ : S0} (σ : S0) (k : Nat) (x1 : Int32) (x2 : Int32) (hk : isSheet k) (hf : fX7_renew σ k x1 x2 = some (rr, ρ)) : Gw p l e rm_X7_renew s m args below meth c (MQ below (QcV dC dI ad cy sz ρ) args s 0 0 (AW ad sz)) dC dI ad cy 3 sz 0 0 0 [(0, .ref (ad k)), (1, .int x1), (2, .int x2)] [] σ := by
  unfold fX7_renew at hf
  refine g_aload_n C dX7_renew_0 rfl 0 rfl ?_
  refine g_iload_n C dX7_renew_1 rfl 1 rfl ?_
  obtain ⟨σ1, eσ1, hf⟩ := ol_e hf
  refine g_put (ty := .int) C (s_isSheet hk ad cy _) rfl hin_X7 tyX7 tyX7_ok nmX7 0 (by decide) hF_X7_11 rfl rfl (by decide +kernel) rfl rfl (Nat.le_of_ble_eq_true rfl) (ps_isSheet_0 hk ad cy _ _) eσ1 dX7_renew_2 ?_
  refine g_aload_n C dX7_renew_5 rfl 0 rfl ?_
  refine g_iload_n C dX7_renew_6 rfl 2 rfl ?_
  obtain ⟨σ2, eσ2, hf⟩ := ol_e hf
  refine g_put (ty := .int) C (s_isSheet hk ad cy _) rfl hin_X7 tyX7 tyX7_ok nmX7 1 (by decide) hF_X7_19 rfl rfl (by decide +kernel) rfl rfl (Nat.le_of_ble_eq_true rfl) (ps_isSheet_1 hk ad cy _ _) eσ2 dX7_renew_7 ?_
  refine g_aload_n C dX7_renew_10 rfl 0 rfl ?_
  refine g_get C (s_isSheet hk ad cy _) rfl hin_X7 2 (by decide) hF_X7_15 rfl rfl dX7_renew_11 ?_
  refine g_iconst (v := 0) C dX7_renew_14 (by decide) ?_
  obtain ⟨r3, σ4, h5, hf⟩ := obp_e hf
  refine g_callSv (As := [.ref (ad (k + 1)), .int 0]) (rest := []) C (c_J7_fill_53178 l dC dI ad cy 40 (k + 1) hk.r1 ((0 : Int32))) h5 hM_X7_22 cal_J7_fill_53178 ⟨Nat.zero_le _, Nat.zero_le _⟩ ⟨rfl, rfl⟩ ⟨Nat.le_of_ble_eq_true rfl, Nat.le_of_ble_eq_true rfl⟩ rfl rfl (Nat.le_of_ble_eq_true rfl) dX7_renew_15 ?_
  obtain ⟨rfl, rfl⟩ := os_e hf
  exact g_vret C rfl dX7_renew_18
theorem c_X7_renew (l : Launch) (dC : Nat → ClassId) (dI : Nat → Nat → Nat) (ad : Nat → Nat) (cy : Nat → ClassId) (k : Nat) (hk : isSheet k) (x1 : Int32) (x2 : Int32) : ConV l yX7_renew cX7_renew 3 none rm_X7_renew dC dI ad cy [.ref (ad k), .int x1, .int x2] (fun σ => fX7_renew σ k x1 x2) := con_v (own := RX7) (by decide) rfl (Nat.le_of_ble_eq_true rfl) (fun _ _ _ _ _ _ _ _ σ _ _ C hf => fX7_renew_ok C σ k x1 x2 hk hf)
theorem cal_X7_renew : CalV yX7_renew RX7 cX7_renew 3 none 2 := ⟨hI_X7_renew, hS_X7_renew, hIni_X7, hC_X7_renew, by decide +kernel⟩
abbrev rm_X7_faultAt : Room := { frames := 1, cells := 0, slots := 0, locals := 20 }
def fX7_faultAt_b31  (σ : S0)  : Option (Int32 × S0) := some (2, σ)
set_option maxHeartbeats 1000000 in
set_option maxRecDepth 100000 in
theorem fX7_faultAt_b31_ok {p : Program} {l : Launch} {e : Env} {s : State} {m : MethodId} {args : Array Value} {below : List Frame} {meth : Method} {c : Code} {dC : Nat → ClassId} {dI : Nat → Nat → Nat} {ad : Nat → Nat} {cy : Nat → ClassId} {sz : Nat} (C : Cx p s m args meth c RX7 cX7_faultAt 3 (some .int) dC dI ad cy sz) {rr : Int32} {ρ : S0}  (σ : S0)   (hf : fX7_faultAt_b31 σ = some (rr, ρ)) : Gw p l e rm_X7_faultAt s m args below meth c (MQ below (QcI dC dI ad cy sz rr ρ) args s 0 0 (AW ad sz)) dC dI ad cy 3 sz 0 0 31 [] [] σ := by
  unfold fX7_faultAt_b31 at hf
  refine g_iconst (v := 2) C dX7_faultAt_31 (by decide) ?_
  refine g_goto (tgt := 36) C dX7_faultAt_32 (by decide) ?_
  obtain ⟨rfl, rfl⟩ := os_e hf
  exact g_iret C rfl dX7_faultAt_36
def fX7_faultAt (σ : S0) (k : Nat) (x1 : Int32) (x2 : Int32) : Option (Int32 × S0) := obp (fX7_isNothing σ k) (fun r1 σ2 => if r1 = 0 then (if x1 = (σ2 k 0) then (if x2 < 0 then (fX7_faultAt_b31 σ2) else (if x2 < (σ2 k 1) then (some (0, σ2)) else (fX7_faultAt_b31 σ2))) else (some (3, σ2))) else (some (1, σ2)))
set_option maxHeartbeats 1000000 in
set_option maxRecDepth 100000 in
theorem fX7_faultAt_ok {p : Program} {l : Launch} {e : Env} {s : State} {m : MethodId} {args : Array Value} {below : List Frame} {meth : Method} {c : Code} {dC : Nat → ClassId} {dI : Nat → Nat → Nat} {ad : Nat → Nat} {cy : Nat → ClassId} {sz : Nat} (C : Cx p s m args meth c RX7 cX7_faultAt 3 (some .int) dC dI ad cy sz) {rr : Int32} {ρ : S0} (σ : S0) (k : Nat) (x1 : Int32) (x2 : Int32) (hk : isSheet k) (hf : fX7_faultAt σ k x1 x2 = some (rr, ρ)) : Gw p l e rm_X7_faultAt s m args below meth c (MQ below (QcI dC dI ad cy sz rr ρ) args s 0 0 (AW ad sz)) dC dI ad cy 3 sz 0 0 0 [(0, .ref (ad k)), (1, .int x1), (2, .int x2)] [] σ := by
  unfold fX7_faultAt at hf
  refine g_aload_n C dX7_faultAt_0 rfl 0 rfl ?_
  obtain ⟨r1, σ2, h3, hf⟩ := obp_e hf
  refine g_callVi (As := []) (rest := []) C (s_isSheet hk ad cy _) rfl (c_X7_isNothing l dC dI ad cy k hk) h3 hM_X7_28 cal_X7_isNothing ⟨Nat.zero_le _, Nat.zero_le _⟩ ⟨rfl, rfl⟩ ⟨Nat.le_of_ble_eq_true rfl, Nat.le_of_ble_eq_true rfl⟩ rfl rfl (Nat.le_of_ble_eq_true rfl) dX7_faultAt_1 ?_
  rcases oi_e hf with ⟨c4, hf⟩ | ⟨c4, hf⟩
  · refine g_if_eq_t (tgt := 9) C dX7_faultAt_4 (by decide) c4 ?_
    refine g_iload_n C dX7_faultAt_9 rfl 1 rfl ?_
    refine g_aload_n C dX7_faultAt_10 rfl 0 rfl ?_
    refine g_get C (s_isSheet hk ad cy _) rfl hin_X7 0 (by decide) hF_X7_11 rfl rfl dX7_faultAt_11 ?_
    rcases oi_e hf with ⟨c5, hf⟩ | ⟨c5, hf⟩
    · refine g_icmp_eq_t (tgt := 19) C dX7_faultAt_14 (by decide) c5 ?_
      refine g_iload_n C dX7_faultAt_19 rfl 2 rfl ?_
      rcases oi_e hf with ⟨c6, hf⟩ | ⟨c6, hf⟩
      · refine g_if_lt_t (tgt := 31) C dX7_faultAt_20 (by decide) c6 ?_
        exact g_sub [] rfl (fX7_faultAt_b31_ok C σ2 hf)
      · refine g_if_lt_f (tgt := 31) C dX7_faultAt_20 (by decide) c6 ?_
        refine g_iload_n C dX7_faultAt_23 rfl 2 rfl ?_
        refine g_aload_n C dX7_faultAt_24 rfl 0 rfl ?_
        refine g_get C (s_isSheet hk ad cy _) rfl hin_X7 1 (by decide) hF_X7_19 rfl rfl dX7_faultAt_25 ?_
        rcases oi_e hf with ⟨c7, hf⟩ | ⟨c7, hf⟩
        · refine g_icmp_lt_t (tgt := 35) C dX7_faultAt_28 (by decide) c7 ?_
          refine g_iconst (v := 0) C dX7_faultAt_35 (by decide) ?_
          obtain ⟨rfl, rfl⟩ := os_e hf
          exact g_iret C rfl dX7_faultAt_36
        · refine g_icmp_lt_f (tgt := 35) C dX7_faultAt_28 (by decide) c7 ?_
          exact g_sub [] rfl (fX7_faultAt_b31_ok C σ2 hf)
    · refine g_icmp_eq_f (tgt := 19) C dX7_faultAt_14 (by decide) c5 ?_
      refine g_iconst (v := 3) C dX7_faultAt_17 (by decide) ?_
      obtain ⟨rfl, rfl⟩ := os_e hf
      exact g_iret C rfl dX7_faultAt_18
  · refine g_if_eq_f (tgt := 9) C dX7_faultAt_4 (by decide) c4 ?_
    refine g_iconst (v := 1) C dX7_faultAt_7 (by decide) ?_
    obtain ⟨rfl, rfl⟩ := os_e hf
    exact g_iret C rfl dX7_faultAt_8
theorem c_X7_faultAt (l : Launch) (dC : Nat → ClassId) (dI : Nat → Nat → Nat) (ad : Nat → Nat) (cy : Nat → ClassId) (k : Nat) (hk : isSheet k) (x1 : Int32) (x2 : Int32) : ConI l yX7_faultAt cX7_faultAt 3 (some .int) rm_X7_faultAt dC dI ad cy [.ref (ad k), .int x1, .int x2] (fun σ => fX7_faultAt σ k x1 x2) := con_i (own := RX7) (by decide) rfl (Nat.le_of_ble_eq_true rfl) (fun _ _ _ _ _ _ _ _ σ _ _ C hf => fX7_faultAt_ok C σ k x1 x2 hk hf)
theorem cal_X7_faultAt : CalV yX7_faultAt RX7 cX7_faultAt 3 (some .int) 2 := ⟨hI_X7_faultAt, hS_X7_faultAt, hIni_X7, hC_X7_faultAt, by decide +kernel⟩
abbrev rm_X7_put : Room := { frames := 0, cells := 0, slots := 0, locals := 0 }
def fX7_put (σ : S0) (k : Nat) (x1 : Int32) (x2 : Int32) : Option (Int32 × S0) := if ¬ (σ k 0) = 0 then (if ¬ (σ k 0) = 1 then (og (¬ (x1 < 0 ∨ 40 ≤ x1.toNatClampNeg)) (ol (su σ (k + 1) x1.toNatClampNeg x2) (fun σ4 => some (0, σ4)))) else (ol x2.toInt16.toInt32 (fun v5 => og (¬ (x1 < 0 ∨ 40 ≤ x1.toNatClampNeg)) (ol (su σ (k + 1) x1.toNatClampNeg v5) (fun σ7 => some (0, σ7)))))) else (ol x2.toInt8.toInt32 (fun v8 => og (¬ (x1 < 0 ∨ 40 ≤ x1.toNatClampNeg)) (ol (su σ (k + 1) x1.toNatClampNeg v8) (fun σ10 => some (0, σ10)))))
set_option maxHeartbeats 1000000 in
set_option maxRecDepth 100000 in
theorem fX7_put_ok {p : Program} {l : Launch} {e : Env} {s : State} {m : MethodId} {args : Array Value} {below : List Frame} {meth : Method} {c : Code} {dC : Nat → ClassId} {dI : Nat → Nat → Nat} {ad : Nat → Nat} {cy : Nat → ClassId} {sz : Nat} (C : Cx p s m args meth c RX7 cX7_put 3 none dC dI ad cy sz) {rr : Int32} {ρ : S0} (σ : S0) (k : Nat) (x1 : Int32) (x2 : Int32) (hk : isSheet k) (hf : fX7_put σ k x1 x2 = some (rr, ρ)) : Gw p l e rm_X7_put s m args below meth c (MQ below (QcV dC dI ad cy sz ρ) args s 0 0 (AW ad sz)) dC dI ad cy 3 sz 0 0 0 [(0, .ref (ad k)), (1, .int x1), (2, .int x2)] [] σ := by
  unfold fX7_put at hf
  refine g_aload_n C dX7_put_0 rfl 0 rfl ?_
  refine g_get C (s_isSheet hk ad cy _) rfl hin_X7 0 (by decide) hF_X7_11 rfl rfl dX7_put_1 ?_
  rcases oi_e hf with ⟨c1, hf⟩ | ⟨c1, hf⟩
  · refine g_if_ne_t (tgt := 18) C dX7_put_4 (by decide) c1 ?_
    refine g_aload_n C dX7_put_18 rfl 0 rfl ?_
    refine g_get C (s_isSheet hk ad cy _) rfl hin_X7 0 (by decide) hF_X7_11 rfl rfl dX7_put_19 ?_
    refine g_iconst (v := 1) C dX7_put_22 (by decide) ?_
    rcases oi_e hf with ⟨c2, hf⟩ | ⟨c2, hf⟩
    · refine g_icmp_ne_t (tgt := 37) C dX7_put_23 (by decide) c2 ?_
      refine g_aload_n C dX7_put_37 rfl 0 rfl ?_
      refine g_get C (s_isSheet hk ad cy _) rfl hin_X7 2 (by decide) hF_X7_15 rfl rfl dX7_put_38 ?_
      refine g_iload_n C dX7_put_41 rfl 1 rfl ?_
      refine g_iload_n C dX7_put_42 rfl 2 rfl ?_
      obtain ⟨h3, hf⟩ := og_e hf
      obtain ⟨σ4, eσ4, hf⟩ := ol_e hf
      refine g_iast C (s_row hk.r1 ad cy _) h3 (ws_row hk.r1 ad cy _) eσ4 dX7_put_43 ?_
      obtain ⟨rfl, rfl⟩ := os_e hf
      exact g_vret C rfl dX7_put_44
    · refine g_icmp_ne_f (tgt := 37) C dX7_put_23 (by decide) (Decidable.of_not_not c2) ?_
      refine g_aload_n C dX7_put_26 rfl 0 rfl ?_
      refine g_get C (s_isSheet hk ad cy _) rfl hin_X7 2 (by decide) hF_X7_15 rfl rfl dX7_put_27 ?_
      refine g_iload_n C dX7_put_30 rfl 1 rfl ?_
      refine g_iload_n C dX7_put_31 rfl 2 rfl ?_
      refine g_i2s C dX7_put_32 ?_
      obtain ⟨v5, ev5, hf⟩ := ol_e hf
      refine g_nm ev5 ?_
      obtain ⟨h6, hf⟩ := og_e hf
      obtain ⟨σ7, eσ7, hf⟩ := ol_e hf
      refine g_iast C (s_row hk.r1 ad cy _) h6 (ws_row hk.r1 ad cy _) eσ7 dX7_put_33 ?_
      refine g_goto (tgt := 44) C dX7_put_34 (by decide) ?_
      obtain ⟨rfl, rfl⟩ := os_e hf
      exact g_vret C rfl dX7_put_44
  · refine g_if_ne_f (tgt := 18) C dX7_put_4 (by decide) (Decidable.of_not_not c1) ?_
    refine g_aload_n C dX7_put_7 rfl 0 rfl ?_
    refine g_get C (s_isSheet hk ad cy _) rfl hin_X7 2 (by decide) hF_X7_15 rfl rfl dX7_put_8 ?_
    refine g_iload_n C dX7_put_11 rfl 1 rfl ?_
    refine g_iload_n C dX7_put_12 rfl 2 rfl ?_
    refine g_i2b C dX7_put_13 ?_
    obtain ⟨v8, ev8, hf⟩ := ol_e hf
    refine g_nm ev8 ?_
    obtain ⟨h9, hf⟩ := og_e hf
    obtain ⟨σ10, eσ10, hf⟩ := ol_e hf
    refine g_iast C (s_row hk.r1 ad cy _) h9 (ws_row hk.r1 ad cy _) eσ10 dX7_put_14 ?_
    refine g_goto (tgt := 44) C dX7_put_15 (by decide) ?_
    obtain ⟨rfl, rfl⟩ := os_e hf
    exact g_vret C rfl dX7_put_44
theorem c_X7_put (l : Launch) (dC : Nat → ClassId) (dI : Nat → Nat → Nat) (ad : Nat → Nat) (cy : Nat → ClassId) (k : Nat) (hk : isSheet k) (x1 : Int32) (x2 : Int32) : ConV l yX7_put cX7_put 3 none rm_X7_put dC dI ad cy [.ref (ad k), .int x1, .int x2] (fun σ => fX7_put σ k x1 x2) := con_v (own := RX7) (by decide) rfl (Nat.le_of_ble_eq_true rfl) (fun _ _ _ _ _ _ _ _ σ _ _ C hf => fX7_put_ok C σ k x1 x2 hk hf)
theorem cal_X7_put : CalV yX7_put RX7 cX7_put 3 none 2 := ⟨hI_X7_put, hS_X7_put, hIni_X7, hC_X7_put, by decide +kernel⟩
abbrev rm_X8_append : Room := { frames := 0, cells := 0, slots := 0, locals := 0 }
def fX8_append_b3 (sf_3 : S0 → Int64 → Int32 → Option (Int32 × S0)) (σ : S0) (x1 : Int64) (x3 : Int32) : Option (Int32 × S0) := if x3 < 0 then (some (0, σ)) else (if (320 : Int32) ≤ (σ 1 1) then (some (0, σ)) else (ol (((x1 >>> (((8 * x3 : Int32)).toInt64 &&& 63)).toInt32).toInt8.toInt32) (fun v3 => ol (σ 1 1) (fun v4 => og (¬ (v4 < 0 ∨ 320 ≤ v4.toNatClampNeg)) (ol (su σ 2 v4.toNatClampNeg (vp_nar .byte v3)) (fun σ6 => ol ((σ6 1 1) + 1) (fun v7 => ol (su σ6 1 1 v7) (fun σ8 => ol (x3 + (-1)) (fun v9 => sf_3 σ8 x1 v9)))))))))
set_option maxHeartbeats 1000000 in
set_option maxRecDepth 100000 in
theorem fX8_append_b3_ok {p : Program} {l : Launch} {e : Env} {s : State} {m : MethodId} {args : Array Value} {below : List Frame} {meth : Method} {c : Code} {dC : Nat → ClassId} {dI : Nat → Nat → Nat} {ad : Nat → Nat} {cy : Nat → ClassId} {sz : Nat} (C : Cx p s m args meth c RX8 cX8_append 4 none dC dI ad cy sz) {rr : Int32} {ρ : S0} (sf_3 : S0 → Int64 → Int32 → Option (Int32 × S0)) (hs_3 : ∀ (σ : S0) (x1 : Int64) (x3 : Int32) , sf_3 σ x1 x3 = some (rr, ρ) → Gw p l e rm_X8_append s m args below meth c (MQ below (QcV dC dI ad cy sz ρ) args s 0 0 (AW ad sz)) dC dI ad cy 4 sz 0 0 3 [(0, .ref (ad 1)), (1, .long x1), (3, .int x3)] [] σ) (σ : S0) (x1 : Int64) (x3 : Int32)  (hf : fX8_append_b3 sf_3 σ x1 x3 = some (rr, ρ)) : Gw p l e rm_X8_append s m args below meth c (MQ below (QcV dC dI ad cy sz ρ) args s 0 0 (AW ad sz)) dC dI ad cy 4 sz 0 0 3 [(0, .ref (ad 1)), (1, .long x1), (3, .int x3)] [] σ := by
  unfold fX8_append_b3 at hf
  refine g_iload_n C dX8_append_3 rfl 2 rfl ?_
  rcases oi_e hf with ⟨c1, hf⟩ | ⟨c1, hf⟩
  · refine g_if_lt_t (tgt := 50) C dX8_append_4 (by decide) c1 ?_
    obtain ⟨rfl, rfl⟩ := os_e hf
    exact g_vret C rfl dX8_append_50
  · refine g_if_lt_f (tgt := 50) C dX8_append_4 (by decide) c1 ?_
    refine g_aload_n C dX8_append_7 rfl 0 rfl ?_
    refine g_get C (a_1 ad cy _) rfl hin_X8 1 (by decide) hF_X8_15 rfl rfl dX8_append_8 ?_
    refine g_sipush (v := 320) C dX8_append_11 (by decide) ?_
    rcases oi_e hf with ⟨c2, hf⟩ | ⟨c2, hf⟩
    · refine g_icmp_ge_t (tgt := 50) C dX8_append_14 (by decide) c2 ?_
      obtain ⟨rfl, rfl⟩ := os_e hf
      exact g_vret C rfl dX8_append_50
    · refine g_icmp_ge_f (tgt := 50) C dX8_append_14 (by decide) c2 ?_
      refine g_aload_n C dX8_append_17 rfl 0 rfl ?_
      refine g_get C (a_1 ad cy _) rfl hin_X8 0 (by decide) hF_X8_9 rfl rfl dX8_append_18 ?_
      refine g_aload_n C dX8_append_21 rfl 0 rfl ?_
      refine g_get C (a_1 ad cy _) rfl hin_X8 1 (by decide) hF_X8_15 rfl rfl dX8_append_22 ?_
      refine g_lload_n C dX8_append_25 rfl 1 rfl ?_
      refine g_bipush (v := 8) C dX8_append_26 (by decide) ?_
      refine g_iload_n C dX8_append_28 rfl 2 rfl ?_
      refine g_imul C dX8_append_29 ?_
      refine g_lshr C dX8_append_30 ?_
      refine g_l2i C dX8_append_31 ?_
      refine g_i2b C dX8_append_32 ?_
      obtain ⟨v3, ev3, hf⟩ := ol_e hf
      refine g_nm ev3 ?_
      obtain ⟨v4, ev4, hf⟩ := ol_e hf
      refine g_nm2 ev4 ?_
      obtain ⟨h5, hf⟩ := og_e hf
      obtain ⟨σ6, eσ6, hf⟩ := ol_e hf
      refine g_bast C (a_2 ad cy _) h5 (w_2 ad cy _) eσ6 dX8_append_33 ?_
      refine g_aload_n C dX8_append_34 rfl 0 rfl ?_
      refine g_dup C dX8_append_35 rfl ?_
      refine g_get C (a_1 ad cy _) rfl hin_X8 1 (by decide) hF_X8_15 rfl rfl dX8_append_36 ?_
      refine g_iconst (v := 1) C dX8_append_39 (by decide) ?_
      refine g_iadd C dX8_append_40 ?_
      obtain ⟨v7, ev7, hf⟩ := ol_e hf
      refine g_nm ev7 ?_
      obtain ⟨σ8, eσ8, hf⟩ := ol_e hf
      refine g_put (ty := .int) C (a_1 ad cy _) rfl hin_X8 tyX8 tyX8_ok nmX8 1 (by decide) hF_X8_15 rfl rfl (by decide +kernel) rfl rfl (Nat.le_of_ble_eq_true rfl) (p_1_1 ad cy _ _) eσ8 dX8_append_41 ?_
      obtain ⟨v9, ev9, hf⟩ := ol_e hf
      refine g_iinc (j := 2) (w := (-1)) (lv2 := [(0, .ref (ad 1)), (1, .long x1), (3, .int v9)]) C dX8_append_44 rfl (by decide) ev9 (by decide) [1, 2, 0] rfl ?_
      refine g_goto (tgt := 3) C dX8_append_47 (by decide) ?_
      exact g_sub [0, 1, 2] rfl (hs_3 σ8 x1 v9 hf)
def fX8_append_h3  : Nat → S0 → Int64 → Int32 → Option (Int32 × S0)
  | 0 => fun _ _ _ => none
  | n + 1 => fun σ x1 x3 => fX8_append_b3  (fX8_append_h3  n) σ x1 x3
set_option maxHeartbeats 1000000 in
set_option maxRecDepth 100000 in
theorem fX8_append_h3_ok {p : Program} {l : Launch} {e : Env} {s : State} {m : MethodId} {args : Array Value} {below : List Frame} {meth : Method} {c : Code} {dC : Nat → ClassId} {dI : Nat → Nat → Nat} {ad : Nat → Nat} {cy : Nat → ClassId} {sz : Nat} (C : Cx p s m args meth c RX8 cX8_append 4 none dC dI ad cy sz) {rr : Int32} {ρ : S0}  : ∀ (n : Nat) (σ : S0) (x1 : Int64) (x3 : Int32)  (_hf : fX8_append_h3  n σ x1 x3 = some (rr, ρ)), Gw p l e rm_X8_append s m args below meth c (MQ below (QcV dC dI ad cy sz ρ) args s 0 0 (AW ad sz)) dC dI ad cy 4 sz 0 0 3 [(0, .ref (ad 1)), (1, .long x1), (3, .int x3)] [] σ
  | 0, _, _, _, hf => by cases hf
  | n + 1, σ, x1, x3, hf => fX8_append_b3_ok C  (fX8_append_h3  n) (fX8_append_h3_ok C  n) σ x1 x3 hf
def fX8_append (σ : S0) (x1 : Int64) : Option (Int32 × S0) := fX8_append_h3 400 σ x1 7
set_option maxHeartbeats 1000000 in
set_option maxRecDepth 100000 in
theorem fX8_append_ok {p : Program} {l : Launch} {e : Env} {s : State} {m : MethodId} {args : Array Value} {below : List Frame} {meth : Method} {c : Code} {dC : Nat → ClassId} {dI : Nat → Nat → Nat} {ad : Nat → Nat} {cy : Nat → ClassId} {sz : Nat} (C : Cx p s m args meth c RX8 cX8_append 4 none dC dI ad cy sz) {rr : Int32} {ρ : S0} (σ : S0) (x1 : Int64)  (hf : fX8_append σ x1 = some (rr, ρ)) : Gw p l e rm_X8_append s m args below meth c (MQ below (QcV dC dI ad cy sz ρ) args s 0 0 (AW ad sz)) dC dI ad cy 4 sz 0 0 0 [(0, .ref (ad 1)), (1, .long x1)] [] σ := by
  unfold fX8_append at hf
  refine g_bipush (v := 7) C dX8_append_0 (by decide) ?_
  refine g_istore_n (lv2 := [(0, .ref (ad 1)), (1, .long x1), (3, .int 7)]) C dX8_append_2 rfl (by decide) [1, 2, 0] rfl ?_
  exact g_sub [0, 1, 2] rfl (fX8_append_h3_ok C 400 σ x1 7 hf)
theorem c_X8_append (l : Launch) (dC : Nat → ClassId) (dI : Nat → Nat → Nat) (ad : Nat → Nat) (cy : Nat → ClassId) (x1 : Int64) : ConV l yX8_append cX8_append 4 none rm_X8_append dC dI ad cy [.ref (ad 1), .long x1] (fun σ => fX8_append σ x1) := con_v (own := RX8) (by decide) rfl (Nat.le_of_ble_eq_true rfl) (fun _ _ _ _ _ _ _ _ σ _ _ C hf => fX8_append_ok C σ x1 hf)
theorem cal_X8_append : CalV yX8_append RX8 cX8_append 4 none 1 := ⟨hI_X8_append, hS_X8_append, hIni_X8, hC_X8_append, by decide +kernel⟩
abbrev rm_X8_rewind : Room := { frames := 0, cells := 0, slots := 0, locals := 0 }
def fX8_rewind (σ : S0)  : Option (Int32 × S0) := ol (su σ 1 2 0) (fun σ1 => some (0, σ1))
set_option maxHeartbeats 1000000 in
set_option maxRecDepth 100000 in
theorem fX8_rewind_ok {p : Program} {l : Launch} {e : Env} {s : State} {m : MethodId} {args : Array Value} {below : List Frame} {meth : Method} {c : Code} {dC : Nat → ClassId} {dI : Nat → Nat → Nat} {ad : Nat → Nat} {cy : Nat → ClassId} {sz : Nat} (C : Cx p s m args meth c RX8 cX8_rewind 1 none dC dI ad cy sz) {rr : Int32} {ρ : S0} (σ : S0)   (hf : fX8_rewind σ = some (rr, ρ)) : Gw p l e rm_X8_rewind s m args below meth c (MQ below (QcV dC dI ad cy sz ρ) args s 0 0 (AW ad sz)) dC dI ad cy 1 sz 0 0 0 [(0, .ref (ad 1))] [] σ := by
  unfold fX8_rewind at hf
  refine g_aload_n C dX8_rewind_0 rfl 0 rfl ?_
  refine g_iconst (v := 0) C dX8_rewind_1 (by decide) ?_
  obtain ⟨σ1, eσ1, hf⟩ := ol_e hf
  refine g_put (ty := .int) C (a_1 ad cy _) rfl hin_X8 tyX8 tyX8_ok nmX8 2 (by decide) hF_X8_19 rfl rfl (by decide +kernel) rfl rfl (Nat.le_of_ble_eq_true rfl) (p_1_2 ad cy _ _) eσ1 dX8_rewind_2 ?_
  obtain ⟨rfl, rfl⟩ := os_e hf
  exact g_vret C rfl dX8_rewind_5
theorem c_X8_rewind (l : Launch) (dC : Nat → ClassId) (dI : Nat → Nat → Nat) (ad : Nat → Nat) (cy : Nat → ClassId)  : ConV l yX8_rewind cX8_rewind 1 none rm_X8_rewind dC dI ad cy [.ref (ad 1)] (fun σ => fX8_rewind σ) := con_v (own := RX8) (by decide) rfl (Nat.le_of_ble_eq_true rfl) (fun _ _ _ _ _ _ _ _ σ _ _ C hf => fX8_rewind_ok C σ  hf)
theorem cal_X8_rewind : CalV yX8_rewind RX8 cX8_rewind 1 none 0 := ⟨hI_X8_rewind, hS_X8_rewind, hIni_X8, hC_X8_rewind, by decide +kernel⟩
abbrev rm_X8_readToken : Room := { frames := 0, cells := 0, slots := 0, locals := 0 }
def fX8_readToken_b226  (σ : S0) (t0 : Int32) : Option (Int32 × S0) := ol (su σ 1 3 t0) (fun σ1 => some (0, σ1))
set_option maxHeartbeats 1000000 in
set_option maxRecDepth 100000 in
theorem fX8_readToken_b226_ok {p : Program} {l : Launch} {e : Env} {s : State} {m : MethodId} {args : Array Value} {below : List Frame} {meth : Method} {c : Code} {dC : Nat → ClassId} {dI : Nat → Nat → Nat} {ad : Nat → Nat} {cy : Nat → ClassId} {sz : Nat} (C : Cx p s m args meth c RX8 cX8_readToken 1 none dC dI ad cy sz) {rr : Int32} {ρ : S0}  (σ : S0) (t0 : Int32)  (hf : fX8_readToken_b226 σ t0 = some (rr, ρ)) : Gw p l e rm_X8_readToken s m args below meth c (MQ below (QcV dC dI ad cy sz ρ) args s 0 0 (AW ad sz)) dC dI ad cy 1 sz 0 0 226 [] [.int t0, .ref (ad 1)] σ := by
  unfold fX8_readToken_b226 at hf
  obtain ⟨σ1, eσ1, hf⟩ := ol_e hf
  refine g_put (ty := .int) C (a_1 ad cy _) rfl hin_X8 tyX8 tyX8_ok nmX8 3 (by decide) hF_X8_28 rfl rfl (by decide +kernel) rfl rfl (Nat.le_of_ble_eq_true rfl) (p_1_3 ad cy _ _) eσ1 dX8_readToken_226 ?_
  obtain ⟨rfl, rfl⟩ := os_e hf
  exact g_vret C rfl dX8_readToken_229
def fX8_readToken_b267  (σ : S0) (t0 : Int32) : Option (Int32 × S0) := ol (su σ 1 3 t0) (fun σ1 => ol ((σ1 1 2) + 1) (fun v2 => ol (su σ1 1 2 v2) (fun σ3 => some (0, σ3))))
set_option maxHeartbeats 1000000 in
set_option maxRecDepth 100000 in
theorem fX8_readToken_b267_ok {p : Program} {l : Launch} {e : Env} {s : State} {m : MethodId} {args : Array Value} {below : List Frame} {meth : Method} {c : Code} {dC : Nat → ClassId} {dI : Nat → Nat → Nat} {ad : Nat → Nat} {cy : Nat → ClassId} {sz : Nat} (C : Cx p s m args meth c RX8 cX8_readToken 1 none dC dI ad cy sz) {rr : Int32} {ρ : S0}  (σ : S0) (t0 : Int32)  (hf : fX8_readToken_b267 σ t0 = some (rr, ρ)) : Gw p l e rm_X8_readToken s m args below meth c (MQ below (QcV dC dI ad cy sz ρ) args s 0 0 (AW ad sz)) dC dI ad cy 1 sz 0 0 267 [(0, .ref (ad 1))] [.int t0, .ref (ad 1)] σ := by
  unfold fX8_readToken_b267 at hf
  obtain ⟨σ1, eσ1, hf⟩ := ol_e hf
  refine g_put (ty := .int) C (a_1 ad cy _) rfl hin_X8 tyX8 tyX8_ok nmX8 3 (by decide) hF_X8_28 rfl rfl (by decide +kernel) rfl rfl (Nat.le_of_ble_eq_true rfl) (p_1_3 ad cy _ _) eσ1 dX8_readToken_267 ?_
  refine g_aload_n C dX8_readToken_270 rfl 0 rfl ?_
  refine g_dup C dX8_readToken_271 rfl ?_
  refine g_get C (a_1 ad cy _) rfl hin_X8 2 (by decide) hF_X8_19 rfl rfl dX8_readToken_272 ?_
  refine g_iconst (v := 1) C dX8_readToken_275 (by decide) ?_
  refine g_iadd C dX8_readToken_276 ?_
  obtain ⟨v2, ev2, hf⟩ := ol_e hf
  refine g_nm ev2 ?_
  obtain ⟨σ3, eσ3, hf⟩ := ol_e hf
  refine g_put (ty := .int) C (a_1 ad cy _) rfl hin_X8 tyX8 tyX8_ok nmX8 2 (by decide) hF_X8_19 rfl rfl (by decide +kernel) rfl rfl (Nat.le_of_ble_eq_true rfl) (p_1_2 ad cy _ _) eσ3 dX8_readToken_277 ?_
  obtain ⟨rfl, rfl⟩ := os_e hf
  exact g_vret C rfl dX8_readToken_280
def fX8_readToken_b196  (σ : S0)  : Option (Int32 × S0) := if (σ 1 2) ≤ (σ 1 4) then (if (σ 1 2) < (σ 1 1) then (ol (σ 1 2) (fun v3 => og (¬ (v3 < 0 ∨ 320 ≤ v3.toNatClampNeg)) (ol (σ 2 v3.toNatClampNeg) (fun v5 => if ¬ v5 = 59 then (fX8_readToken_b267 σ 4) else (fX8_readToken_b267 σ 3))))) else (ol (su σ 1 3 0) (fun σ7 => some (0, σ7)))) else (if ((σ 1 2) - (σ 1 4)) ≤ 2 then (fX8_readToken_b226 σ 2) else (fX8_readToken_b226 σ 4))
set_option maxHeartbeats 1000000 in
set_option maxRecDepth 100000 in
theorem fX8_readToken_b196_ok {p : Program} {l : Launch} {e : Env} {s : State} {m : MethodId} {args : Array Value} {below : List Frame} {meth : Method} {c : Code} {dC : Nat → ClassId} {dI : Nat → Nat → Nat} {ad : Nat → Nat} {cy : Nat → ClassId} {sz : Nat} (C : Cx p s m args meth c RX8 cX8_readToken 1 none dC dI ad cy sz) {rr : Int32} {ρ : S0}  (σ : S0)   (hf : fX8_readToken_b196 σ = some (rr, ρ)) : Gw p l e rm_X8_readToken s m args below meth c (MQ below (QcV dC dI ad cy sz ρ) args s 0 0 (AW ad sz)) dC dI ad cy 1 sz 0 0 196 [(0, .ref (ad 1))] [] σ := by
  unfold fX8_readToken_b196 at hf
  refine g_aload_n C dX8_readToken_196 rfl 0 rfl ?_
  refine g_get C (a_1 ad cy _) rfl hin_X8 2 (by decide) hF_X8_19 rfl rfl dX8_readToken_197 ?_
  refine g_aload_n C dX8_readToken_200 rfl 0 rfl ?_
  refine g_get C (a_1 ad cy _) rfl hin_X8 4 (by decide) hF_X8_22 rfl rfl dX8_readToken_201 ?_
  rcases oi_e hf with ⟨c1, hf⟩ | ⟨c1, hf⟩
  · refine g_icmp_le_t (tgt := 230) C dX8_readToken_204 (by decide) c1 ?_
    refine g_aload_n C dX8_readToken_230 rfl 0 rfl ?_
    refine g_get C (a_1 ad cy _) rfl hin_X8 2 (by decide) hF_X8_19 rfl rfl dX8_readToken_231 ?_
    refine g_aload_n C dX8_readToken_234 rfl 0 rfl ?_
    refine g_get C (a_1 ad cy _) rfl hin_X8 1 (by decide) hF_X8_15 rfl rfl dX8_readToken_235 ?_
    rcases oi_e hf with ⟨c2, hf⟩ | ⟨c2, hf⟩
    · refine g_icmp_lt_t (tgt := 247) C dX8_readToken_238 (by decide) c2 ?_
      refine g_aload_n C dX8_readToken_247 rfl 0 rfl ?_
      refine g_aload_n C dX8_readToken_248 rfl 0 rfl ?_
      refine g_get C (a_1 ad cy _) rfl hin_X8 0 (by decide) hF_X8_9 rfl rfl dX8_readToken_249 ?_
      refine g_aload_n C dX8_readToken_252 rfl 0 rfl ?_
      refine g_get C (a_1 ad cy _) rfl hin_X8 2 (by decide) hF_X8_19 rfl rfl dX8_readToken_253 ?_
      obtain ⟨v3, ev3, hf⟩ := ol_e hf
      refine g_nm ev3 ?_
      obtain ⟨h4, hf⟩ := og_e hf
      refine g_bald C (a_2 ad cy _) h4 dX8_readToken_256 ?_
      obtain ⟨v5, ev5, hf⟩ := ol_e hf
      refine g_nm ev5 ?_
      refine g_bipush (v := 59) C dX8_readToken_257 (by decide) ?_
      rcases oi_e hf with ⟨c6, hf⟩ | ⟨c6, hf⟩
      · refine g_icmp_ne_t (tgt := 266) C dX8_readToken_259 (by decide) c6 ?_
        refine g_iconst (v := 4) C dX8_readToken_266 (by decide) ?_
        exact g_sub [0] rfl (fX8_readToken_b267_ok C σ 4 hf)
      · refine g_icmp_ne_f (tgt := 266) C dX8_readToken_259 (by decide) (Decidable.of_not_not c6) ?_
        refine g_iconst (v := 3) C dX8_readToken_262 (by decide) ?_
        refine g_goto (tgt := 267) C dX8_readToken_263 (by decide) ?_
        exact g_sub [0] rfl (fX8_readToken_b267_ok C σ 3 hf)
    · refine g_icmp_lt_f (tgt := 247) C dX8_readToken_238 (by decide) c2 ?_
      refine g_aload_n C dX8_readToken_241 rfl 0 rfl ?_
      refine g_iconst (v := 0) C dX8_readToken_242 (by decide) ?_
      obtain ⟨σ7, eσ7, hf⟩ := ol_e hf
      refine g_put (ty := .int) C (a_1 ad cy _) rfl hin_X8 tyX8 tyX8_ok nmX8 3 (by decide) hF_X8_28 rfl rfl (by decide +kernel) rfl rfl (Nat.le_of_ble_eq_true rfl) (p_1_3 ad cy _ _) eσ7 dX8_readToken_243 ?_
      obtain ⟨rfl, rfl⟩ := os_e hf
      exact g_vret C rfl dX8_readToken_246
  · refine g_icmp_le_f (tgt := 230) C dX8_readToken_204 (by decide) c1 ?_
    refine g_aload_n C dX8_readToken_207 rfl 0 rfl ?_
    refine g_aload_n C dX8_readToken_208 rfl 0 rfl ?_
    refine g_get C (a_1 ad cy _) rfl hin_X8 2 (by decide) hF_X8_19 rfl rfl dX8_readToken_209 ?_
    refine g_aload_n C dX8_readToken_212 rfl 0 rfl ?_
    refine g_get C (a_1 ad cy _) rfl hin_X8 4 (by decide) hF_X8_22 rfl rfl dX8_readToken_213 ?_
    refine g_isub C dX8_readToken_216 ?_
    refine g_iconst (v := 2) C dX8_readToken_217 (by decide) ?_
    rcases oi_e hf with ⟨c8, hf⟩ | ⟨c8, hf⟩
    · refine g_icmp_le_t (tgt := 225) C dX8_readToken_218 (by decide) c8 ?_
      refine g_iconst (v := 2) C dX8_readToken_225 (by decide) ?_
      exact g_sub [] rfl (fX8_readToken_b226_ok C σ 2 hf)
    · refine g_icmp_le_f (tgt := 225) C dX8_readToken_218 (by decide) c8 ?_
      refine g_iconst (v := 4) C dX8_readToken_221 (by decide) ?_
      refine g_goto (tgt := 226) C dX8_readToken_222 (by decide) ?_
      exact g_sub [] rfl (fX8_readToken_b226_ok C σ 4 hf)
def fX8_readToken_b120 (sf_120 : S0 → Option (Int32 × S0)) (σ : S0)  : Option (Int32 × S0) := if (σ 1 1) ≤ (σ 1 2) then (fX8_readToken_b196 σ) else (ol (σ 1 2) (fun v2 => og (¬ (v2 < 0 ∨ 320 ≤ v2.toNatClampNeg)) (ol (σ 2 v2.toNatClampNeg) (fun v4 => if v4 < 48 then (fX8_readToken_b196 σ) else (ol (σ 1 2) (fun v6 => og (¬ (v6 < 0 ∨ 320 ≤ v6.toNatClampNeg)) (ol (σ 2 v6.toNatClampNeg) (fun v8 => if (57 : Int32) < v8 then (fX8_readToken_b196 σ) else (ol (σ 1 2) (fun v10 => og (¬ (v10 < 0 ∨ 320 ≤ v10.toNatClampNeg)) (ol (σ 2 v10.toNatClampNeg) (fun v12 => ol ((((σ 1 5) * 10) + v12) - 48) (fun v13 => ol (su σ 1 5 v13) (fun σ14 => ol ((σ14 1 2) + 1) (fun v15 => ol (su σ14 1 2 v15) (fun σ16 => sf_120 σ16))))))))))))))))
set_option maxHeartbeats 1000000 in
set_option maxRecDepth 100000 in
theorem fX8_readToken_b120_ok {p : Program} {l : Launch} {e : Env} {s : State} {m : MethodId} {args : Array Value} {below : List Frame} {meth : Method} {c : Code} {dC : Nat → ClassId} {dI : Nat → Nat → Nat} {ad : Nat → Nat} {cy : Nat → ClassId} {sz : Nat} (C : Cx p s m args meth c RX8 cX8_readToken 1 none dC dI ad cy sz) {rr : Int32} {ρ : S0} (sf_120 : S0 → Option (Int32 × S0)) (hs_120 : ∀ (σ : S0)  , sf_120 σ = some (rr, ρ) → Gw p l e rm_X8_readToken s m args below meth c (MQ below (QcV dC dI ad cy sz ρ) args s 0 0 (AW ad sz)) dC dI ad cy 1 sz 0 0 120 [(0, .ref (ad 1))] [] σ) (σ : S0)   (hf : fX8_readToken_b120 sf_120 σ = some (rr, ρ)) : Gw p l e rm_X8_readToken s m args below meth c (MQ below (QcV dC dI ad cy sz ρ) args s 0 0 (AW ad sz)) dC dI ad cy 1 sz 0 0 120 [(0, .ref (ad 1))] [] σ := by
  unfold fX8_readToken_b120 at hf
  refine g_aload_n C dX8_readToken_120 rfl 0 rfl ?_
  refine g_get C (a_1 ad cy _) rfl hin_X8 2 (by decide) hF_X8_19 rfl rfl dX8_readToken_121 ?_
  refine g_aload_n C dX8_readToken_124 rfl 0 rfl ?_
  refine g_get C (a_1 ad cy _) rfl hin_X8 1 (by decide) hF_X8_15 rfl rfl dX8_readToken_125 ?_
  rcases oi_e hf with ⟨c1, hf⟩ | ⟨c1, hf⟩
  · refine g_icmp_ge_t (tgt := 196) C dX8_readToken_128 (by decide) c1 ?_
    exact g_sub [0] rfl (fX8_readToken_b196_ok C σ hf)
  · refine g_icmp_ge_f (tgt := 196) C dX8_readToken_128 (by decide) c1 ?_
    refine g_aload_n C dX8_readToken_131 rfl 0 rfl ?_
    refine g_get C (a_1 ad cy _) rfl hin_X8 0 (by decide) hF_X8_9 rfl rfl dX8_readToken_132 ?_
    refine g_aload_n C dX8_readToken_135 rfl 0 rfl ?_
    refine g_get C (a_1 ad cy _) rfl hin_X8 2 (by decide) hF_X8_19 rfl rfl dX8_readToken_136 ?_
    obtain ⟨v2, ev2, hf⟩ := ol_e hf
    refine g_nm ev2 ?_
    obtain ⟨h3, hf⟩ := og_e hf
    refine g_bald C (a_2 ad cy _) h3 dX8_readToken_139 ?_
    obtain ⟨v4, ev4, hf⟩ := ol_e hf
    refine g_nm ev4 ?_
    refine g_bipush (v := 48) C dX8_readToken_140 (by decide) ?_
    rcases oi_e hf with ⟨c5, hf⟩ | ⟨c5, hf⟩
    · refine g_icmp_lt_t (tgt := 196) C dX8_readToken_142 (by decide) c5 ?_
      exact g_sub [0] rfl (fX8_readToken_b196_ok C σ hf)
    · refine g_icmp_lt_f (tgt := 196) C dX8_readToken_142 (by decide) c5 ?_
      refine g_aload_n C dX8_readToken_145 rfl 0 rfl ?_
      refine g_get C (a_1 ad cy _) rfl hin_X8 0 (by decide) hF_X8_9 rfl rfl dX8_readToken_146 ?_
      refine g_aload_n C dX8_readToken_149 rfl 0 rfl ?_
      refine g_get C (a_1 ad cy _) rfl hin_X8 2 (by decide) hF_X8_19 rfl rfl dX8_readToken_150 ?_
      obtain ⟨v6, ev6, hf⟩ := ol_e hf
      refine g_nm ev6 ?_
      obtain ⟨h7, hf⟩ := og_e hf
      refine g_bald C (a_2 ad cy _) h7 dX8_readToken_153 ?_
      obtain ⟨v8, ev8, hf⟩ := ol_e hf
      refine g_nm ev8 ?_
      refine g_bipush (v := 57) C dX8_readToken_154 (by decide) ?_
      rcases oi_e hf with ⟨c9, hf⟩ | ⟨c9, hf⟩
      · refine g_icmp_gt_t (tgt := 196) C dX8_readToken_156 (by decide) c9 ?_
        exact g_sub [0] rfl (fX8_readToken_b196_ok C σ hf)
      · refine g_icmp_gt_f (tgt := 196) C dX8_readToken_156 (by decide) c9 ?_
        refine g_aload_n C dX8_readToken_159 rfl 0 rfl ?_
        refine g_aload_n C dX8_readToken_160 rfl 0 rfl ?_
        refine g_get C (a_1 ad cy _) rfl hin_X8 5 (by decide) hF_X8_25 rfl rfl dX8_readToken_161 ?_
        refine g_bipush (v := 10) C dX8_readToken_164 (by decide) ?_
        refine g_imul C dX8_readToken_166 ?_
        refine g_aload_n C dX8_readToken_167 rfl 0 rfl ?_
        refine g_get C (a_1 ad cy _) rfl hin_X8 0 (by decide) hF_X8_9 rfl rfl dX8_readToken_168 ?_
        refine g_aload_n C dX8_readToken_171 rfl 0 rfl ?_
        refine g_get C (a_1 ad cy _) rfl hin_X8 2 (by decide) hF_X8_19 rfl rfl dX8_readToken_172 ?_
        obtain ⟨v10, ev10, hf⟩ := ol_e hf
        refine g_nm ev10 ?_
        obtain ⟨h11, hf⟩ := og_e hf
        refine g_bald C (a_2 ad cy _) h11 dX8_readToken_175 ?_
        obtain ⟨v12, ev12, hf⟩ := ol_e hf
        refine g_nm ev12 ?_
        refine g_iadd C dX8_readToken_176 ?_
        refine g_bipush (v := 48) C dX8_readToken_177 (by decide) ?_
        refine g_isub C dX8_readToken_179 ?_
        obtain ⟨v13, ev13, hf⟩ := ol_e hf
        refine g_nm ev13 ?_
        obtain ⟨σ14, eσ14, hf⟩ := ol_e hf
        refine g_put (ty := .int) C (a_1 ad cy _) rfl hin_X8 tyX8 tyX8_ok nmX8 5 (by decide) hF_X8_25 rfl rfl (by decide +kernel) rfl rfl (Nat.le_of_ble_eq_true rfl) (p_1_5 ad cy _ _) eσ14 dX8_readToken_180 ?_
        refine g_aload_n C dX8_readToken_183 rfl 0 rfl ?_
        refine g_dup C dX8_readToken_184 rfl ?_
        refine g_get C (a_1 ad cy _) rfl hin_X8 2 (by decide) hF_X8_19 rfl rfl dX8_readToken_185 ?_
        refine g_iconst (v := 1) C dX8_readToken_188 (by decide) ?_
        refine g_iadd C dX8_readToken_189 ?_
        obtain ⟨v15, ev15, hf⟩ := ol_e hf
        refine g_nm ev15 ?_
        obtain ⟨σ16, eσ16, hf⟩ := ol_e hf
        refine g_put (ty := .int) C (a_1 ad cy _) rfl hin_X8 tyX8 tyX8_ok nmX8 2 (by decide) hF_X8_19 rfl rfl (by decide +kernel) rfl rfl (Nat.le_of_ble_eq_true rfl) (p_1_2 ad cy _ _) eσ16 dX8_readToken_190 ?_
        refine g_goto (tgt := 120) C dX8_readToken_193 (by decide) ?_
        exact g_sub [0] rfl (hs_120 σ16 hf)
def fX8_readToken_h120  : Nat → S0 → Option (Int32 × S0)
  | 0 => fun _ => none
  | n + 1 => fun σ => fX8_readToken_b120  (fX8_readToken_h120  n) σ
set_option maxHeartbeats 1000000 in
set_option maxRecDepth 100000 in
theorem fX8_readToken_h120_ok {p : Program} {l : Launch} {e : Env} {s : State} {m : MethodId} {args : Array Value} {below : List Frame} {meth : Method} {c : Code} {dC : Nat → ClassId} {dI : Nat → Nat → Nat} {ad : Nat → Nat} {cy : Nat → ClassId} {sz : Nat} (C : Cx p s m args meth c RX8 cX8_readToken 1 none dC dI ad cy sz) {rr : Int32} {ρ : S0}  : ∀ (n : Nat) (σ : S0)   (_hf : fX8_readToken_h120  n σ = some (rr, ρ)), Gw p l e rm_X8_readToken s m args below meth c (MQ below (QcV dC dI ad cy sz ρ) args s 0 0 (AW ad sz)) dC dI ad cy 1 sz 0 0 120 [(0, .ref (ad 1))] [] σ
  | 0, _, hf => by cases hf
  | n + 1, σ, hf => fX8_readToken_b120_ok C  (fX8_readToken_h120  n) (fX8_readToken_h120_ok C  n) σ hf
def fX8_readToken_b103  (σ : S0)  : Option (Int32 × S0) := if (σ 1 2) ≤ (σ 1 4) then (fX8_readToken_h120 400 σ) else (ol (su σ 1 3 1) (fun σ2 => some (0, σ2)))
set_option maxHeartbeats 1000000 in
set_option maxRecDepth 100000 in
theorem fX8_readToken_b103_ok {p : Program} {l : Launch} {e : Env} {s : State} {m : MethodId} {args : Array Value} {below : List Frame} {meth : Method} {c : Code} {dC : Nat → ClassId} {dI : Nat → Nat → Nat} {ad : Nat → Nat} {cy : Nat → ClassId} {sz : Nat} (C : Cx p s m args meth c RX8 cX8_readToken 1 none dC dI ad cy sz) {rr : Int32} {ρ : S0}  (σ : S0)   (hf : fX8_readToken_b103 σ = some (rr, ρ)) : Gw p l e rm_X8_readToken s m args below meth c (MQ below (QcV dC dI ad cy sz ρ) args s 0 0 (AW ad sz)) dC dI ad cy 1 sz 0 0 103 [(0, .ref (ad 1))] [] σ := by
  unfold fX8_readToken_b103 at hf
  refine g_aload_n C dX8_readToken_103 rfl 0 rfl ?_
  refine g_get C (a_1 ad cy _) rfl hin_X8 2 (by decide) hF_X8_19 rfl rfl dX8_readToken_104 ?_
  refine g_aload_n C dX8_readToken_107 rfl 0 rfl ?_
  refine g_get C (a_1 ad cy _) rfl hin_X8 4 (by decide) hF_X8_22 rfl rfl dX8_readToken_108 ?_
  rcases oi_e hf with ⟨c1, hf⟩ | ⟨c1, hf⟩
  · refine g_icmp_le_t (tgt := 120) C dX8_readToken_111 (by decide) c1 ?_
    exact g_sub [0] rfl (fX8_readToken_h120_ok C 400 σ hf)
  · refine g_icmp_le_f (tgt := 120) C dX8_readToken_111 (by decide) c1 ?_
    refine g_aload_n C dX8_readToken_114 rfl 0 rfl ?_
    refine g_iconst (v := 1) C dX8_readToken_115 (by decide) ?_
    obtain ⟨σ2, eσ2, hf⟩ := ol_e hf
    refine g_put (ty := .int) C (a_1 ad cy _) rfl hin_X8 tyX8 tyX8_ok nmX8 3 (by decide) hF_X8_28 rfl rfl (by decide +kernel) rfl rfl (Nat.le_of_ble_eq_true rfl) (p_1_3 ad cy _ _) eσ2 dX8_readToken_116 ?_
    obtain ⟨rfl, rfl⟩ := os_e hf
    exact g_vret C rfl dX8_readToken_119
def fX8_readToken_b51 (sf_51 : S0 → Option (Int32 × S0)) (σ : S0)  : Option (Int32 × S0) := if (σ 1 1) ≤ (σ 1 2) then (fX8_readToken_b103 σ) else (ol (σ 1 2) (fun v2 => og (¬ (v2 < 0 ∨ 320 ≤ v2.toNatClampNeg)) (ol (σ 2 v2.toNatClampNeg) (fun v4 => if v4 < 97 then (fX8_readToken_b103 σ) else (ol (σ 1 2) (fun v6 => og (¬ (v6 < 0 ∨ 320 ≤ v6.toNatClampNeg)) (ol (σ 2 v6.toNatClampNeg) (fun v8 => if (122 : Int32) < v8 then (fX8_readToken_b103 σ) else (ol ((σ 1 2) + 1) (fun v10 => ol (su σ 1 2 v10) (fun σ11 => sf_51 σ11)))))))))))
set_option maxHeartbeats 1000000 in
set_option maxRecDepth 100000 in
theorem fX8_readToken_b51_ok {p : Program} {l : Launch} {e : Env} {s : State} {m : MethodId} {args : Array Value} {below : List Frame} {meth : Method} {c : Code} {dC : Nat → ClassId} {dI : Nat → Nat → Nat} {ad : Nat → Nat} {cy : Nat → ClassId} {sz : Nat} (C : Cx p s m args meth c RX8 cX8_readToken 1 none dC dI ad cy sz) {rr : Int32} {ρ : S0} (sf_51 : S0 → Option (Int32 × S0)) (hs_51 : ∀ (σ : S0)  , sf_51 σ = some (rr, ρ) → Gw p l e rm_X8_readToken s m args below meth c (MQ below (QcV dC dI ad cy sz ρ) args s 0 0 (AW ad sz)) dC dI ad cy 1 sz 0 0 51 [(0, .ref (ad 1))] [] σ) (σ : S0)   (hf : fX8_readToken_b51 sf_51 σ = some (rr, ρ)) : Gw p l e rm_X8_readToken s m args below meth c (MQ below (QcV dC dI ad cy sz ρ) args s 0 0 (AW ad sz)) dC dI ad cy 1 sz 0 0 51 [(0, .ref (ad 1))] [] σ := by
  unfold fX8_readToken_b51 at hf
  refine g_aload_n C dX8_readToken_51 rfl 0 rfl ?_
  refine g_get C (a_1 ad cy _) rfl hin_X8 2 (by decide) hF_X8_19 rfl rfl dX8_readToken_52 ?_
  refine g_aload_n C dX8_readToken_55 rfl 0 rfl ?_
  refine g_get C (a_1 ad cy _) rfl hin_X8 1 (by decide) hF_X8_15 rfl rfl dX8_readToken_56 ?_
  rcases oi_e hf with ⟨c1, hf⟩ | ⟨c1, hf⟩
  · refine g_icmp_ge_t (tgt := 103) C dX8_readToken_59 (by decide) c1 ?_
    exact g_sub [0] rfl (fX8_readToken_b103_ok C σ hf)
  · refine g_icmp_ge_f (tgt := 103) C dX8_readToken_59 (by decide) c1 ?_
    refine g_aload_n C dX8_readToken_62 rfl 0 rfl ?_
    refine g_get C (a_1 ad cy _) rfl hin_X8 0 (by decide) hF_X8_9 rfl rfl dX8_readToken_63 ?_
    refine g_aload_n C dX8_readToken_66 rfl 0 rfl ?_
    refine g_get C (a_1 ad cy _) rfl hin_X8 2 (by decide) hF_X8_19 rfl rfl dX8_readToken_67 ?_
    obtain ⟨v2, ev2, hf⟩ := ol_e hf
    refine g_nm ev2 ?_
    obtain ⟨h3, hf⟩ := og_e hf
    refine g_bald C (a_2 ad cy _) h3 dX8_readToken_70 ?_
    obtain ⟨v4, ev4, hf⟩ := ol_e hf
    refine g_nm ev4 ?_
    refine g_bipush (v := 97) C dX8_readToken_71 (by decide) ?_
    rcases oi_e hf with ⟨c5, hf⟩ | ⟨c5, hf⟩
    · refine g_icmp_lt_t (tgt := 103) C dX8_readToken_73 (by decide) c5 ?_
      exact g_sub [0] rfl (fX8_readToken_b103_ok C σ hf)
    · refine g_icmp_lt_f (tgt := 103) C dX8_readToken_73 (by decide) c5 ?_
      refine g_aload_n C dX8_readToken_76 rfl 0 rfl ?_
      refine g_get C (a_1 ad cy _) rfl hin_X8 0 (by decide) hF_X8_9 rfl rfl dX8_readToken_77 ?_
      refine g_aload_n C dX8_readToken_80 rfl 0 rfl ?_
      refine g_get C (a_1 ad cy _) rfl hin_X8 2 (by decide) hF_X8_19 rfl rfl dX8_readToken_81 ?_
      obtain ⟨v6, ev6, hf⟩ := ol_e hf
      refine g_nm ev6 ?_
      obtain ⟨h7, hf⟩ := og_e hf
      refine g_bald C (a_2 ad cy _) h7 dX8_readToken_84 ?_
      obtain ⟨v8, ev8, hf⟩ := ol_e hf
      refine g_nm ev8 ?_
      refine g_bipush (v := 122) C dX8_readToken_85 (by decide) ?_
      rcases oi_e hf with ⟨c9, hf⟩ | ⟨c9, hf⟩
      · refine g_icmp_gt_t (tgt := 103) C dX8_readToken_87 (by decide) c9 ?_
        exact g_sub [0] rfl (fX8_readToken_b103_ok C σ hf)
      · refine g_icmp_gt_f (tgt := 103) C dX8_readToken_87 (by decide) c9 ?_
        refine g_aload_n C dX8_readToken_90 rfl 0 rfl ?_
        refine g_dup C dX8_readToken_91 rfl ?_
        refine g_get C (a_1 ad cy _) rfl hin_X8 2 (by decide) hF_X8_19 rfl rfl dX8_readToken_92 ?_
        refine g_iconst (v := 1) C dX8_readToken_95 (by decide) ?_
        refine g_iadd C dX8_readToken_96 ?_
        obtain ⟨v10, ev10, hf⟩ := ol_e hf
        refine g_nm ev10 ?_
        obtain ⟨σ11, eσ11, hf⟩ := ol_e hf
        refine g_put (ty := .int) C (a_1 ad cy _) rfl hin_X8 tyX8 tyX8_ok nmX8 2 (by decide) hF_X8_19 rfl rfl (by decide +kernel) rfl rfl (Nat.le_of_ble_eq_true rfl) (p_1_2 ad cy _ _) eσ11 dX8_readToken_97 ?_
        refine g_goto (tgt := 51) C dX8_readToken_100 (by decide) ?_
        exact g_sub [0] rfl (hs_51 σ11 hf)
def fX8_readToken_h51  : Nat → S0 → Option (Int32 × S0)
  | 0 => fun _ => none
  | n + 1 => fun σ => fX8_readToken_b51  (fX8_readToken_h51  n) σ
set_option maxHeartbeats 1000000 in
set_option maxRecDepth 100000 in
theorem fX8_readToken_h51_ok {p : Program} {l : Launch} {e : Env} {s : State} {m : MethodId} {args : Array Value} {below : List Frame} {meth : Method} {c : Code} {dC : Nat → ClassId} {dI : Nat → Nat → Nat} {ad : Nat → Nat} {cy : Nat → ClassId} {sz : Nat} (C : Cx p s m args meth c RX8 cX8_readToken 1 none dC dI ad cy sz) {rr : Int32} {ρ : S0}  : ∀ (n : Nat) (σ : S0)   (_hf : fX8_readToken_h51  n σ = some (rr, ρ)), Gw p l e rm_X8_readToken s m args below meth c (MQ below (QcV dC dI ad cy sz ρ) args s 0 0 (AW ad sz)) dC dI ad cy 1 sz 0 0 51 [(0, .ref (ad 1))] [] σ
  | 0, _, hf => by cases hf
  | n + 1, σ, hf => fX8_readToken_b51_ok C  (fX8_readToken_h51  n) (fX8_readToken_h51_ok C  n) σ hf
def fX8_readToken_b38  (σ : S0)  : Option (Int32 × S0) := ol (σ 1 2) (fun v1 => ol (su σ 1 4 v1) (fun σ2 => ol (su σ2 1 5 0) (fun σ3 => fX8_readToken_h51 400 σ3)))
set_option maxHeartbeats 1000000 in
set_option maxRecDepth 100000 in
theorem fX8_readToken_b38_ok {p : Program} {l : Launch} {e : Env} {s : State} {m : MethodId} {args : Array Value} {below : List Frame} {meth : Method} {c : Code} {dC : Nat → ClassId} {dI : Nat → Nat → Nat} {ad : Nat → Nat} {cy : Nat → ClassId} {sz : Nat} (C : Cx p s m args meth c RX8 cX8_readToken 1 none dC dI ad cy sz) {rr : Int32} {ρ : S0}  (σ : S0)   (hf : fX8_readToken_b38 σ = some (rr, ρ)) : Gw p l e rm_X8_readToken s m args below meth c (MQ below (QcV dC dI ad cy sz ρ) args s 0 0 (AW ad sz)) dC dI ad cy 1 sz 0 0 38 [(0, .ref (ad 1))] [] σ := by
  unfold fX8_readToken_b38 at hf
  refine g_aload_n C dX8_readToken_38 rfl 0 rfl ?_
  refine g_aload_n C dX8_readToken_39 rfl 0 rfl ?_
  refine g_get C (a_1 ad cy _) rfl hin_X8 2 (by decide) hF_X8_19 rfl rfl dX8_readToken_40 ?_
  obtain ⟨v1, ev1, hf⟩ := ol_e hf
  refine g_nm ev1 ?_
  obtain ⟨σ2, eσ2, hf⟩ := ol_e hf
  refine g_put (ty := .int) C (a_1 ad cy _) rfl hin_X8 tyX8 tyX8_ok nmX8 4 (by decide) hF_X8_22 rfl rfl (by decide +kernel) rfl rfl (Nat.le_of_ble_eq_true rfl) (p_1_4 ad cy _ _) eσ2 dX8_readToken_43 ?_
  refine g_aload_n C dX8_readToken_46 rfl 0 rfl ?_
  refine g_iconst (v := 0) C dX8_readToken_47 (by decide) ?_
  obtain ⟨σ3, eσ3, hf⟩ := ol_e hf
  refine g_put (ty := .int) C (a_1 ad cy _) rfl hin_X8 tyX8 tyX8_ok nmX8 5 (by decide) hF_X8_25 rfl rfl (by decide +kernel) rfl rfl (Nat.le_of_ble_eq_true rfl) (p_1_5 ad cy _ _) eσ3 dX8_readToken_48 ?_
  exact g_sub [0] rfl (fX8_readToken_h51_ok C 400 σ3 hf)
def fX8_readToken_b0 (sf_0 : S0 → Option (Int32 × S0)) (σ : S0)  : Option (Int32 × S0) := if (σ 1 1) ≤ (σ 1 2) then (fX8_readToken_b38 σ) else (ol (σ 1 2) (fun v2 => og (¬ (v2 < 0 ∨ 320 ≤ v2.toNatClampNeg)) (ol (σ 2 v2.toNatClampNeg) (fun v4 => if ¬ v4 = 32 then (fX8_readToken_b38 σ) else (ol ((σ 1 2) + 1) (fun v6 => ol (su σ 1 2 v6) (fun σ7 => sf_0 σ7)))))))
set_option maxHeartbeats 1000000 in
set_option maxRecDepth 100000 in
theorem fX8_readToken_b0_ok {p : Program} {l : Launch} {e : Env} {s : State} {m : MethodId} {args : Array Value} {below : List Frame} {meth : Method} {c : Code} {dC : Nat → ClassId} {dI : Nat → Nat → Nat} {ad : Nat → Nat} {cy : Nat → ClassId} {sz : Nat} (C : Cx p s m args meth c RX8 cX8_readToken 1 none dC dI ad cy sz) {rr : Int32} {ρ : S0} (sf_0 : S0 → Option (Int32 × S0)) (hs_0 : ∀ (σ : S0)  , sf_0 σ = some (rr, ρ) → Gw p l e rm_X8_readToken s m args below meth c (MQ below (QcV dC dI ad cy sz ρ) args s 0 0 (AW ad sz)) dC dI ad cy 1 sz 0 0 0 [(0, .ref (ad 1))] [] σ) (σ : S0)   (hf : fX8_readToken_b0 sf_0 σ = some (rr, ρ)) : Gw p l e rm_X8_readToken s m args below meth c (MQ below (QcV dC dI ad cy sz ρ) args s 0 0 (AW ad sz)) dC dI ad cy 1 sz 0 0 0 [(0, .ref (ad 1))] [] σ := by
  unfold fX8_readToken_b0 at hf
  refine g_aload_n C dX8_readToken_0 rfl 0 rfl ?_
  refine g_get C (a_1 ad cy _) rfl hin_X8 2 (by decide) hF_X8_19 rfl rfl dX8_readToken_1 ?_
  refine g_aload_n C dX8_readToken_4 rfl 0 rfl ?_
  refine g_get C (a_1 ad cy _) rfl hin_X8 1 (by decide) hF_X8_15 rfl rfl dX8_readToken_5 ?_
  rcases oi_e hf with ⟨c1, hf⟩ | ⟨c1, hf⟩
  · refine g_icmp_ge_t (tgt := 38) C dX8_readToken_8 (by decide) c1 ?_
    exact g_sub [0] rfl (fX8_readToken_b38_ok C σ hf)
  · refine g_icmp_ge_f (tgt := 38) C dX8_readToken_8 (by decide) c1 ?_
    refine g_aload_n C dX8_readToken_11 rfl 0 rfl ?_
    refine g_get C (a_1 ad cy _) rfl hin_X8 0 (by decide) hF_X8_9 rfl rfl dX8_readToken_12 ?_
    refine g_aload_n C dX8_readToken_15 rfl 0 rfl ?_
    refine g_get C (a_1 ad cy _) rfl hin_X8 2 (by decide) hF_X8_19 rfl rfl dX8_readToken_16 ?_
    obtain ⟨v2, ev2, hf⟩ := ol_e hf
    refine g_nm ev2 ?_
    obtain ⟨h3, hf⟩ := og_e hf
    refine g_bald C (a_2 ad cy _) h3 dX8_readToken_19 ?_
    obtain ⟨v4, ev4, hf⟩ := ol_e hf
    refine g_nm ev4 ?_
    refine g_bipush (v := 32) C dX8_readToken_20 (by decide) ?_
    rcases oi_e hf with ⟨c5, hf⟩ | ⟨c5, hf⟩
    · refine g_icmp_ne_t (tgt := 38) C dX8_readToken_22 (by decide) c5 ?_
      exact g_sub [0] rfl (fX8_readToken_b38_ok C σ hf)
    · refine g_icmp_ne_f (tgt := 38) C dX8_readToken_22 (by decide) (Decidable.of_not_not c5) ?_
      refine g_aload_n C dX8_readToken_25 rfl 0 rfl ?_
      refine g_dup C dX8_readToken_26 rfl ?_
      refine g_get C (a_1 ad cy _) rfl hin_X8 2 (by decide) hF_X8_19 rfl rfl dX8_readToken_27 ?_
      refine g_iconst (v := 1) C dX8_readToken_30 (by decide) ?_
      refine g_iadd C dX8_readToken_31 ?_
      obtain ⟨v6, ev6, hf⟩ := ol_e hf
      refine g_nm ev6 ?_
      obtain ⟨σ7, eσ7, hf⟩ := ol_e hf
      refine g_put (ty := .int) C (a_1 ad cy _) rfl hin_X8 tyX8 tyX8_ok nmX8 2 (by decide) hF_X8_19 rfl rfl (by decide +kernel) rfl rfl (Nat.le_of_ble_eq_true rfl) (p_1_2 ad cy _ _) eσ7 dX8_readToken_32 ?_
      refine g_goto (tgt := 0) C dX8_readToken_35 (by decide) ?_
      exact g_sub [0] rfl (hs_0 σ7 hf)
def fX8_readToken_h0  : Nat → S0 → Option (Int32 × S0)
  | 0 => fun _ => none
  | n + 1 => fun σ => fX8_readToken_b0  (fX8_readToken_h0  n) σ
set_option maxHeartbeats 1000000 in
set_option maxRecDepth 100000 in
theorem fX8_readToken_h0_ok {p : Program} {l : Launch} {e : Env} {s : State} {m : MethodId} {args : Array Value} {below : List Frame} {meth : Method} {c : Code} {dC : Nat → ClassId} {dI : Nat → Nat → Nat} {ad : Nat → Nat} {cy : Nat → ClassId} {sz : Nat} (C : Cx p s m args meth c RX8 cX8_readToken 1 none dC dI ad cy sz) {rr : Int32} {ρ : S0}  : ∀ (n : Nat) (σ : S0)   (_hf : fX8_readToken_h0  n σ = some (rr, ρ)), Gw p l e rm_X8_readToken s m args below meth c (MQ below (QcV dC dI ad cy sz ρ) args s 0 0 (AW ad sz)) dC dI ad cy 1 sz 0 0 0 [(0, .ref (ad 1))] [] σ
  | 0, _, hf => by cases hf
  | n + 1, σ, hf => fX8_readToken_b0_ok C  (fX8_readToken_h0  n) (fX8_readToken_h0_ok C  n) σ hf
def fX8_readToken (σ : S0)  : Option (Int32 × S0) := fX8_readToken_h0 400 σ
set_option maxHeartbeats 1000000 in
set_option maxRecDepth 100000 in
theorem fX8_readToken_ok {p : Program} {l : Launch} {e : Env} {s : State} {m : MethodId} {args : Array Value} {below : List Frame} {meth : Method} {c : Code} {dC : Nat → ClassId} {dI : Nat → Nat → Nat} {ad : Nat → Nat} {cy : Nat → ClassId} {sz : Nat} (C : Cx p s m args meth c RX8 cX8_readToken 1 none dC dI ad cy sz) {rr : Int32} {ρ : S0} (σ : S0)   (hf : fX8_readToken σ = some (rr, ρ)) : Gw p l e rm_X8_readToken s m args below meth c (MQ below (QcV dC dI ad cy sz ρ) args s 0 0 (AW ad sz)) dC dI ad cy 1 sz 0 0 0 [(0, .ref (ad 1))] [] σ := by
  unfold fX8_readToken at hf
  exact g_sub [0] rfl (fX8_readToken_h0_ok C 400 σ hf)
theorem c_X8_readToken (l : Launch) (dC : Nat → ClassId) (dI : Nat → Nat → Nat) (ad : Nat → Nat) (cy : Nat → ClassId)  : ConV l yX8_readToken cX8_readToken 1 none rm_X8_readToken dC dI ad cy [.ref (ad 1)] (fun σ => fX8_readToken σ) := con_v (own := RX8) (by decide) rfl (Nat.le_of_ble_eq_true rfl) (fun _ _ _ _ _ _ _ _ σ _ _ C hf => fX8_readToken_ok C σ  hf)
theorem cal_X8_readToken : CalV yX8_readToken RX8 cX8_readToken 1 none 0 := ⟨hI_X8_readToken, hS_X8_readToken, hIni_X8, hC_X8_readToken, by decide +kernel⟩
abbrev rm_X8_isName : Room := { frames := 4, cells := 0, slots := 0, locals := 85 }
def fX8_isName_b28 (sf_28 : S0 → Nat → Int32 → Option (Int32 × S0)) (σ : S0) (i1 : Nat) (x2 : Int32) : Option (Int32 × S0) := obp (fJ0_length_8abf5 σ i1) (fun r1 σ2 => if r1 ≤ x2 then (some (1, σ2)) else (ol ((σ2 1 4) + x2) (fun v5 => og (¬ (v5 < 0 ∨ 320 ≤ v5.toNatClampNeg)) (ol (σ2 2 v5.toNatClampNeg) (fun v7 => obp (fJ0_charAt_5068e σ2 i1 x2) (fun r8 σ9 => if v7 = r8 then (ol (x2 + 1) (fun v12 => sf_28 σ9 i1 v12)) else (some (0, σ9))))))))
set_option maxHeartbeats 1000000 in
set_option maxRecDepth 100000 in
theorem fX8_isName_b28_ok {p : Program} {l : Launch} {e : Env} {s : State} {m : MethodId} {args : Array Value} {below : List Frame} {meth : Method} {c : Code} {dC : Nat → ClassId} {dI : Nat → Nat → Nat} {ad : Nat → Nat} {cy : Nat → ClassId} {sz : Nat} (C : Cx p s m args meth c RX8 cX8_isName 3 (some .boolean) dC dI ad cy sz) {rr : Int32} {ρ : S0} (sf_28 : S0 → Nat → Int32 → Option (Int32 × S0)) (hs_28 : ∀ (σ : S0) (i1 : Nat) (x2 : Int32) (hi1 : isStr i1), sf_28 σ i1 x2 = some (rr, ρ) → Gw p l e rm_X8_isName s m args below meth c (MQ below (QcI dC dI ad cy sz rr ρ) args s 0 0 (AW ad sz)) dC dI ad cy 3 sz 0 0 28 [(0, .ref (ad 1)), (1, .ref (ad (200 + i1))), (2, .int x2)] [] σ) (σ : S0) (i1 : Nat) (x2 : Int32) (hi1 : isStr i1) (hf : fX8_isName_b28 sf_28 σ i1 x2 = some (rr, ρ)) : Gw p l e rm_X8_isName s m args below meth c (MQ below (QcI dC dI ad cy sz rr ρ) args s 0 0 (AW ad sz)) dC dI ad cy 3 sz 0 0 28 [(0, .ref (ad 1)), (1, .ref (ad (200 + i1))), (2, .int x2)] [] σ := by
  unfold fX8_isName_b28 at hf
  refine g_iload_n C dX8_isName_28 rfl 2 rfl ?_
  refine g_aload_n C dX8_isName_29 rfl 1 rfl ?_
  obtain ⟨r1, σ2, h3, hf⟩ := obp_e hf
  refine g_callTi (As := []) (rest := [.int x2]) C hi1 (c_J0_length_8abf5 l dC dI ad cy i1 hi1) h3 hM_X8_31 cal_J0_length_8abf5 ⟨Nat.zero_le _, Nat.zero_le _⟩ ⟨rfl, rfl⟩ ⟨Nat.le_of_ble_eq_true rfl, Nat.le_of_ble_eq_true rfl⟩ rfl rfl (Nat.le_of_ble_eq_true rfl) dX8_isName_30 ?_
  rcases oi_e hf with ⟨c4, hf⟩ | ⟨c4, hf⟩
  · refine g_icmp_ge_t (tgt := 63) C dX8_isName_33 (by decide) c4 ?_
    refine g_iconst (v := 1) C dX8_isName_63 (by decide) ?_
    obtain ⟨rfl, rfl⟩ := os_e hf
    exact g_zret C rfl (by decide) dX8_isName_64
  · refine g_icmp_ge_f (tgt := 63) C dX8_isName_33 (by decide) c4 ?_
    refine g_aload_n C dX8_isName_36 rfl 0 rfl ?_
    refine g_get C (a_1 ad cy _) rfl hin_X8 0 (by decide) hF_X8_9 rfl rfl dX8_isName_37 ?_
    refine g_aload_n C dX8_isName_40 rfl 0 rfl ?_
    refine g_get C (a_1 ad cy _) rfl hin_X8 4 (by decide) hF_X8_22 rfl rfl dX8_isName_41 ?_
    refine g_iload_n C dX8_isName_44 rfl 2 rfl ?_
    refine g_iadd C dX8_isName_45 ?_
    obtain ⟨v5, ev5, hf⟩ := ol_e hf
    refine g_nm ev5 ?_
    obtain ⟨h6, hf⟩ := og_e hf
    refine g_bald C (a_2 ad cy _) h6 dX8_isName_46 ?_
    obtain ⟨v7, ev7, hf⟩ := ol_e hf
    refine g_nm ev7 ?_
    refine g_aload_n C dX8_isName_47 rfl 1 rfl ?_
    refine g_iload_n C dX8_isName_48 rfl 2 rfl ?_
    obtain ⟨r8, σ9, h10, hf⟩ := obp_e hf
    refine g_callTi (As := [.int x2]) (rest := [.int v7]) C hi1 (c_J0_charAt_5068e l dC dI ad cy i1 hi1 x2) h10 hM_X8_36 cal_J0_charAt_5068e ⟨Nat.zero_le _, Nat.zero_le _⟩ ⟨rfl, rfl⟩ ⟨Nat.le_of_ble_eq_true rfl, Nat.le_of_ble_eq_true rfl⟩ rfl rfl (Nat.le_of_ble_eq_true rfl) dX8_isName_49 ?_
    rcases oi_e hf with ⟨c11, hf⟩ | ⟨c11, hf⟩
    · refine g_icmp_eq_t (tgt := 57) C dX8_isName_52 (by decide) c11 ?_
      obtain ⟨v12, ev12, hf⟩ := ol_e hf
      refine g_iinc (j := 2) (w := 1) (lv2 := [(0, .ref (ad 1)), (1, .ref (ad (200 + i1))), (2, .int v12)]) C dX8_isName_57 rfl (by decide) ev12 (by decide) [1, 2, 0] rfl ?_
      refine g_goto (tgt := 28) C dX8_isName_60 (by decide) ?_
      exact g_sub [0, 1, 2] rfl (hs_28 σ9 i1 v12 hi1 hf)
    · refine g_icmp_eq_f (tgt := 57) C dX8_isName_52 (by decide) c11 ?_
      refine g_iconst (v := 0) C dX8_isName_55 (by decide) ?_
      obtain ⟨rfl, rfl⟩ := os_e hf
      exact g_zret C rfl (by decide) dX8_isName_56
def fX8_isName_h28  : Nat → S0 → Nat → Int32 → Option (Int32 × S0)
  | 0 => fun _ _ _ => none
  | n + 1 => fun σ i1 x2 => fX8_isName_b28  (fX8_isName_h28  n) σ i1 x2
set_option maxHeartbeats 1000000 in
set_option maxRecDepth 100000 in
theorem fX8_isName_h28_ok {p : Program} {l : Launch} {e : Env} {s : State} {m : MethodId} {args : Array Value} {below : List Frame} {meth : Method} {c : Code} {dC : Nat → ClassId} {dI : Nat → Nat → Nat} {ad : Nat → Nat} {cy : Nat → ClassId} {sz : Nat} (C : Cx p s m args meth c RX8 cX8_isName 3 (some .boolean) dC dI ad cy sz) {rr : Int32} {ρ : S0}  : ∀ (n : Nat) (σ : S0) (i1 : Nat) (x2 : Int32) (hi1 : isStr i1) (_hf : fX8_isName_h28  n σ i1 x2 = some (rr, ρ)), Gw p l e rm_X8_isName s m args below meth c (MQ below (QcI dC dI ad cy sz rr ρ) args s 0 0 (AW ad sz)) dC dI ad cy 3 sz 0 0 28 [(0, .ref (ad 1)), (1, .ref (ad (200 + i1))), (2, .int x2)] [] σ
  | 0, _, _, _, _, hf => by cases hf
  | n + 1, σ, i1, x2, hi1, hf => fX8_isName_b28_ok C  (fX8_isName_h28  n) (fX8_isName_h28_ok C  n) σ i1 x2 hi1 hf
def fX8_isName (σ : S0) (i1 : Nat) : Option (Int32 × S0) := if ¬ (σ 1 3) = 1 then (some (0, σ)) else (obp (fJ0_length_8abf5 σ i1) (fun r2 σ3 => if ((σ 1 2) - (σ 1 4)) = r2 then (fX8_isName_h28 400 σ3 i1 0) else (some (0, σ3))))
set_option maxHeartbeats 1000000 in
set_option maxRecDepth 100000 in
theorem fX8_isName_ok {p : Program} {l : Launch} {e : Env} {s : State} {m : MethodId} {args : Array Value} {below : List Frame} {meth : Method} {c : Code} {dC : Nat → ClassId} {dI : Nat → Nat → Nat} {ad : Nat → Nat} {cy : Nat → ClassId} {sz : Nat} (C : Cx p s m args meth c RX8 cX8_isName 3 (some .boolean) dC dI ad cy sz) {rr : Int32} {ρ : S0} (σ : S0) (i1 : Nat) (hi1 : isStr i1) (hf : fX8_isName σ i1 = some (rr, ρ)) : Gw p l e rm_X8_isName s m args below meth c (MQ below (QcI dC dI ad cy sz rr ρ) args s 0 0 (AW ad sz)) dC dI ad cy 3 sz 0 0 0 [(0, .ref (ad 1)), (1, .ref (ad (200 + i1)))] [] σ := by
  unfold fX8_isName at hf
  refine g_aload_n C dX8_isName_0 rfl 0 rfl ?_
  refine g_get C (a_1 ad cy _) rfl hin_X8 3 (by decide) hF_X8_28 rfl rfl dX8_isName_1 ?_
  refine g_iconst (v := 1) C dX8_isName_4 (by decide) ?_
  rcases oi_e hf with ⟨c1, hf⟩ | ⟨c1, hf⟩
  · refine g_icmp_ne_t (tgt := 24) C dX8_isName_5 (by decide) c1 ?_
    refine g_iconst (v := 0) C dX8_isName_24 (by decide) ?_
    obtain ⟨rfl, rfl⟩ := os_e hf
    exact g_zret C rfl (by decide) dX8_isName_25
  · refine g_icmp_ne_f (tgt := 24) C dX8_isName_5 (by decide) (Decidable.of_not_not c1) ?_
    refine g_aload_n C dX8_isName_8 rfl 0 rfl ?_
    refine g_get C (a_1 ad cy _) rfl hin_X8 2 (by decide) hF_X8_19 rfl rfl dX8_isName_9 ?_
    refine g_aload_n C dX8_isName_12 rfl 0 rfl ?_
    refine g_get C (a_1 ad cy _) rfl hin_X8 4 (by decide) hF_X8_22 rfl rfl dX8_isName_13 ?_
    refine g_isub C dX8_isName_16 ?_
    refine g_aload_n C dX8_isName_17 rfl 1 rfl ?_
    obtain ⟨r2, σ3, h4, hf⟩ := obp_e hf
    refine g_callTi (As := []) (rest := [.int ((σ 1 2) - (σ 1 4))]) C hi1 (c_J0_length_8abf5 l dC dI ad cy i1 hi1) h4 hM_X8_31 cal_J0_length_8abf5 ⟨Nat.zero_le _, Nat.zero_le _⟩ ⟨rfl, rfl⟩ ⟨Nat.le_of_ble_eq_true rfl, Nat.le_of_ble_eq_true rfl⟩ rfl rfl (Nat.le_of_ble_eq_true rfl) dX8_isName_18 ?_
    rcases oi_e hf with ⟨c5, hf⟩ | ⟨c5, hf⟩
    · refine g_icmp_eq_t (tgt := 26) C dX8_isName_21 (by decide) c5 ?_
      refine g_iconst (v := 0) C dX8_isName_26 (by decide) ?_
      refine g_istore_n (lv2 := [(0, .ref (ad 1)), (1, .ref (ad (200 + i1))), (2, .int 0)]) C dX8_isName_27 rfl (by decide) [1, 2, 0] rfl ?_
      exact g_sub [0, 1, 2] rfl (fX8_isName_h28_ok C 400 σ3 i1 0 hi1 hf)
    · refine g_icmp_eq_f (tgt := 26) C dX8_isName_21 (by decide) c5 ?_
      refine g_iconst (v := 0) C dX8_isName_24 (by decide) ?_
      obtain ⟨rfl, rfl⟩ := os_e hf
      exact g_zret C rfl (by decide) dX8_isName_25
theorem c_X8_isName (l : Launch) (dC : Nat → ClassId) (dI : Nat → Nat → Nat) (ad : Nat → Nat) (cy : Nat → ClassId) (i1 : Nat) (hi1 : isStr i1) : ConI l yX8_isName cX8_isName 3 (some .boolean) rm_X8_isName dC dI ad cy [.ref (ad 1), .ref (ad (200 + i1))] (fun σ => fX8_isName σ i1) := con_i (own := RX8) (by decide) rfl (Nat.le_of_ble_eq_true rfl) (fun _ _ _ _ _ _ _ _ σ _ _ C hf => fX8_isName_ok C σ i1 hi1 hf)
theorem cal_X8_isName : CalV yX8_isName RX8 cX8_isName 3 (some .boolean) 1 := ⟨hI_X8_isName, hS_X8_isName, hIni_X8, hC_X8_isName, by decide +kernel⟩
