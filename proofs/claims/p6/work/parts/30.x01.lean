abbrev rm_X9_empty : Room := { frames := 2, cells := 0, slots := 0, locals := 43 }
def fX9_empty (σ : S0) (k : Nat) : Option (Int32 × S0) := ol (su σ k 0 3) (fun σ1 => ol (su σ1 k 1 3) (fun σ2 => ol (su σ2 k 2 0) (fun σ3 => obp (fX1_empty σ3 (k + 10)) (fun r4 σ5 => some (0, σ5)))))
set_option maxHeartbeats 1000000 in
set_option maxRecDepth 100000 in
theorem fX9_empty_ok {p : Program} {l : Launch} {e : Env} {s : State} {m : MethodId} {args : Array Value} {below : List Frame} {meth : Method} {c : Code} {dC : Nat → ClassId} {dI : Nat → Nat → Nat} {ad : Nat → Nat} {cy : Nat → ClassId} {sz : Nat} (C : Cx p s m args meth c RX9 cX9_empty 1 none dC dI ad cy sz) {rr : Int32} {ρ : S0} (σ : S0) (k : Nat) (hk : isTown k) (hf : fX9_empty σ k = some (rr, ρ)) : Gw p l e rm_X9_empty s m args below meth c (MQ below (QcV dC dI ad cy sz ρ) args s 0 0 (AW ad sz)) dC dI ad cy 1 sz 0 0 0 [(0, .ref (ad k))] [] σ := by
  unfold fX9_empty at hf
  refine g_aload_n C dX9_empty_0 rfl 0 rfl ?_
  refine g_iconst (v := 3) C dX9_empty_1 (by decide) ?_
  obtain ⟨σ1, eσ1, hf⟩ := ol_e hf
  refine g_put (ty := .int) C (s_isTown hk ad cy _) rfl hin_X9 tyX9 tyX9_ok nmX9 0 (by decide) hF_X9_9 rfl rfl (by decide +kernel) rfl rfl (Nat.le_of_ble_eq_true rfl) (ps_isTown_0 hk ad cy _ _) eσ1 dX9_empty_2 ?_
  refine g_aload_n C dX9_empty_5 rfl 0 rfl ?_
  refine g_iconst (v := 3) C dX9_empty_6 (by decide) ?_
  obtain ⟨σ2, eσ2, hf⟩ := ol_e hf
  refine g_put (ty := .int) C (s_isTown hk ad cy _) rfl hin_X9 tyX9 tyX9_ok nmX9 1 (by decide) hF_X9_15 rfl rfl (by decide +kernel) rfl rfl (Nat.le_of_ble_eq_true rfl) (ps_isTown_1 hk ad cy _ _) eσ2 dX9_empty_7 ?_
  refine g_aload_n C dX9_empty_10 rfl 0 rfl ?_
  refine g_iconst (v := 0) C dX9_empty_11 (by decide) ?_
  obtain ⟨σ3, eσ3, hf⟩ := ol_e hf
  refine g_put (ty := .int) C (s_isTown hk ad cy _) rfl hin_X9 tyX9 tyX9_ok nmX9 2 (by decide) hF_X9_37 rfl rfl (by decide +kernel) rfl rfl (Nat.le_of_ble_eq_true rfl) (ps_isTown_2 hk ad cy _ _) eσ3 dX9_empty_12 ?_
  refine g_aload_n C dX9_empty_15 rfl 0 rfl ?_
  refine g_get C (s_isTown hk ad cy _) rfl hin_X9 6 (by decide) hF_X9_33 rfl rfl dX9_empty_16 ?_
  obtain ⟨r4, σ5, h6, hf⟩ := obp_e hf
  refine g_callVv (As := []) (rest := []) C (s_isChimes hk.ch ad cy _) rfl (c_X1_empty l dC dI ad cy (k + 10) hk.ch) h6 hM_X9_40 cal_X1_empty ⟨Nat.zero_le _, Nat.zero_le _⟩ ⟨rfl, rfl⟩ ⟨Nat.le_of_ble_eq_true rfl, Nat.le_of_ble_eq_true rfl⟩ rfl rfl (Nat.le_of_ble_eq_true rfl) dX9_empty_19 ?_
  obtain ⟨rfl, rfl⟩ := os_e hf
  exact g_vret C rfl dX9_empty_22
theorem c_X9_empty (l : Launch) (dC : Nat → ClassId) (dI : Nat → Nat → Nat) (ad : Nat → Nat) (cy : Nat → ClassId) (k : Nat) (hk : isTown k) : ConV l yX9_empty cX9_empty 1 none rm_X9_empty dC dI ad cy [.ref (ad k)] (fun σ => fX9_empty σ k) := con_v (own := RX9) (by decide) rfl (Nat.le_of_ble_eq_true rfl) (fun _ _ _ _ _ _ _ _ σ _ _ C hf => fX9_empty_ok C σ k hk hf)
theorem cal_X9_empty : CalV yX9_empty RX9 cX9_empty 1 none 0 := ⟨hI_X9_empty, hS_X9_empty, hIni_X9, hC_X9_empty, by decide +kernel⟩
abbrev rm_X9_copyFrom : Room := { frames := 2, cells := 0, slots := 0, locals := 39 }
def fX9_copyFrom_b56 (sf_56 : S0 → Nat → Nat → Int32 → Option (Int32 × S0)) (σ : S0) (k : Nat) (x1 : Nat) (x2 : Int32) : Option (Int32 × S0) := if (6 : Int32) ≤ x2 then (obp (fX1_copyFrom σ (k + 10) (x1 + 10)) (fun r2 σ3 => some (0, σ3))) else (og (¬ (x2 < 0 ∨ 6 ≤ x2.toNatClampNeg)) (ol ((x1 + 4) + 1 * x2.toNatClampNeg) (fun q6 => og (¬ (x2 < 0 ∨ 6 ≤ x2.toNatClampNeg)) (ol ((k + 4) + 1 * x2.toNatClampNeg) (fun q8 => ol (va_up σ q8 (va_cpy (σ q6) (σ q8) 0 0 (12 : Int32).toNatClampNeg)) (fun σ9 => ol (x2 + 1) (fun v10 => sf_56 σ9 k x1 v10)))))))
set_option maxHeartbeats 1000000 in
set_option maxRecDepth 100000 in
theorem fX9_copyFrom_b56_ok {p : Program} {l : Launch} {e : Env} {s : State} {m : MethodId} {args : Array Value} {below : List Frame} {meth : Method} {c : Code} {dC : Nat → ClassId} {dI : Nat → Nat → Nat} {ad : Nat → Nat} {cy : Nat → ClassId} {sz : Nat} (C : Cx p s m args meth c RX9 cX9_copyFrom 3 none dC dI ad cy sz) {rr : Int32} {ρ : S0} (sf_56 : S0 → Nat → Nat → Int32 → Option (Int32 × S0)) (hs_56 : ∀ (σ : S0) (k : Nat) (x1 : Nat) (x2 : Int32) (hk : isTown k) (hx1 : isTown x1), sf_56 σ k x1 x2 = some (rr, ρ) → Gw p l e rm_X9_copyFrom s m args below meth c (MQ below (QcV dC dI ad cy sz ρ) args s 0 0 (AW ad sz)) dC dI ad cy 3 sz 0 0 56 [(0, .ref (ad k)), (1, .ref (ad x1)), (2, .int x2)] [] σ) (σ : S0) (k : Nat) (x1 : Nat) (x2 : Int32) (hk : isTown k) (hx1 : isTown x1) (hf : fX9_copyFrom_b56 sf_56 σ k x1 x2 = some (rr, ρ)) : Gw p l e rm_X9_copyFrom s m args below meth c (MQ below (QcV dC dI ad cy sz ρ) args s 0 0 (AW ad sz)) dC dI ad cy 3 sz 0 0 56 [(0, .ref (ad k)), (1, .ref (ad x1)), (2, .int x2)] [] σ := by
  unfold fX9_copyFrom_b56 at hf
  refine g_iload_n C dX9_copyFrom_56 rfl 2 rfl ?_
  refine g_bipush (v := 6) C dX9_copyFrom_57 (by decide) ?_
  rcases oi_e hf with ⟨c1, hf⟩ | ⟨c1, hf⟩
  · refine g_icmp_ge_t (tgt := 87) C dX9_copyFrom_59 (by decide) c1 ?_
    refine g_aload_n C dX9_copyFrom_87 rfl 0 rfl ?_
    refine g_get C (s_isTown hk ad cy _) rfl hin_X9 6 (by decide) hF_X9_33 rfl rfl dX9_copyFrom_88 ?_
    refine g_aload_n C dX9_copyFrom_91 rfl 1 rfl ?_
    refine g_get C (s_isTown hx1 ad cy _) rfl hin_X9 6 (by decide) hF_X9_33 rfl rfl dX9_copyFrom_92 ?_
    obtain ⟨r2, σ3, h4, hf⟩ := obp_e hf
    refine g_callVv (As := [.ref (ad (x1 + 10))]) (rest := []) C (s_isChimes hk.ch ad cy _) rfl (c_X1_copyFrom l dC dI ad cy (k + 10) hk.ch (x1 + 10) hx1.ch) h4 hM_X9_49 cal_X1_copyFrom ⟨Nat.zero_le _, Nat.zero_le _⟩ ⟨rfl, rfl⟩ ⟨Nat.le_of_ble_eq_true rfl, Nat.le_of_ble_eq_true rfl⟩ rfl rfl (Nat.le_of_ble_eq_true rfl) dX9_copyFrom_95 ?_
    obtain ⟨rfl, rfl⟩ := os_e hf
    exact g_vret C rfl dX9_copyFrom_98
  · refine g_icmp_ge_f (tgt := 87) C dX9_copyFrom_59 (by decide) c1 ?_
    refine g_aload_n C dX9_copyFrom_62 rfl 1 rfl ?_
    refine g_get C (s_isTown hx1 ad cy _) rfl hin_X9 5 (by decide) hF_X9_27 rfl rfl dX9_copyFrom_63 ?_
    refine g_iload_n C dX9_copyFrom_66 rfl 2 rfl ?_
    obtain ⟨h5, hf⟩ := og_e hf
    obtain ⟨q6, eq6, hf⟩ := ol_e hf
    refine g_aald C (s_out hx1.r3 ad cy _) rfl rfl h5 dX9_copyFrom_67 ?_
    refine g_nmr eq6 ?_
    have hq6 := (hx1.ro h5 eq6)
    refine g_iconst (v := 0) C dX9_copyFrom_68 (by decide) ?_
    refine g_aload_n C dX9_copyFrom_69 rfl 0 rfl ?_
    refine g_get C (s_isTown hk ad cy _) rfl hin_X9 5 (by decide) hF_X9_27 rfl rfl dX9_copyFrom_70 ?_
    refine g_iload_n C dX9_copyFrom_73 rfl 2 rfl ?_
    obtain ⟨h7, hf⟩ := og_e hf
    obtain ⟨q8, eq8, hf⟩ := ol_e hf
    refine g_aald C (s_out hk.r3 ad cy _) rfl rfl h7 dX9_copyFrom_74 ?_
    refine g_nmr eq8 ?_
    have hq8 := (hk.ro h7 eq8)
    refine g_iconst (v := 0) C dX9_copyFrom_75 (by decide) ?_
    refine g_bipush (v := 12) C dX9_copyFrom_76 (by decide) ?_
    obtain ⟨σ9, eσ9, hf⟩ := ol_e hf
    refine g_copy C hM_X9_43 (s_row hq6 ad cy _) (s_row hq8 ad cy _) (by decide) (by decide) (by decide) ⟨Nat.le_of_ble_eq_true rfl, Nat.le_of_ble_eq_true rfl⟩ (fun f => ws_row hq8 ad cy f) eσ9 dX9_copyFrom_78 ?_
    obtain ⟨v10, ev10, hf⟩ := ol_e hf
    refine g_iinc (j := 2) (w := 1) (lv2 := [(0, .ref (ad k)), (1, .ref (ad x1)), (2, .int v10)]) C dX9_copyFrom_81 rfl (by decide) ev10 (by decide) [1, 2, 0] rfl ?_
    refine g_goto (tgt := 56) C dX9_copyFrom_84 (by decide) ?_
    exact g_sub [0, 1, 2] rfl (hs_56 σ9 k x1 v10 hk hx1 hf)
def fX9_copyFrom_h56  : Nat → S0 → Nat → Nat → Int32 → Option (Int32 × S0)
  | 0 => fun _ _ _ _ => none
  | n + 1 => fun σ k x1 x2 => fX9_copyFrom_b56  (fX9_copyFrom_h56  n) σ k x1 x2
set_option maxHeartbeats 1000000 in
set_option maxRecDepth 100000 in
theorem fX9_copyFrom_h56_ok {p : Program} {l : Launch} {e : Env} {s : State} {m : MethodId} {args : Array Value} {below : List Frame} {meth : Method} {c : Code} {dC : Nat → ClassId} {dI : Nat → Nat → Nat} {ad : Nat → Nat} {cy : Nat → ClassId} {sz : Nat} (C : Cx p s m args meth c RX9 cX9_copyFrom 3 none dC dI ad cy sz) {rr : Int32} {ρ : S0}  : ∀ (n : Nat) (σ : S0) (k : Nat) (x1 : Nat) (x2 : Int32) (hk : isTown k) (hx1 : isTown x1) (_hf : fX9_copyFrom_h56  n σ k x1 x2 = some (rr, ρ)), Gw p l e rm_X9_copyFrom s m args below meth c (MQ below (QcV dC dI ad cy sz ρ) args s 0 0 (AW ad sz)) dC dI ad cy 3 sz 0 0 56 [(0, .ref (ad k)), (1, .ref (ad x1)), (2, .int x2)] [] σ
  | 0, _, _, _, _, _, _, hf => by cases hf
  | n + 1, σ, k, x1, x2, hk, hx1, hf => fX9_copyFrom_b56_ok C  (fX9_copyFrom_h56  n) (fX9_copyFrom_h56_ok C  n) σ k x1 x2 hk hx1 hf
def fX9_copyFrom (σ : S0) (k : Nat) (k1 : Nat) : Option (Int32 × S0) := ol (σ k1 0) (fun v1 => ol (su σ k 0 v1) (fun σ2 => ol (σ2 k1 1) (fun v3 => ol (su σ2 k 1 v3) (fun σ4 => ol (σ4 k1 2) (fun v5 => ol (su σ4 k 2 v5) (fun σ6 => ol (va_up σ6 (k + 1) (va_cpy (σ6 (k1 + 1)) (σ6 (k + 1)) 0 0 (6 : Int32).toNatClampNeg)) (fun σ7 => ol (va_up σ7 (k + 2) (va_cpy (σ7 (k1 + 2)) (σ7 (k + 2)) 0 0 (6 : Int32).toNatClampNeg)) (fun σ8 => fX9_copyFrom_h56 400 σ8 k k1 0))))))))
set_option maxHeartbeats 1000000 in
set_option maxRecDepth 100000 in
theorem fX9_copyFrom_ok {p : Program} {l : Launch} {e : Env} {s : State} {m : MethodId} {args : Array Value} {below : List Frame} {meth : Method} {c : Code} {dC : Nat → ClassId} {dI : Nat → Nat → Nat} {ad : Nat → Nat} {cy : Nat → ClassId} {sz : Nat} (C : Cx p s m args meth c RX9 cX9_copyFrom 3 none dC dI ad cy sz) {rr : Int32} {ρ : S0} (σ : S0) (k : Nat) (k1 : Nat) (hk : isTown k) (hk1 : isTown k1) (hf : fX9_copyFrom σ k k1 = some (rr, ρ)) : Gw p l e rm_X9_copyFrom s m args below meth c (MQ below (QcV dC dI ad cy sz ρ) args s 0 0 (AW ad sz)) dC dI ad cy 3 sz 0 0 0 [(0, .ref (ad k)), (1, .ref (ad k1))] [] σ := by
  unfold fX9_copyFrom at hf
  refine g_aload_n C dX9_copyFrom_0 rfl 0 rfl ?_
  refine g_aload_n C dX9_copyFrom_1 rfl 1 rfl ?_
  refine g_get C (s_isTown hk1 ad cy _) rfl hin_X9 0 (by decide) hF_X9_9 rfl rfl dX9_copyFrom_2 ?_
  obtain ⟨v1, ev1, hf⟩ := ol_e hf
  refine g_nm ev1 ?_
  obtain ⟨σ2, eσ2, hf⟩ := ol_e hf
  refine g_put (ty := .int) C (s_isTown hk ad cy _) rfl hin_X9 tyX9 tyX9_ok nmX9 0 (by decide) hF_X9_9 rfl rfl (by decide +kernel) rfl rfl (Nat.le_of_ble_eq_true rfl) (ps_isTown_0 hk ad cy _ _) eσ2 dX9_copyFrom_5 ?_
  refine g_aload_n C dX9_copyFrom_8 rfl 0 rfl ?_
  refine g_aload_n C dX9_copyFrom_9 rfl 1 rfl ?_
  refine g_get C (s_isTown hk1 ad cy _) rfl hin_X9 1 (by decide) hF_X9_15 rfl rfl dX9_copyFrom_10 ?_
  obtain ⟨v3, ev3, hf⟩ := ol_e hf
  refine g_nm ev3 ?_
  obtain ⟨σ4, eσ4, hf⟩ := ol_e hf
  refine g_put (ty := .int) C (s_isTown hk ad cy _) rfl hin_X9 tyX9 tyX9_ok nmX9 1 (by decide) hF_X9_15 rfl rfl (by decide +kernel) rfl rfl (Nat.le_of_ble_eq_true rfl) (ps_isTown_1 hk ad cy _ _) eσ4 dX9_copyFrom_13 ?_
  refine g_aload_n C dX9_copyFrom_16 rfl 0 rfl ?_
  refine g_aload_n C dX9_copyFrom_17 rfl 1 rfl ?_
  refine g_get C (s_isTown hk1 ad cy _) rfl hin_X9 2 (by decide) hF_X9_37 rfl rfl dX9_copyFrom_18 ?_
  obtain ⟨v5, ev5, hf⟩ := ol_e hf
  refine g_nm ev5 ?_
  obtain ⟨σ6, eσ6, hf⟩ := ol_e hf
  refine g_put (ty := .int) C (s_isTown hk ad cy _) rfl hin_X9 tyX9 tyX9_ok nmX9 2 (by decide) hF_X9_37 rfl rfl (by decide +kernel) rfl rfl (Nat.le_of_ble_eq_true rfl) (ps_isTown_2 hk ad cy _ _) eσ6 dX9_copyFrom_21 ?_
  refine g_aload_n C dX9_copyFrom_24 rfl 1 rfl ?_
  refine g_get C (s_isTown hk1 ad cy _) rfl hin_X9 3 (by decide) hF_X9_18 rfl rfl dX9_copyFrom_25 ?_
  refine g_iconst (v := 0) C dX9_copyFrom_28 (by decide) ?_
  refine g_aload_n C dX9_copyFrom_29 rfl 0 rfl ?_
  refine g_get C (s_isTown hk ad cy _) rfl hin_X9 3 (by decide) hF_X9_18 rfl rfl dX9_copyFrom_30 ?_
  refine g_iconst (v := 0) C dX9_copyFrom_33 (by decide) ?_
  refine g_bipush (v := 6) C dX9_copyFrom_34 (by decide) ?_
  obtain ⟨σ7, eσ7, hf⟩ := ol_e hf
  refine g_copy C hM_X9_43 (s_row hk1.r1 ad cy _) (s_row hk.r1 ad cy _) (by decide) (by decide) (by decide) ⟨Nat.le_of_ble_eq_true rfl, Nat.le_of_ble_eq_true rfl⟩ (fun f => ws_row hk.r1 ad cy f) eσ7 dX9_copyFrom_36 ?_
  refine g_aload_n C dX9_copyFrom_39 rfl 1 rfl ?_
  refine g_get C (s_isTown hk1 ad cy _) rfl hin_X9 4 (by decide) hF_X9_22 rfl rfl dX9_copyFrom_40 ?_
  refine g_iconst (v := 0) C dX9_copyFrom_43 (by decide) ?_
  refine g_aload_n C dX9_copyFrom_44 rfl 0 rfl ?_
  refine g_get C (s_isTown hk ad cy _) rfl hin_X9 4 (by decide) hF_X9_22 rfl rfl dX9_copyFrom_45 ?_
  refine g_iconst (v := 0) C dX9_copyFrom_48 (by decide) ?_
  refine g_bipush (v := 6) C dX9_copyFrom_49 (by decide) ?_
  obtain ⟨σ8, eσ8, hf⟩ := ol_e hf
  refine g_copy C hM_X9_43 (s_row hk1.r2 ad cy _) (s_row hk.r2 ad cy _) (by decide) (by decide) (by decide) ⟨Nat.le_of_ble_eq_true rfl, Nat.le_of_ble_eq_true rfl⟩ (fun f => ws_row hk.r2 ad cy f) eσ8 dX9_copyFrom_51 ?_
  refine g_iconst (v := 0) C dX9_copyFrom_54 (by decide) ?_
  refine g_istore_n (lv2 := [(0, .ref (ad k)), (1, .ref (ad k1)), (2, .int 0)]) C dX9_copyFrom_55 rfl (by decide) [1, 2, 0] rfl ?_
  exact g_sub [0, 1, 2] rfl (fX9_copyFrom_h56_ok C 400 σ8 k k1 0 hk hk1 hf)
theorem c_X9_copyFrom (l : Launch) (dC : Nat → ClassId) (dI : Nat → Nat → Nat) (ad : Nat → Nat) (cy : Nat → ClassId) (k : Nat) (hk : isTown k) (k1 : Nat) (hk1 : isTown k1) : ConV l yX9_copyFrom cX9_copyFrom 3 none rm_X9_copyFrom dC dI ad cy [.ref (ad k), .ref (ad k1)] (fun σ => fX9_copyFrom σ k k1) := con_v (own := RX9) (by decide) rfl (Nat.le_of_ble_eq_true rfl) (fun _ _ _ _ _ _ _ _ σ _ _ C hf => fX9_copyFrom_ok C σ k k1 hk hk1 hf)
theorem cal_X9_copyFrom : CalV yX9_copyFrom RX9 cX9_copyFrom 3 none 1 := ⟨hI_X9_copyFrom, hS_X9_copyFrom, hIni_X9, hC_X9_copyFrom, by decide +kernel⟩
abbrev rm_X9_hasHouse : Room := { frames := 0, cells := 0, slots := 0, locals := 0 }
def fX9_hasHouse (σ : S0) (k : Nat) (x1 : Int32) : Option (Int32 × S0) := if x1 < 0 then (some (0, σ)) else (if (σ k 0) ≤ x1 then (some (0, σ)) else (some (1, σ)))
set_option maxHeartbeats 1000000 in
set_option maxRecDepth 100000 in
theorem fX9_hasHouse_ok {p : Program} {l : Launch} {e : Env} {s : State} {m : MethodId} {args : Array Value} {below : List Frame} {meth : Method} {c : Code} {dC : Nat → ClassId} {dI : Nat → Nat → Nat} {ad : Nat → Nat} {cy : Nat → ClassId} {sz : Nat} (C : Cx p s m args meth c RX9 cX9_hasHouse 2 (some .boolean) dC dI ad cy sz) {rr : Int32} {ρ : S0} (σ : S0) (k : Nat) (x1 : Int32) (hk : isTown k) (hf : fX9_hasHouse σ k x1 = some (rr, ρ)) : Gw p l e rm_X9_hasHouse s m args below meth c (MQ below (QcI dC dI ad cy sz rr ρ) args s 0 0 (AW ad sz)) dC dI ad cy 2 sz 0 0 0 [(0, .ref (ad k)), (1, .int x1)] [] σ := by
  unfold fX9_hasHouse at hf
  refine g_iload_n C dX9_hasHouse_0 rfl 1 rfl ?_
  rcases oi_e hf with ⟨c1, hf⟩ | ⟨c1, hf⟩
  · refine g_if_lt_t (tgt := 16) C dX9_hasHouse_1 (by decide) c1 ?_
    refine g_iconst (v := 0) C dX9_hasHouse_16 (by decide) ?_
    obtain ⟨rfl, rfl⟩ := os_e hf
    exact g_zret C rfl (by decide) dX9_hasHouse_17
  · refine g_if_lt_f (tgt := 16) C dX9_hasHouse_1 (by decide) c1 ?_
    refine g_iload_n C dX9_hasHouse_4 rfl 1 rfl ?_
    refine g_aload_n C dX9_hasHouse_5 rfl 0 rfl ?_
    refine g_get C (s_isTown hk ad cy _) rfl hin_X9 0 (by decide) hF_X9_9 rfl rfl dX9_hasHouse_6 ?_
    rcases oi_e hf with ⟨c2, hf⟩ | ⟨c2, hf⟩
    · refine g_icmp_ge_t (tgt := 16) C dX9_hasHouse_9 (by decide) c2 ?_
      refine g_iconst (v := 0) C dX9_hasHouse_16 (by decide) ?_
      obtain ⟨rfl, rfl⟩ := os_e hf
      exact g_zret C rfl (by decide) dX9_hasHouse_17
    · refine g_icmp_ge_f (tgt := 16) C dX9_hasHouse_9 (by decide) c2 ?_
      refine g_iconst (v := 1) C dX9_hasHouse_12 (by decide) ?_
      refine g_goto (tgt := 17) C dX9_hasHouse_13 (by decide) ?_
      obtain ⟨rfl, rfl⟩ := os_e hf
      exact g_zret C rfl (by decide) dX9_hasHouse_17
theorem c_X9_hasHouse (l : Launch) (dC : Nat → ClassId) (dI : Nat → Nat → Nat) (ad : Nat → Nat) (cy : Nat → ClassId) (k : Nat) (hk : isTown k) (x1 : Int32) : ConI l yX9_hasHouse cX9_hasHouse 2 (some .boolean) rm_X9_hasHouse dC dI ad cy [.ref (ad k), .int x1] (fun σ => fX9_hasHouse σ k x1) := con_i (own := RX9) (by decide) rfl (Nat.le_of_ble_eq_true rfl) (fun _ _ _ _ _ _ _ _ σ _ _ C hf => fX9_hasHouse_ok C σ k x1 hk hf)
theorem cal_X9_hasHouse : CalV yX9_hasHouse RX9 cX9_hasHouse 2 (some .boolean) 1 := ⟨hI_X9_hasHouse, hS_X9_hasHouse, hIni_X9, hC_X9_hasHouse, by decide +kernel⟩
abbrev rm_X9_hasTune : Room := { frames := 0, cells := 0, slots := 0, locals := 0 }
def fX9_hasTune (σ : S0) (k : Nat) (x1 : Int32) : Option (Int32 × S0) := if x1 < 0 then (some (0, σ)) else (if (σ k 2) ≤ x1 then (some (0, σ)) else (some (1, σ)))
set_option maxHeartbeats 1000000 in
set_option maxRecDepth 100000 in
theorem fX9_hasTune_ok {p : Program} {l : Launch} {e : Env} {s : State} {m : MethodId} {args : Array Value} {below : List Frame} {meth : Method} {c : Code} {dC : Nat → ClassId} {dI : Nat → Nat → Nat} {ad : Nat → Nat} {cy : Nat → ClassId} {sz : Nat} (C : Cx p s m args meth c RX9 cX9_hasTune 2 (some .boolean) dC dI ad cy sz) {rr : Int32} {ρ : S0} (σ : S0) (k : Nat) (x1 : Int32) (hk : isTown k) (hf : fX9_hasTune σ k x1 = some (rr, ρ)) : Gw p l e rm_X9_hasTune s m args below meth c (MQ below (QcI dC dI ad cy sz rr ρ) args s 0 0 (AW ad sz)) dC dI ad cy 2 sz 0 0 0 [(0, .ref (ad k)), (1, .int x1)] [] σ := by
  unfold fX9_hasTune at hf
  refine g_iload_n C dX9_hasTune_0 rfl 1 rfl ?_
  rcases oi_e hf with ⟨c1, hf⟩ | ⟨c1, hf⟩
  · refine g_if_lt_t (tgt := 16) C dX9_hasTune_1 (by decide) c1 ?_
    refine g_iconst (v := 0) C dX9_hasTune_16 (by decide) ?_
    obtain ⟨rfl, rfl⟩ := os_e hf
    exact g_zret C rfl (by decide) dX9_hasTune_17
  · refine g_if_lt_f (tgt := 16) C dX9_hasTune_1 (by decide) c1 ?_
    refine g_iload_n C dX9_hasTune_4 rfl 1 rfl ?_
    refine g_aload_n C dX9_hasTune_5 rfl 0 rfl ?_
    refine g_get C (s_isTown hk ad cy _) rfl hin_X9 2 (by decide) hF_X9_37 rfl rfl dX9_hasTune_6 ?_
    rcases oi_e hf with ⟨c2, hf⟩ | ⟨c2, hf⟩
    · refine g_icmp_ge_t (tgt := 16) C dX9_hasTune_9 (by decide) c2 ?_
      refine g_iconst (v := 0) C dX9_hasTune_16 (by decide) ?_
      obtain ⟨rfl, rfl⟩ := os_e hf
      exact g_zret C rfl (by decide) dX9_hasTune_17
    · refine g_icmp_ge_f (tgt := 16) C dX9_hasTune_9 (by decide) c2 ?_
      refine g_iconst (v := 1) C dX9_hasTune_12 (by decide) ?_
      refine g_goto (tgt := 17) C dX9_hasTune_13 (by decide) ?_
      obtain ⟨rfl, rfl⟩ := os_e hf
      exact g_zret C rfl (by decide) dX9_hasTune_17
theorem c_X9_hasTune (l : Launch) (dC : Nat → ClassId) (dI : Nat → Nat → Nat) (ad : Nat → Nat) (cy : Nat → ClassId) (k : Nat) (hk : isTown k) (x1 : Int32) : ConI l yX9_hasTune cX9_hasTune 2 (some .boolean) rm_X9_hasTune dC dI ad cy [.ref (ad k), .int x1] (fun σ => fX9_hasTune σ k x1) := con_i (own := RX9) (by decide) rfl (Nat.le_of_ble_eq_true rfl) (fun _ _ _ _ _ _ _ _ σ _ _ C hf => fX9_hasTune_ok C σ k x1 hk hf)
theorem cal_X9_hasTune : CalV yX9_hasTune RX9 cX9_hasTune 2 (some .boolean) 1 := ⟨hI_X9_hasTune, hS_X9_hasTune, hIni_X9, hC_X9_hasTune, by decide +kernel⟩
abbrev rm_X9_asksStroke : Room := { frames := 0, cells := 0, slots := 0, locals := 0 }
def fX9_asksStroke (σ : S0) (k : Nat) (x1 : Int32) (x2 : Int32) : Option (Int32 × S0) := if x2 < 10 then (some (0, σ)) else (og (¬ (x1 < 0 ∨ 6 ≤ x1.toNatClampNeg)) (ol (σ (k + 2) x1.toNatClampNeg) (fun v3 => if (10 + v3) ≤ x2 then (some (0, σ)) else (some (1, σ)))))
set_option maxHeartbeats 1000000 in
set_option maxRecDepth 100000 in
theorem fX9_asksStroke_ok {p : Program} {l : Launch} {e : Env} {s : State} {m : MethodId} {args : Array Value} {below : List Frame} {meth : Method} {c : Code} {dC : Nat → ClassId} {dI : Nat → Nat → Nat} {ad : Nat → Nat} {cy : Nat → ClassId} {sz : Nat} (C : Cx p s m args meth c RX9 cX9_asksStroke 3 (some .boolean) dC dI ad cy sz) {rr : Int32} {ρ : S0} (σ : S0) (k : Nat) (x1 : Int32) (x2 : Int32) (hk : isTown k) (hf : fX9_asksStroke σ k x1 x2 = some (rr, ρ)) : Gw p l e rm_X9_asksStroke s m args below meth c (MQ below (QcI dC dI ad cy sz rr ρ) args s 0 0 (AW ad sz)) dC dI ad cy 3 sz 0 0 0 [(0, .ref (ad k)), (1, .int x1), (2, .int x2)] [] σ := by
  unfold fX9_asksStroke at hf
  refine g_iload_n C dX9_asksStroke_0 rfl 2 rfl ?_
  refine g_bipush (v := 10) C dX9_asksStroke_1 (by decide) ?_
  rcases oi_e hf with ⟨c1, hf⟩ | ⟨c1, hf⟩
  · refine g_icmp_lt_t (tgt := 23) C dX9_asksStroke_3 (by decide) c1 ?_
    refine g_iconst (v := 0) C dX9_asksStroke_23 (by decide) ?_
    obtain ⟨rfl, rfl⟩ := os_e hf
    exact g_zret C rfl (by decide) dX9_asksStroke_24
  · refine g_icmp_lt_f (tgt := 23) C dX9_asksStroke_3 (by decide) c1 ?_
    refine g_iload_n C dX9_asksStroke_6 rfl 2 rfl ?_
    refine g_bipush (v := 10) C dX9_asksStroke_7 (by decide) ?_
    refine g_aload_n C dX9_asksStroke_9 rfl 0 rfl ?_
    refine g_get C (s_isTown hk ad cy _) rfl hin_X9 4 (by decide) hF_X9_22 rfl rfl dX9_asksStroke_10 ?_
    refine g_iload_n C dX9_asksStroke_13 rfl 1 rfl ?_
    obtain ⟨h2, hf⟩ := og_e hf
    refine g_iald C (s_row hk.r2 ad cy _) h2 dX9_asksStroke_14 ?_
    obtain ⟨v3, ev3, hf⟩ := ol_e hf
    refine g_nm ev3 ?_
    refine g_iadd C dX9_asksStroke_15 ?_
    rcases oi_e hf with ⟨c4, hf⟩ | ⟨c4, hf⟩
    · refine g_icmp_ge_t (tgt := 23) C dX9_asksStroke_16 (by decide) c4 ?_
      refine g_iconst (v := 0) C dX9_asksStroke_23 (by decide) ?_
      obtain ⟨rfl, rfl⟩ := os_e hf
      exact g_zret C rfl (by decide) dX9_asksStroke_24
    · refine g_icmp_ge_f (tgt := 23) C dX9_asksStroke_16 (by decide) c4 ?_
      refine g_iconst (v := 1) C dX9_asksStroke_19 (by decide) ?_
      refine g_goto (tgt := 24) C dX9_asksStroke_20 (by decide) ?_
      obtain ⟨rfl, rfl⟩ := os_e hf
      exact g_zret C rfl (by decide) dX9_asksStroke_24
theorem c_X9_asksStroke (l : Launch) (dC : Nat → ClassId) (dI : Nat → Nat → Nat) (ad : Nat → Nat) (cy : Nat → ClassId) (k : Nat) (hk : isTown k) (x1 : Int32) (x2 : Int32) : ConI l yX9_asksStroke cX9_asksStroke 3 (some .boolean) rm_X9_asksStroke dC dI ad cy [.ref (ad k), .int x1, .int x2] (fun σ => fX9_asksStroke σ k x1 x2) := con_i (own := RX9) (by decide) rfl (Nat.le_of_ble_eq_true rfl) (fun _ _ _ _ _ _ _ _ σ _ _ C hf => fX9_asksStroke_ok C σ k x1 x2 hk hf)
theorem cal_X9_asksStroke : CalV yX9_asksStroke RX9 cX9_asksStroke 3 (some .boolean) 2 := ⟨hI_X9_asksStroke, hS_X9_asksStroke, hIni_X9, hC_X9_asksStroke, by decide +kernel⟩
abbrev rm_X9_isWhole : Room := { frames := 1, cells := 0, slots := 0, locals := 21 }
def fX9_isWhole_b61 (sf_2 : S0 → Nat → Int32 → Option (Int32 × S0)) (σ : S0) (k : Nat) (x1 : Int32) : Option (Int32 × S0) := ol (x1 + 1) (fun v1 => sf_2 σ k v1)
set_option maxHeartbeats 1000000 in
set_option maxRecDepth 100000 in
theorem fX9_isWhole_b61_ok {p : Program} {l : Launch} {e : Env} {s : State} {m : MethodId} {args : Array Value} {below : List Frame} {meth : Method} {c : Code} {dC : Nat → ClassId} {dI : Nat → Nat → Nat} {ad : Nat → Nat} {cy : Nat → ClassId} {sz : Nat} (C : Cx p s m args meth c RX9 cX9_isWhole 3 (some .boolean) dC dI ad cy sz) {rr : Int32} {ρ : S0} (sf_2 : S0 → Nat → Int32 → Option (Int32 × S0)) (hs_2 : ∀ (σ : S0) (k : Nat) (x1 : Int32) (hk : isTown k), sf_2 σ k x1 = some (rr, ρ) → Gw p l e rm_X9_isWhole s m args below meth c (MQ below (QcI dC dI ad cy sz rr ρ) args s 0 0 (AW ad sz)) dC dI ad cy 3 sz 0 0 2 [(0, .ref (ad k)), (1, .int x1)] [] σ) (σ : S0) (k : Nat) (x1 : Int32) (hk : isTown k) (hf : fX9_isWhole_b61 sf_2 σ k x1 = some (rr, ρ)) : Gw p l e rm_X9_isWhole s m args below meth c (MQ below (QcI dC dI ad cy sz rr ρ) args s 0 0 (AW ad sz)) dC dI ad cy 3 sz 0 0 61 [(0, .ref (ad k)), (1, .int x1)] [] σ := by
  unfold fX9_isWhole_b61 at hf
  obtain ⟨v1, ev1, hf⟩ := ol_e hf
  refine g_iinc (j := 1) (w := 1) (lv2 := [(0, .ref (ad k)), (1, .int v1)]) C dX9_isWhole_61 rfl (by decide) ev1 (by decide) [1, 0] rfl ?_
  refine g_goto (tgt := 2) C dX9_isWhole_64 (by decide) ?_
  exact g_sub [0, 1] rfl (hs_2 σ k v1 hk hf)
def fX9_isWhole_b110 (sf_100 : S0 → Nat → Int32 → Option (Int32 × S0)) (sf_110 : S0 → Nat → Int32 → Int32 → Option (Int32 × S0)) (σ : S0) (k : Nat) (x1 : Int32) (x2 : Int32) : Option (Int32 × S0) := og (¬ (x1 < 0 ∨ 6 ≤ x1.toNatClampNeg)) (ol (σ (k + 2) x1.toNatClampNeg) (fun v2 => if v2 ≤ x2 then (ol (x1 + 1) (fun v4 => sf_100 σ k v4)) else (og (¬ (x1 < 0 ∨ 6 ≤ x1.toNatClampNeg)) (ol ((k + 4) + 1 * x1.toNatClampNeg) (fun q6 => og (¬ (x2 < 0 ∨ 12 ≤ x2.toNatClampNeg)) (ol (σ q6 x2.toNatClampNeg) (fun v8 => obp (fX1_hasBell σ (k + 10) v8) (fun r9 σ10 => if ¬ r9 = 0 then (ol (x2 + 1) (fun v13 => sf_110 σ10 k x1 v13)) else (some (0, σ10))))))))))
set_option maxHeartbeats 1000000 in
set_option maxRecDepth 100000 in
theorem fX9_isWhole_b110_ok {p : Program} {l : Launch} {e : Env} {s : State} {m : MethodId} {args : Array Value} {below : List Frame} {meth : Method} {c : Code} {dC : Nat → ClassId} {dI : Nat → Nat → Nat} {ad : Nat → Nat} {cy : Nat → ClassId} {sz : Nat} (C : Cx p s m args meth c RX9 cX9_isWhole 3 (some .boolean) dC dI ad cy sz) {rr : Int32} {ρ : S0} (sf_100 : S0 → Nat → Int32 → Option (Int32 × S0)) (hs_100 : ∀ (σ : S0) (k : Nat) (x1 : Int32) (hk : isTown k), sf_100 σ k x1 = some (rr, ρ) → Gw p l e rm_X9_isWhole s m args below meth c (MQ below (QcI dC dI ad cy sz rr ρ) args s 0 0 (AW ad sz)) dC dI ad cy 3 sz 0 0 100 [(0, .ref (ad k)), (1, .int x1)] [] σ) (sf_110 : S0 → Nat → Int32 → Int32 → Option (Int32 × S0)) (hs_110 : ∀ (σ : S0) (k : Nat) (x1 : Int32) (x2 : Int32) (hk : isTown k), sf_110 σ k x1 x2 = some (rr, ρ) → Gw p l e rm_X9_isWhole s m args below meth c (MQ below (QcI dC dI ad cy sz rr ρ) args s 0 0 (AW ad sz)) dC dI ad cy 3 sz 0 0 110 [(0, .ref (ad k)), (1, .int x1), (2, .int x2)] [] σ) (σ : S0) (k : Nat) (x1 : Int32) (x2 : Int32) (hk : isTown k) (hf : fX9_isWhole_b110 sf_100 sf_110 σ k x1 x2 = some (rr, ρ)) : Gw p l e rm_X9_isWhole s m args below meth c (MQ below (QcI dC dI ad cy sz rr ρ) args s 0 0 (AW ad sz)) dC dI ad cy 3 sz 0 0 110 [(0, .ref (ad k)), (1, .int x1), (2, .int x2)] [] σ := by
  unfold fX9_isWhole_b110 at hf
  refine g_iload_n C dX9_isWhole_110 rfl 2 rfl ?_
  refine g_aload_n C dX9_isWhole_111 rfl 0 rfl ?_
  refine g_get C (s_isTown hk ad cy _) rfl hin_X9 4 (by decide) hF_X9_22 rfl rfl dX9_isWhole_112 ?_
  refine g_iload_n C dX9_isWhole_115 rfl 1 rfl ?_
  obtain ⟨h1, hf⟩ := og_e hf
  refine g_iald C (s_row hk.r2 ad cy _) h1 dX9_isWhole_116 ?_
  obtain ⟨v2, ev2, hf⟩ := ol_e hf
  refine g_nm ev2 ?_
  rcases oi_e hf with ⟨c3, hf⟩ | ⟨c3, hf⟩
  · refine g_icmp_ge_t (tgt := 146) C dX9_isWhole_117 (by decide) c3 ?_
    obtain ⟨v4, ev4, hf⟩ := ol_e hf
    refine g_iinc (j := 1) (w := 1) (lv2 := [(0, .ref (ad k)), (1, .int v4), (2, .int x2)]) C dX9_isWhole_146 rfl (by decide) ev4 (by decide) [1, 0, 2] rfl ?_
    refine g_goto (tgt := 100) C dX9_isWhole_149 (by decide) ?_
    exact g_sub [0, 1] rfl (hs_100 σ k v4 hk hf)
  · refine g_icmp_ge_f (tgt := 146) C dX9_isWhole_117 (by decide) c3 ?_
    refine g_aload_n C dX9_isWhole_120 rfl 0 rfl ?_
    refine g_get C (s_isTown hk ad cy _) rfl hin_X9 6 (by decide) hF_X9_33 rfl rfl dX9_isWhole_121 ?_
    refine g_aload_n C dX9_isWhole_124 rfl 0 rfl ?_
    refine g_get C (s_isTown hk ad cy _) rfl hin_X9 5 (by decide) hF_X9_27 rfl rfl dX9_isWhole_125 ?_
    refine g_iload_n C dX9_isWhole_128 rfl 1 rfl ?_
    obtain ⟨h5, hf⟩ := og_e hf
    obtain ⟨q6, eq6, hf⟩ := ol_e hf
    refine g_aald C (s_out hk.r3 ad cy _) rfl rfl h5 dX9_isWhole_129 ?_
    refine g_nmr eq6 ?_
    have hq6 := (hk.ro h5 eq6)
    refine g_iload_n C dX9_isWhole_130 rfl 2 rfl ?_
    obtain ⟨h7, hf⟩ := og_e hf
    refine g_iald C (s_row hq6 ad cy _) h7 dX9_isWhole_131 ?_
    obtain ⟨v8, ev8, hf⟩ := ol_e hf
    refine g_nm ev8 ?_
    obtain ⟨r9, σ10, h11, hf⟩ := obp_e hf
    refine g_callVi (As := [.int v8]) (rest := []) C (s_isChimes hk.ch ad cy _) rfl (c_X1_hasBell l dC dI ad cy (k + 10) hk.ch v8) h11 hM_X9_69 cal_X1_hasBell ⟨Nat.zero_le _, Nat.zero_le _⟩ ⟨rfl, rfl⟩ ⟨Nat.le_of_ble_eq_true rfl, Nat.le_of_ble_eq_true rfl⟩ rfl rfl (Nat.le_of_ble_eq_true rfl) dX9_isWhole_132 ?_
    rcases oi_e hf with ⟨c12, hf⟩ | ⟨c12, hf⟩
    · refine g_if_ne_t (tgt := 140) C dX9_isWhole_135 (by decide) c12 ?_
      obtain ⟨v13, ev13, hf⟩ := ol_e hf
      refine g_iinc (j := 2) (w := 1) (lv2 := [(0, .ref (ad k)), (1, .int x1), (2, .int v13)]) C dX9_isWhole_140 rfl (by decide) ev13 (by decide) [1, 2, 0] rfl ?_
      refine g_goto (tgt := 110) C dX9_isWhole_143 (by decide) ?_
      exact g_sub [0, 1, 2] rfl (hs_110 σ10 k x1 v13 hk hf)
    · refine g_if_ne_f (tgt := 140) C dX9_isWhole_135 (by decide) (Decidable.of_not_not c12) ?_
      refine g_iconst (v := 0) C dX9_isWhole_138 (by decide) ?_
      obtain ⟨rfl, rfl⟩ := os_e hf
      exact g_zret C rfl (by decide) dX9_isWhole_139
def fX9_isWhole_h110 (sf_100 : S0 → Nat → Int32 → Option (Int32 × S0)) : Nat → S0 → Nat → Int32 → Int32 → Option (Int32 × S0)
  | 0 => fun _ _ _ _ => none
  | n + 1 => fun σ k x1 x2 => fX9_isWhole_b110 sf_100 (fX9_isWhole_h110 sf_100 n) σ k x1 x2
set_option maxHeartbeats 1000000 in
set_option maxRecDepth 100000 in
theorem fX9_isWhole_h110_ok {p : Program} {l : Launch} {e : Env} {s : State} {m : MethodId} {args : Array Value} {below : List Frame} {meth : Method} {c : Code} {dC : Nat → ClassId} {dI : Nat → Nat → Nat} {ad : Nat → Nat} {cy : Nat → ClassId} {sz : Nat} (C : Cx p s m args meth c RX9 cX9_isWhole 3 (some .boolean) dC dI ad cy sz) {rr : Int32} {ρ : S0} (sf_100 : S0 → Nat → Int32 → Option (Int32 × S0)) (hs_100 : ∀ (σ : S0) (k : Nat) (x1 : Int32) (hk : isTown k), sf_100 σ k x1 = some (rr, ρ) → Gw p l e rm_X9_isWhole s m args below meth c (MQ below (QcI dC dI ad cy sz rr ρ) args s 0 0 (AW ad sz)) dC dI ad cy 3 sz 0 0 100 [(0, .ref (ad k)), (1, .int x1)] [] σ) : ∀ (n : Nat) (σ : S0) (k : Nat) (x1 : Int32) (x2 : Int32) (hk : isTown k) (_hf : fX9_isWhole_h110 sf_100 n σ k x1 x2 = some (rr, ρ)), Gw p l e rm_X9_isWhole s m args below meth c (MQ below (QcI dC dI ad cy sz rr ρ) args s 0 0 (AW ad sz)) dC dI ad cy 3 sz 0 0 110 [(0, .ref (ad k)), (1, .int x1), (2, .int x2)] [] σ
  | 0, _, _, _, _, _, hf => by cases hf
  | n + 1, σ, k, x1, x2, hk, hf => fX9_isWhole_b110_ok C sf_100 hs_100 (fX9_isWhole_h110 sf_100 n) (fX9_isWhole_h110_ok C sf_100 hs_100 n) σ k x1 x2 hk hf
def fX9_isWhole_b100 (sf_100 : S0 → Nat → Int32 → Option (Int32 × S0)) (σ : S0) (k : Nat) (x1 : Int32) : Option (Int32 × S0) := if (σ k 2) ≤ x1 then (some (1, σ)) else (fX9_isWhole_h110 sf_100 400 σ k x1 0)
set_option maxHeartbeats 1000000 in
set_option maxRecDepth 100000 in
theorem fX9_isWhole_b100_ok {p : Program} {l : Launch} {e : Env} {s : State} {m : MethodId} {args : Array Value} {below : List Frame} {meth : Method} {c : Code} {dC : Nat → ClassId} {dI : Nat → Nat → Nat} {ad : Nat → Nat} {cy : Nat → ClassId} {sz : Nat} (C : Cx p s m args meth c RX9 cX9_isWhole 3 (some .boolean) dC dI ad cy sz) {rr : Int32} {ρ : S0} (sf_100 : S0 → Nat → Int32 → Option (Int32 × S0)) (hs_100 : ∀ (σ : S0) (k : Nat) (x1 : Int32) (hk : isTown k), sf_100 σ k x1 = some (rr, ρ) → Gw p l e rm_X9_isWhole s m args below meth c (MQ below (QcI dC dI ad cy sz rr ρ) args s 0 0 (AW ad sz)) dC dI ad cy 3 sz 0 0 100 [(0, .ref (ad k)), (1, .int x1)] [] σ) (σ : S0) (k : Nat) (x1 : Int32) (hk : isTown k) (hf : fX9_isWhole_b100 sf_100 σ k x1 = some (rr, ρ)) : Gw p l e rm_X9_isWhole s m args below meth c (MQ below (QcI dC dI ad cy sz rr ρ) args s 0 0 (AW ad sz)) dC dI ad cy 3 sz 0 0 100 [(0, .ref (ad k)), (1, .int x1)] [] σ := by
  unfold fX9_isWhole_b100 at hf
  refine g_iload_n C dX9_isWhole_100 rfl 1 rfl ?_
  refine g_aload_n C dX9_isWhole_101 rfl 0 rfl ?_
  refine g_get C (s_isTown hk ad cy _) rfl hin_X9 2 (by decide) hF_X9_37 rfl rfl dX9_isWhole_102 ?_
  rcases oi_e hf with ⟨c1, hf⟩ | ⟨c1, hf⟩
  · refine g_icmp_ge_t (tgt := 152) C dX9_isWhole_105 (by decide) c1 ?_
    refine g_iconst (v := 1) C dX9_isWhole_152 (by decide) ?_
    obtain ⟨rfl, rfl⟩ := os_e hf
    exact g_zret C rfl (by decide) dX9_isWhole_153
  · refine g_icmp_ge_f (tgt := 152) C dX9_isWhole_105 (by decide) c1 ?_
    refine g_iconst (v := 0) C dX9_isWhole_108 (by decide) ?_
    refine g_istore_n (lv2 := [(0, .ref (ad k)), (1, .int x1), (2, .int 0)]) C dX9_isWhole_109 rfl (by decide) [1, 2, 0] rfl ?_
    exact g_sub [0, 1, 2] rfl (fX9_isWhole_h110_ok C sf_100 hs_100 400 σ k x1 0 hk hf)
def fX9_isWhole_h100  : Nat → S0 → Nat → Int32 → Option (Int32 × S0)
  | 0 => fun _ _ _ => none
  | n + 1 => fun σ k x1 => fX9_isWhole_b100  (fX9_isWhole_h100  n) σ k x1
set_option maxHeartbeats 1000000 in
set_option maxRecDepth 100000 in
theorem fX9_isWhole_h100_ok {p : Program} {l : Launch} {e : Env} {s : State} {m : MethodId} {args : Array Value} {below : List Frame} {meth : Method} {c : Code} {dC : Nat → ClassId} {dI : Nat → Nat → Nat} {ad : Nat → Nat} {cy : Nat → ClassId} {sz : Nat} (C : Cx p s m args meth c RX9 cX9_isWhole 3 (some .boolean) dC dI ad cy sz) {rr : Int32} {ρ : S0}  : ∀ (n : Nat) (σ : S0) (k : Nat) (x1 : Int32) (hk : isTown k) (_hf : fX9_isWhole_h100  n σ k x1 = some (rr, ρ)), Gw p l e rm_X9_isWhole s m args below meth c (MQ below (QcI dC dI ad cy sz rr ρ) args s 0 0 (AW ad sz)) dC dI ad cy 3 sz 0 0 100 [(0, .ref (ad k)), (1, .int x1)] [] σ
  | 0, _, _, _, _, hf => by cases hf
  | n + 1, σ, k, x1, hk, hf => fX9_isWhole_b100_ok C  (fX9_isWhole_h100  n) (fX9_isWhole_h100_ok C  n) σ k x1 hk hf
def fX9_isWhole_b72 (sf_72 : S0 → Nat → Int32 → Option (Int32 × S0)) (σ : S0) (k : Nat) (x1 : Int32) : Option (Int32 × S0) := if (6 : Int32) ≤ x1 then (fX9_isWhole_h100 400 σ k 0) else (og (¬ (x1 < 0 ∨ 6 ≤ x1.toNatClampNeg)) (ol (σ (k + 10 + 6) x1.toNatClampNeg) (fun v3 => if v3 = 0 then (ol (x1 + 1) (fun v5 => sf_72 σ k v5)) else (some (0, σ)))))
set_option maxHeartbeats 1000000 in
set_option maxRecDepth 100000 in
theorem fX9_isWhole_b72_ok {p : Program} {l : Launch} {e : Env} {s : State} {m : MethodId} {args : Array Value} {below : List Frame} {meth : Method} {c : Code} {dC : Nat → ClassId} {dI : Nat → Nat → Nat} {ad : Nat → Nat} {cy : Nat → ClassId} {sz : Nat} (C : Cx p s m args meth c RX9 cX9_isWhole 3 (some .boolean) dC dI ad cy sz) {rr : Int32} {ρ : S0} (sf_72 : S0 → Nat → Int32 → Option (Int32 × S0)) (hs_72 : ∀ (σ : S0) (k : Nat) (x1 : Int32) (hk : isTown k), sf_72 σ k x1 = some (rr, ρ) → Gw p l e rm_X9_isWhole s m args below meth c (MQ below (QcI dC dI ad cy sz rr ρ) args s 0 0 (AW ad sz)) dC dI ad cy 3 sz 0 0 72 [(0, .ref (ad k)), (1, .int x1)] [] σ) (σ : S0) (k : Nat) (x1 : Int32) (hk : isTown k) (hf : fX9_isWhole_b72 sf_72 σ k x1 = some (rr, ρ)) : Gw p l e rm_X9_isWhole s m args below meth c (MQ below (QcI dC dI ad cy sz rr ρ) args s 0 0 (AW ad sz)) dC dI ad cy 3 sz 0 0 72 [(0, .ref (ad k)), (1, .int x1)] [] σ := by
  unfold fX9_isWhole_b72 at hf
  refine g_iload_n C dX9_isWhole_72 rfl 1 rfl ?_
  refine g_bipush (v := 6) C dX9_isWhole_73 (by decide) ?_
  rcases oi_e hf with ⟨c1, hf⟩ | ⟨c1, hf⟩
  · refine g_icmp_ge_t (tgt := 98) C dX9_isWhole_75 (by decide) c1 ?_
    refine g_iconst (v := 0) C dX9_isWhole_98 (by decide) ?_
    refine g_istore_n (lv2 := [(0, .ref (ad k)), (1, .int 0)]) C dX9_isWhole_99 rfl (by decide) [1, 0] rfl ?_
    exact g_sub [0, 1] rfl (fX9_isWhole_h100_ok C 400 σ k 0 hk hf)
  · refine g_icmp_ge_f (tgt := 98) C dX9_isWhole_75 (by decide) c1 ?_
    refine g_aload_n C dX9_isWhole_78 rfl 0 rfl ?_
    refine g_get C (s_isTown hk ad cy _) rfl hin_X9 6 (by decide) hF_X9_33 rfl rfl dX9_isWhole_79 ?_
    refine g_get C (s_isChimes hk.ch ad cy _) rfl hin_X1 6 (by decide) hF_X9_66 rfl rfl dX9_isWhole_82 ?_
    refine g_iload_n C dX9_isWhole_85 rfl 1 rfl ?_
    obtain ⟨h2, hf⟩ := og_e hf
    refine g_iald C (s_row hk.ch.r6 ad cy _) h2 dX9_isWhole_86 ?_
    obtain ⟨v3, ev3, hf⟩ := ol_e hf
    refine g_nm ev3 ?_
    rcases oi_e hf with ⟨c4, hf⟩ | ⟨c4, hf⟩
    · refine g_if_eq_t (tgt := 92) C dX9_isWhole_87 (by decide) c4 ?_
      obtain ⟨v5, ev5, hf⟩ := ol_e hf
      refine g_iinc (j := 1) (w := 1) (lv2 := [(0, .ref (ad k)), (1, .int v5)]) C dX9_isWhole_92 rfl (by decide) ev5 (by decide) [1, 0] rfl ?_
      refine g_goto (tgt := 72) C dX9_isWhole_95 (by decide) ?_
      exact g_sub [0, 1] rfl (hs_72 σ k v5 hk hf)
    · refine g_if_eq_f (tgt := 92) C dX9_isWhole_87 (by decide) c4 ?_
      refine g_iconst (v := 0) C dX9_isWhole_90 (by decide) ?_
      obtain ⟨rfl, rfl⟩ := os_e hf
      exact g_zret C rfl (by decide) dX9_isWhole_91
def fX9_isWhole_h72  : Nat → S0 → Nat → Int32 → Option (Int32 × S0)
  | 0 => fun _ _ _ => none
  | n + 1 => fun σ k x1 => fX9_isWhole_b72  (fX9_isWhole_h72  n) σ k x1
set_option maxHeartbeats 1000000 in
set_option maxRecDepth 100000 in
theorem fX9_isWhole_h72_ok {p : Program} {l : Launch} {e : Env} {s : State} {m : MethodId} {args : Array Value} {below : List Frame} {meth : Method} {c : Code} {dC : Nat → ClassId} {dI : Nat → Nat → Nat} {ad : Nat → Nat} {cy : Nat → ClassId} {sz : Nat} (C : Cx p s m args meth c RX9 cX9_isWhole 3 (some .boolean) dC dI ad cy sz) {rr : Int32} {ρ : S0}  : ∀ (n : Nat) (σ : S0) (k : Nat) (x1 : Int32) (hk : isTown k) (_hf : fX9_isWhole_h72  n σ k x1 = some (rr, ρ)), Gw p l e rm_X9_isWhole s m args below meth c (MQ below (QcI dC dI ad cy sz rr ρ) args s 0 0 (AW ad sz)) dC dI ad cy 3 sz 0 0 72 [(0, .ref (ad k)), (1, .int x1)] [] σ
  | 0, _, _, _, _, hf => by cases hf
  | n + 1, σ, k, x1, hk, hf => fX9_isWhole_b72_ok C  (fX9_isWhole_h72  n) (fX9_isWhole_h72_ok C  n) σ k x1 hk hf
def fX9_isWhole_b2 (sf_2 : S0 → Nat → Int32 → Option (Int32 × S0)) (σ : S0) (k : Nat) (x1 : Int32) : Option (Int32 × S0) := if (σ (k + 10) 0) ≤ x1 then (ol (σ k 0) (fun v2 => fX9_isWhole_h72 400 σ k v2)) else (og (¬ (x1 < 0 ∨ 12 ≤ x1.toNatClampNeg)) (ol (σ (k + 10 + 1) x1.toNatClampNeg) (fun v4 => obp (fX9_hasHouse σ k v4) (fun r5 σ6 => if r5 = 0 then (some (0, σ6)) else (og (¬ (x1 < 0 ∨ 12 ≤ x1.toNatClampNeg)) (ol (σ6 (k + 10 + 5) x1.toNatClampNeg) (fun v10 => if v10 = ((-4)) then (fX9_isWhole_b61 sf_2 σ6 k x1) else (og (¬ (x1 < 0 ∨ 12 ≤ x1.toNatClampNeg)) (ol (σ6 (k + 10 + 5) x1.toNatClampNeg) (fun v13 => obp (fX9_hasHouse σ6 k v13) (fun r14 σ15 => if ¬ r14 = 0 then (fX9_isWhole_b61 sf_2 σ15 k x1) else (some (0, σ15)))))))))))))
set_option maxHeartbeats 1000000 in
set_option maxRecDepth 100000 in
theorem fX9_isWhole_b2_ok {p : Program} {l : Launch} {e : Env} {s : State} {m : MethodId} {args : Array Value} {below : List Frame} {meth : Method} {c : Code} {dC : Nat → ClassId} {dI : Nat → Nat → Nat} {ad : Nat → Nat} {cy : Nat → ClassId} {sz : Nat} (C : Cx p s m args meth c RX9 cX9_isWhole 3 (some .boolean) dC dI ad cy sz) {rr : Int32} {ρ : S0} (sf_2 : S0 → Nat → Int32 → Option (Int32 × S0)) (hs_2 : ∀ (σ : S0) (k : Nat) (x1 : Int32) (hk : isTown k), sf_2 σ k x1 = some (rr, ρ) → Gw p l e rm_X9_isWhole s m args below meth c (MQ below (QcI dC dI ad cy sz rr ρ) args s 0 0 (AW ad sz)) dC dI ad cy 3 sz 0 0 2 [(0, .ref (ad k)), (1, .int x1)] [] σ) (σ : S0) (k : Nat) (x1 : Int32) (hk : isTown k) (hf : fX9_isWhole_b2 sf_2 σ k x1 = some (rr, ρ)) : Gw p l e rm_X9_isWhole s m args below meth c (MQ below (QcI dC dI ad cy sz rr ρ) args s 0 0 (AW ad sz)) dC dI ad cy 3 sz 0 0 2 [(0, .ref (ad k)), (1, .int x1)] [] σ := by
  unfold fX9_isWhole_b2 at hf
  refine g_iload_n C dX9_isWhole_2 rfl 1 rfl ?_
  refine g_aload_n C dX9_isWhole_3 rfl 0 rfl ?_
  refine g_get C (s_isTown hk ad cy _) rfl hin_X9 6 (by decide) hF_X9_33 rfl rfl dX9_isWhole_4 ?_
  refine g_get C (s_isChimes hk.ch ad cy _) rfl hin_X1 0 (by decide) hF_X9_53 rfl rfl dX9_isWhole_7 ?_
  rcases oi_e hf with ⟨c1, hf⟩ | ⟨c1, hf⟩
  · refine g_icmp_ge_t (tgt := 67) C dX9_isWhole_10 (by decide) c1 ?_
    refine g_aload_n C dX9_isWhole_67 rfl 0 rfl ?_
    refine g_get C (s_isTown hk ad cy _) rfl hin_X9 0 (by decide) hF_X9_9 rfl rfl dX9_isWhole_68 ?_
    obtain ⟨v2, ev2, hf⟩ := ol_e hf
    refine g_nm ev2 ?_
    refine g_istore_n (lv2 := [(0, .ref (ad k)), (1, .int v2)]) C dX9_isWhole_71 rfl (by decide) [1, 0] rfl ?_
    exact g_sub [0, 1] rfl (fX9_isWhole_h72_ok C 400 σ k v2 hk hf)
  · refine g_icmp_ge_f (tgt := 67) C dX9_isWhole_10 (by decide) c1 ?_
    refine g_aload_n C dX9_isWhole_13 rfl 0 rfl ?_
    refine g_aload_n C dX9_isWhole_14 rfl 0 rfl ?_
    refine g_get C (s_isTown hk ad cy _) rfl hin_X9 6 (by decide) hF_X9_33 rfl rfl dX9_isWhole_15 ?_
    refine g_get C (s_isChimes hk.ch ad cy _) rfl hin_X1 1 (by decide) hF_X9_56 rfl rfl dX9_isWhole_18 ?_
    refine g_iload_n C dX9_isWhole_21 rfl 1 rfl ?_
    obtain ⟨h3, hf⟩ := og_e hf
    refine g_iald C (s_row hk.ch.r1 ad cy _) h3 dX9_isWhole_22 ?_
    obtain ⟨v4, ev4, hf⟩ := ol_e hf
    refine g_nm ev4 ?_
    obtain ⟨r5, σ6, h7, hf⟩ := obp_e hf
    refine g_callVi (As := [.int v4]) (rest := []) C (s_isTown hk ad cy _) rfl (c_X9_hasHouse l dC dI ad cy k hk v4) h7 hM_X9_59 cal_X9_hasHouse ⟨Nat.zero_le _, Nat.zero_le _⟩ ⟨rfl, rfl⟩ ⟨Nat.le_of_ble_eq_true rfl, Nat.le_of_ble_eq_true rfl⟩ rfl rfl (Nat.le_of_ble_eq_true rfl) dX9_isWhole_23 ?_
    rcases oi_e hf with ⟨c8, hf⟩ | ⟨c8, hf⟩
    · refine g_if_eq_t (tgt := 59) C dX9_isWhole_26 (by decide) c8 ?_
      refine g_iconst (v := 0) C dX9_isWhole_59 (by decide) ?_
      obtain ⟨rfl, rfl⟩ := os_e hf
      exact g_zret C rfl (by decide) dX9_isWhole_60
    · refine g_if_eq_f (tgt := 59) C dX9_isWhole_26 (by decide) c8 ?_
      refine g_aload_n C dX9_isWhole_29 rfl 0 rfl ?_
      refine g_get C (s_isTown hk ad cy _) rfl hin_X9 6 (by decide) hF_X9_33 rfl rfl dX9_isWhole_30 ?_
      refine g_get C (s_isChimes hk.ch ad cy _) rfl hin_X1 5 (by decide) hF_X9_63 rfl rfl dX9_isWhole_33 ?_
      refine g_iload_n C dX9_isWhole_36 rfl 1 rfl ?_
      obtain ⟨h9, hf⟩ := og_e hf
      refine g_iald C (s_row hk.ch.r5 ad cy _) h9 dX9_isWhole_37 ?_
      obtain ⟨v10, ev10, hf⟩ := ol_e hf
      refine g_nm ev10 ?_
      refine g_bipush (v := (-4)) C dX9_isWhole_38 (by decide) ?_
      rcases oi_e hf with ⟨c11, hf⟩ | ⟨c11, hf⟩
      · refine g_icmp_eq_t (tgt := 61) C dX9_isWhole_40 (by decide) c11 ?_
        exact g_sub [0, 1] rfl (fX9_isWhole_b61_ok C sf_2 hs_2 σ6 k x1 hk hf)
      · refine g_icmp_eq_f (tgt := 61) C dX9_isWhole_40 (by decide) c11 ?_
        refine g_aload_n C dX9_isWhole_43 rfl 0 rfl ?_
        refine g_aload_n C dX9_isWhole_44 rfl 0 rfl ?_
        refine g_get C (s_isTown hk ad cy _) rfl hin_X9 6 (by decide) hF_X9_33 rfl rfl dX9_isWhole_45 ?_
        refine g_get C (s_isChimes hk.ch ad cy _) rfl hin_X1 5 (by decide) hF_X9_63 rfl rfl dX9_isWhole_48 ?_
        refine g_iload_n C dX9_isWhole_51 rfl 1 rfl ?_
        obtain ⟨h12, hf⟩ := og_e hf
        refine g_iald C (s_row hk.ch.r5 ad cy _) h12 dX9_isWhole_52 ?_
        obtain ⟨v13, ev13, hf⟩ := ol_e hf
        refine g_nm ev13 ?_
        obtain ⟨r14, σ15, h16, hf⟩ := obp_e hf
        refine g_callVi (As := [.int v13]) (rest := []) C (s_isTown hk ad cy _) rfl (c_X9_hasHouse l dC dI ad cy k hk v13) h16 hM_X9_59 cal_X9_hasHouse ⟨Nat.zero_le _, Nat.zero_le _⟩ ⟨rfl, rfl⟩ ⟨Nat.le_of_ble_eq_true rfl, Nat.le_of_ble_eq_true rfl⟩ rfl rfl (Nat.le_of_ble_eq_true rfl) dX9_isWhole_53 ?_
        rcases oi_e hf with ⟨c17, hf⟩ | ⟨c17, hf⟩
        · refine g_if_ne_t (tgt := 61) C dX9_isWhole_56 (by decide) c17 ?_
          exact g_sub [0, 1] rfl (fX9_isWhole_b61_ok C sf_2 hs_2 σ15 k x1 hk hf)
        · refine g_if_ne_f (tgt := 61) C dX9_isWhole_56 (by decide) (Decidable.of_not_not c17) ?_
          refine g_iconst (v := 0) C dX9_isWhole_59 (by decide) ?_
          obtain ⟨rfl, rfl⟩ := os_e hf
          exact g_zret C rfl (by decide) dX9_isWhole_60
def fX9_isWhole_h2  : Nat → S0 → Nat → Int32 → Option (Int32 × S0)
  | 0 => fun _ _ _ => none
  | n + 1 => fun σ k x1 => fX9_isWhole_b2  (fX9_isWhole_h2  n) σ k x1
set_option maxHeartbeats 1000000 in
set_option maxRecDepth 100000 in
theorem fX9_isWhole_h2_ok {p : Program} {l : Launch} {e : Env} {s : State} {m : MethodId} {args : Array Value} {below : List Frame} {meth : Method} {c : Code} {dC : Nat → ClassId} {dI : Nat → Nat → Nat} {ad : Nat → Nat} {cy : Nat → ClassId} {sz : Nat} (C : Cx p s m args meth c RX9 cX9_isWhole 3 (some .boolean) dC dI ad cy sz) {rr : Int32} {ρ : S0}  : ∀ (n : Nat) (σ : S0) (k : Nat) (x1 : Int32) (hk : isTown k) (_hf : fX9_isWhole_h2  n σ k x1 = some (rr, ρ)), Gw p l e rm_X9_isWhole s m args below meth c (MQ below (QcI dC dI ad cy sz rr ρ) args s 0 0 (AW ad sz)) dC dI ad cy 3 sz 0 0 2 [(0, .ref (ad k)), (1, .int x1)] [] σ
  | 0, _, _, _, _, hf => by cases hf
  | n + 1, σ, k, x1, hk, hf => fX9_isWhole_b2_ok C  (fX9_isWhole_h2  n) (fX9_isWhole_h2_ok C  n) σ k x1 hk hf
def fX9_isWhole (σ : S0) (k : Nat) : Option (Int32 × S0) := fX9_isWhole_h2 400 σ k 0
set_option maxHeartbeats 1000000 in
set_option maxRecDepth 100000 in
theorem fX9_isWhole_ok {p : Program} {l : Launch} {e : Env} {s : State} {m : MethodId} {args : Array Value} {below : List Frame} {meth : Method} {c : Code} {dC : Nat → ClassId} {dI : Nat → Nat → Nat} {ad : Nat → Nat} {cy : Nat → ClassId} {sz : Nat} (C : Cx p s m args meth c RX9 cX9_isWhole 3 (some .boolean) dC dI ad cy sz) {rr : Int32} {ρ : S0} (σ : S0) (k : Nat) (hk : isTown k) (hf : fX9_isWhole σ k = some (rr, ρ)) : Gw p l e rm_X9_isWhole s m args below meth c (MQ below (QcI dC dI ad cy sz rr ρ) args s 0 0 (AW ad sz)) dC dI ad cy 3 sz 0 0 0 [(0, .ref (ad k))] [] σ := by
  unfold fX9_isWhole at hf
  refine g_iconst (v := 0) C dX9_isWhole_0 (by decide) ?_
  refine g_istore_n (lv2 := [(0, .ref (ad k)), (1, .int 0)]) C dX9_isWhole_1 rfl (by decide) [1, 0] rfl ?_
  exact g_sub [0, 1] rfl (fX9_isWhole_h2_ok C 400 σ k 0 hk hf)
theorem c_X9_isWhole (l : Launch) (dC : Nat → ClassId) (dI : Nat → Nat → Nat) (ad : Nat → Nat) (cy : Nat → ClassId) (k : Nat) (hk : isTown k) : ConI l yX9_isWhole cX9_isWhole 3 (some .boolean) rm_X9_isWhole dC dI ad cy [.ref (ad k)] (fun σ => fX9_isWhole σ k) := con_i (own := RX9) (by decide) rfl (Nat.le_of_ble_eq_true rfl) (fun _ _ _ _ _ _ _ _ σ _ _ C hf => fX9_isWhole_ok C σ k hk hf)
theorem cal_X9_isWhole : CalV yX9_isWhole RX9 cX9_isWhole 3 (some .boolean) 0 := ⟨hI_X9_isWhole, hS_X9_isWhole, hIni_X9, hC_X9_isWhole, by decide +kernel⟩
abbrev rm_X6_play : Room := { frames := 0, cells := 0, slots := 0, locals := 0 }
def fX6_play_b159 (sf_22 : S0 → Int32 → Int32 → Int32 → Int32 → Option (Int32 × S0)) (σ : S0) (x1 : Int32) (x2 : Int32) (x3 : Int32) (x4 : Int32) : Option (Int32 × S0) := ol (x4 + 1) (fun v1 => sf_22 σ x1 x2 x3 v1)
set_option maxHeartbeats 1000000 in
set_option maxRecDepth 100000 in
theorem fX6_play_b159_ok {p : Program} {l : Launch} {e : Env} {s : State} {m : MethodId} {args : Array Value} {below : List Frame} {meth : Method} {c : Code} {dC : Nat → ClassId} {dI : Nat → Nat → Nat} {ad : Nat → Nat} {cy : Nat → ClassId} {sz : Nat} (C : Cx p s m args meth c RX6 cX6_play 7 none dC dI ad cy sz) {rr : Int32} {ρ : S0} (sf_22 : S0 → Int32 → Int32 → Int32 → Int32 → Option (Int32 × S0)) (hs_22 : ∀ (σ : S0) (x1 : Int32) (x2 : Int32) (x3 : Int32) (x4 : Int32) , sf_22 σ x1 x2 x3 x4 = some (rr, ρ) → Gw p l e rm_X6_play s m args below meth c (MQ below (QcV dC dI ad cy sz ρ) args s 0 0 (AW ad sz)) dC dI ad cy 7 sz 0 0 22 [(0, .ref (ad 40)), (1, .int x1), (2, .int x2), (3, .int x3), (4, .int x4)] [] σ) (σ : S0) (x1 : Int32) (x2 : Int32) (x3 : Int32) (x4 : Int32)  (hf : fX6_play_b159 sf_22 σ x1 x2 x3 x4 = some (rr, ρ)) : Gw p l e rm_X6_play s m args below meth c (MQ below (QcV dC dI ad cy sz ρ) args s 0 0 (AW ad sz)) dC dI ad cy 7 sz 0 0 159 [(0, .ref (ad 40)), (1, .int x1), (2, .int x2), (3, .int x3), (4, .int x4)] [] σ := by
  unfold fX6_play_b159 at hf
  obtain ⟨v1, ev1, hf⟩ := ol_e hf
  refine g_iinc (j := 4) (w := 1) (lv2 := [(0, .ref (ad 40)), (1, .int x1), (2, .int x2), (3, .int x3), (4, .int v1)]) C dX6_play_159 rfl (by decide) ev1 (by decide) [1, 2, 3, 4, 0] rfl ?_
  refine g_goto (tgt := 22) C dX6_play_162 (by decide) ?_
  exact g_sub [0, 1, 2, 3, 4] rfl (hs_22 σ x1 x2 x3 v1 hf)
def fX6_play_b84 (sf_22 : S0 → Int32 → Int32 → Int32 → Int32 → Option (Int32 × S0)) (σ : S0) (x1 : Int32) (x2 : Int32) (x3 : Int32) (x4 : Int32) : Option (Int32 × S0) := ol ((σ 40 4) ||| ((1 : Int32) <<< (x4 &&& 31))) (fun v1 => ol (su σ 40 4 v1) (fun σ2 => ol (x2 + (σ2 22 1)) (fun v3 => fX6_play_b159 sf_22 σ2 x1 v3 x3 x4)))
set_option maxHeartbeats 1000000 in
set_option maxRecDepth 100000 in
theorem fX6_play_b84_ok {p : Program} {l : Launch} {e : Env} {s : State} {m : MethodId} {args : Array Value} {below : List Frame} {meth : Method} {c : Code} {dC : Nat → ClassId} {dI : Nat → Nat → Nat} {ad : Nat → Nat} {cy : Nat → ClassId} {sz : Nat} (C : Cx p s m args meth c RX6 cX6_play 7 none dC dI ad cy sz) {rr : Int32} {ρ : S0} (sf_22 : S0 → Int32 → Int32 → Int32 → Int32 → Option (Int32 × S0)) (hs_22 : ∀ (σ : S0) (x1 : Int32) (x2 : Int32) (x3 : Int32) (x4 : Int32) , sf_22 σ x1 x2 x3 x4 = some (rr, ρ) → Gw p l e rm_X6_play s m args below meth c (MQ below (QcV dC dI ad cy sz ρ) args s 0 0 (AW ad sz)) dC dI ad cy 7 sz 0 0 22 [(0, .ref (ad 40)), (1, .int x1), (2, .int x2), (3, .int x3), (4, .int x4)] [] σ) (σ : S0) (x1 : Int32) (x2 : Int32) (x3 : Int32) (x4 : Int32)  (hf : fX6_play_b84 sf_22 σ x1 x2 x3 x4 = some (rr, ρ)) : Gw p l e rm_X6_play s m args below meth c (MQ below (QcV dC dI ad cy sz ρ) args s 0 0 (AW ad sz)) dC dI ad cy 7 sz 0 0 84 [(0, .ref (ad 40)), (1, .int x1), (2, .int x2), (3, .int x3), (4, .int x4)] [] σ := by
  unfold fX6_play_b84 at hf
  refine g_aload_n C dX6_play_84 rfl 0 rfl ?_
  refine g_dup C dX6_play_85 rfl ?_
  refine g_get C (a_40 ad cy _) rfl hin_X6 4 (by decide) hF_X6_29 rfl rfl dX6_play_86 ?_
  refine g_iconst (v := 1) C dX6_play_89 (by decide) ?_
  refine g_iload C dX6_play_90 4 rfl ?_
  refine g_ishl C dX6_play_92 ?_
  refine g_ior C dX6_play_93 ?_
  obtain ⟨v1, ev1, hf⟩ := ol_e hf
  refine g_nm ev1 ?_
  obtain ⟨σ2, eσ2, hf⟩ := ol_e hf
  refine g_put (ty := .int) C (a_40 ad cy _) rfl hin_X6 tyX6 tyX6_ok nmX6 4 (by decide) hF_X6_29 rfl rfl (by decide +kernel) rfl rfl (Nat.le_of_ble_eq_true rfl) (p_40_4 ad cy _ _) eσ2 dX6_play_94 ?_
  refine g_iload_n C dX6_play_97 rfl 2 rfl ?_
  refine g_aload_n C dX6_play_98 rfl 0 rfl ?_
  refine g_get C (a_40 ad cy _) rfl hin_X6 0 (by decide) hF_X6_9 rfl rfl dX6_play_99 ?_
  refine g_get C (a_22 ad cy _) rfl hin_X9 1 (by decide) hF_X6_48 rfl rfl dX6_play_102 ?_
  refine g_iadd C dX6_play_105 ?_
  obtain ⟨v3, ev3, hf⟩ := ol_e hf
  refine g_nm ev3 ?_
  refine g_istore_n (lv2 := [(0, .ref (ad 40)), (1, .int x1), (2, .int v3), (3, .int x3), (4, .int x4)]) C dX6_play_106 rfl (by decide) [1, 2, 0, 3, 4] rfl ?_
  refine g_goto (tgt := 159) C dX6_play_107 (by decide) ?_
  exact g_sub [0, 1, 2, 3, 4] rfl (fX6_play_b159_ok C sf_22 hs_22 σ2 x1 v3 x3 x4 hf)
def fX6_play_b22 (sf_22 : S0 → Int32 → Int32 → Int32 → Int32 → Option (Int32 × S0)) (σ : S0) (x1 : Int32) (x2 : Int32) (x3 : Int32) (x4 : Int32) : Option (Int32 × S0) := og (¬ (x1 < 0 ∨ 6 ≤ x1.toNatClampNeg)) (ol (σ 24 x1.toNatClampNeg) (fun v2 => if v2 ≤ x4 then (og (¬ (x1 < 0 ∨ 6 ≤ x1.toNatClampNeg)) (ol (σ 23 x1.toNatClampNeg) (fun v5 => ol (((v5 - (σ 40 2)) - (σ 40 3)) - x2) (fun v6 => ol (su σ 40 5 v6) (fun σ7 => some (0, σ7)))))) else (og (¬ (x1 < 0 ∨ 6 ≤ x1.toNatClampNeg)) (ol (26 + 1 * x1.toNatClampNeg) (fun q9 => og (¬ (x4 < 0 ∨ 12 ≤ x4.toNatClampNeg)) (ol (σ q9 x4.toNatClampNeg) (fun v11 => og (¬ (v11 < 0 ∨ 12 ≤ v11.toNatClampNeg)) (ol (σ 33 v11.toNatClampNeg) (fun v13 => og (¬ (v11 < 0 ∨ 12 ≤ v11.toNatClampNeg)) (ol (σ 36 v11.toNatClampNeg) (fun v15 => if ¬ v15 = 0 then (fX6_play_b84 sf_22 σ x1 x2 x3 x4) else (if (x3 &&& ((1 : Int32) <<< (v13 &&& 31))) = 0 then (og (¬ (v11 < 0 ∨ 12 ≤ v11.toNatClampNeg)) (ol (σ 34 v11.toNatClampNeg) (fun v19 => ol ((σ 40 2) + v19) (fun v20 => ol (su σ 40 2 v20) (fun σ21 => og (¬ (v11 < 0 ∨ 12 ≤ v11.toNatClampNeg)) (ol (σ21 35 v11.toNatClampNeg) (fun v23 => ol ((σ21 40 3) + v23) (fun v24 => ol (su σ21 40 3 v24) (fun σ25 => og (¬ (v13 < 0 ∨ 6 ≤ v13.toNatClampNeg)) (ol (σ25 38 v13.toNatClampNeg) (fun v27 => fX6_play_b159 sf_22 σ25 x1 x2 v27 x4))))))))))) else (fX6_play_b84 sf_22 σ x1 x2 x3 x4)))))))))))))
set_option maxHeartbeats 1000000 in
set_option maxRecDepth 100000 in
theorem fX6_play_b22_ok {p : Program} {l : Launch} {e : Env} {s : State} {m : MethodId} {args : Array Value} {below : List Frame} {meth : Method} {c : Code} {dC : Nat → ClassId} {dI : Nat → Nat → Nat} {ad : Nat → Nat} {cy : Nat → ClassId} {sz : Nat} (C : Cx p s m args meth c RX6 cX6_play 7 none dC dI ad cy sz) {rr : Int32} {ρ : S0} (sf_22 : S0 → Int32 → Int32 → Int32 → Int32 → Option (Int32 × S0)) (hs_22 : ∀ (σ : S0) (x1 : Int32) (x2 : Int32) (x3 : Int32) (x4 : Int32) , sf_22 σ x1 x2 x3 x4 = some (rr, ρ) → Gw p l e rm_X6_play s m args below meth c (MQ below (QcV dC dI ad cy sz ρ) args s 0 0 (AW ad sz)) dC dI ad cy 7 sz 0 0 22 [(0, .ref (ad 40)), (1, .int x1), (2, .int x2), (3, .int x3), (4, .int x4)] [] σ) (σ : S0) (x1 : Int32) (x2 : Int32) (x3 : Int32) (x4 : Int32)  (hf : fX6_play_b22 sf_22 σ x1 x2 x3 x4 = some (rr, ρ)) : Gw p l e rm_X6_play s m args below meth c (MQ below (QcV dC dI ad cy sz ρ) args s 0 0 (AW ad sz)) dC dI ad cy 7 sz 0 0 22 [(0, .ref (ad 40)), (1, .int x1), (2, .int x2), (3, .int x3), (4, .int x4)] [] σ := by
  unfold fX6_play_b22 at hf
  refine g_iload C dX6_play_22 4 rfl ?_
  refine g_aload_n C dX6_play_24 rfl 0 rfl ?_
  refine g_get C (a_40 ad cy _) rfl hin_X6 0 (by decide) hF_X6_9 rfl rfl dX6_play_25 ?_
  refine g_get C (a_22 ad cy _) rfl hin_X9 4 (by decide) hF_X6_32 rfl rfl dX6_play_28 ?_
  refine g_iload_n C dX6_play_31 rfl 1 rfl ?_
  obtain ⟨h1, hf⟩ := og_e hf
  refine g_iald C (a_24 ad cy _) h1 dX6_play_32 ?_
  obtain ⟨v2, ev2, hf⟩ := ol_e hf
  refine g_nm ev2 ?_
  rcases oi_e hf with ⟨c3, hf⟩ | ⟨c3, hf⟩
  · refine g_icmp_ge_t (tgt := 165) C dX6_play_33 (by decide) c3 ?_
    refine g_aload_n C dX6_play_165 rfl 0 rfl ?_
    refine g_aload_n C dX6_play_166 rfl 0 rfl ?_
    refine g_get C (a_40 ad cy _) rfl hin_X6 0 (by decide) hF_X6_9 rfl rfl dX6_play_167 ?_
    refine g_get C (a_22 ad cy _) rfl hin_X9 3 (by decide) hF_X6_60 rfl rfl dX6_play_170 ?_
    refine g_iload_n C dX6_play_173 rfl 1 rfl ?_
    obtain ⟨h4, hf⟩ := og_e hf
    refine g_iald C (a_23 ad cy _) h4 dX6_play_174 ?_
    obtain ⟨v5, ev5, hf⟩ := ol_e hf
    refine g_nm ev5 ?_
    refine g_aload_n C dX6_play_175 rfl 0 rfl ?_
    refine g_get C (a_40 ad cy _) rfl hin_X6 2 (by decide) hF_X6_22 rfl rfl dX6_play_176 ?_
    refine g_isub C dX6_play_179 ?_
    refine g_aload_n C dX6_play_180 rfl 0 rfl ?_
    refine g_get C (a_40 ad cy _) rfl hin_X6 3 (by decide) hF_X6_26 rfl rfl dX6_play_181 ?_
    refine g_isub C dX6_play_184 ?_
    refine g_iload_n C dX6_play_185 rfl 2 rfl ?_
    refine g_isub C dX6_play_186 ?_
    obtain ⟨v6, ev6, hf⟩ := ol_e hf
    refine g_nm ev6 ?_
    obtain ⟨σ7, eσ7, hf⟩ := ol_e hf
    refine g_put (ty := .int) C (a_40 ad cy _) rfl hin_X6 tyX6 tyX6_ok nmX6 5 (by decide) hF_X6_63 rfl rfl (by decide +kernel) rfl rfl (Nat.le_of_ble_eq_true rfl) (p_40_5 ad cy _ _) eσ7 dX6_play_187 ?_
    obtain ⟨rfl, rfl⟩ := os_e hf
    exact g_vret C rfl dX6_play_190
  · refine g_icmp_ge_f (tgt := 165) C dX6_play_33 (by decide) c3 ?_
    refine g_aload_n C dX6_play_36 rfl 0 rfl ?_
    refine g_get C (a_40 ad cy _) rfl hin_X6 0 (by decide) hF_X6_9 rfl rfl dX6_play_37 ?_
    refine g_get C (a_22 ad cy _) rfl hin_X9 5 (by decide) hF_X6_36 rfl rfl dX6_play_40 ?_
    refine g_iload_n C dX6_play_43 rfl 1 rfl ?_
    obtain ⟨h8, hf⟩ := og_e hf
    obtain ⟨q9, eq9, hf⟩ := ol_e hf
    refine g_aald C (a_25 ad cy _) rfl rfl h8 dX6_play_44 ?_
    refine g_nmr eq9 ?_
    have hq9 := (o_25 h8 eq9)
    refine g_iload C dX6_play_45 4 rfl ?_
    obtain ⟨h10, hf⟩ := og_e hf
    refine g_iald C (s_row hq9 ad cy _) h10 dX6_play_47 ?_
    obtain ⟨v11, ev11, hf⟩ := ol_e hf
    refine g_nm ev11 ?_
    refine g_istore (lv2 := [(0, .ref (ad 40)), (1, .int x1), (2, .int x2), (3, .int x3), (4, .int x4), (5, .int v11)]) C dX6_play_48 (by decide) [1, 2, 3, 4, 5, 0] rfl ?_
    refine g_aload_n C dX6_play_50 rfl 0 rfl ?_
    refine g_get C (a_40 ad cy _) rfl hin_X6 1 (by decide) hF_X6_21 rfl rfl dX6_play_51 ?_
    refine g_get C (a_32 ad cy _) rfl hin_X1 1 (by decide) hF_X6_40 rfl rfl dX6_play_54 ?_
    refine g_iload C dX6_play_57 5 rfl ?_
    obtain ⟨h12, hf⟩ := og_e hf
    refine g_iald C (a_33 ad cy _) h12 dX6_play_59 ?_
    obtain ⟨v13, ev13, hf⟩ := ol_e hf
    refine g_nm ev13 ?_
    refine g_istore (lv2 := [(0, .ref (ad 40)), (1, .int x1), (2, .int x2), (3, .int x3), (4, .int x4), (5, .int v11), (6, .int v13)]) C dX6_play_60 (by decide) [1, 2, 3, 4, 5, 6, 0] rfl ?_
    refine g_aload_n C dX6_play_62 rfl 0 rfl ?_
    refine g_get C (a_40 ad cy _) rfl hin_X6 1 (by decide) hF_X6_21 rfl rfl dX6_play_63 ?_
    refine g_get C (a_32 ad cy _) rfl hin_X1 4 (by decide) hF_X6_45 rfl rfl dX6_play_66 ?_
    refine g_iload C dX6_play_69 5 rfl ?_
    obtain ⟨h14, hf⟩ := og_e hf
    refine g_iald C (a_36 ad cy _) h14 dX6_play_71 ?_
    obtain ⟨v15, ev15, hf⟩ := ol_e hf
    refine g_nm ev15 ?_
    rcases oi_e hf with ⟨c16, hf⟩ | ⟨c16, hf⟩
    · refine g_if_ne_t (tgt := 84) C dX6_play_72 (by decide) c16 ?_
      exact g_sub [0, 1, 2, 3, 4] rfl (fX6_play_b84_ok C sf_22 hs_22 σ x1 x2 x3 x4 hf)
    · refine g_if_ne_f (tgt := 84) C dX6_play_72 (by decide) (Decidable.of_not_not c16) ?_
      refine g_iload_n C dX6_play_75 rfl 3 rfl ?_
      refine g_iconst (v := 1) C dX6_play_76 (by decide) ?_
      refine g_iload C dX6_play_77 6 rfl ?_
      refine g_ishl C dX6_play_79 ?_
      refine g_iand C dX6_play_80 ?_
      rcases oi_e hf with ⟨c17, hf⟩ | ⟨c17, hf⟩
      · refine g_if_eq_t (tgt := 110) C dX6_play_81 (by decide) c17 ?_
        refine g_aload_n C dX6_play_110 rfl 0 rfl ?_
        refine g_dup C dX6_play_111 rfl ?_
        refine g_get C (a_40 ad cy _) rfl hin_X6 2 (by decide) hF_X6_22 rfl rfl dX6_play_112 ?_
        refine g_aload_n C dX6_play_115 rfl 0 rfl ?_
        refine g_get C (a_40 ad cy _) rfl hin_X6 1 (by decide) hF_X6_21 rfl rfl dX6_play_116 ?_
        refine g_get C (a_32 ad cy _) rfl hin_X1 2 (by decide) hF_X6_51 rfl rfl dX6_play_119 ?_
        refine g_iload C dX6_play_122 5 rfl ?_
        obtain ⟨h18, hf⟩ := og_e hf
        refine g_iald C (a_34 ad cy _) h18 dX6_play_124 ?_
        obtain ⟨v19, ev19, hf⟩ := ol_e hf
        refine g_nm ev19 ?_
        refine g_iadd C dX6_play_125 ?_
        obtain ⟨v20, ev20, hf⟩ := ol_e hf
        refine g_nm ev20 ?_
        obtain ⟨σ21, eσ21, hf⟩ := ol_e hf
        refine g_put (ty := .int) C (a_40 ad cy _) rfl hin_X6 tyX6 tyX6_ok nmX6 2 (by decide) hF_X6_22 rfl rfl (by decide +kernel) rfl rfl (Nat.le_of_ble_eq_true rfl) (p_40_2 ad cy _ _) eσ21 dX6_play_126 ?_
        refine g_aload_n C dX6_play_129 rfl 0 rfl ?_
        refine g_dup C dX6_play_130 rfl ?_
        refine g_get C (a_40 ad cy _) rfl hin_X6 3 (by decide) hF_X6_26 rfl rfl dX6_play_131 ?_
        refine g_aload_n C dX6_play_134 rfl 0 rfl ?_
        refine g_get C (a_40 ad cy _) rfl hin_X6 1 (by decide) hF_X6_21 rfl rfl dX6_play_135 ?_
        refine g_get C (a_32 ad cy _) rfl hin_X1 3 (by decide) hF_X6_54 rfl rfl dX6_play_138 ?_
        refine g_iload C dX6_play_141 5 rfl ?_
        obtain ⟨h22, hf⟩ := og_e hf
        refine g_iald C (a_35 ad cy _) h22 dX6_play_143 ?_
        obtain ⟨v23, ev23, hf⟩ := ol_e hf
        refine g_nm ev23 ?_
        refine g_iadd C dX6_play_144 ?_
        obtain ⟨v24, ev24, hf⟩ := ol_e hf
        refine g_nm ev24 ?_
        obtain ⟨σ25, eσ25, hf⟩ := ol_e hf
        refine g_put (ty := .int) C (a_40 ad cy _) rfl hin_X6 tyX6 tyX6_ok nmX6 3 (by decide) hF_X6_26 rfl rfl (by decide +kernel) rfl rfl (Nat.le_of_ble_eq_true rfl) (p_40_3 ad cy _ _) eσ25 dX6_play_145 ?_
        refine g_aload_n C dX6_play_148 rfl 0 rfl ?_
        refine g_get C (a_40 ad cy _) rfl hin_X6 1 (by decide) hF_X6_21 rfl rfl dX6_play_149 ?_
        refine g_get C (a_32 ad cy _) rfl hin_X1 6 (by decide) hF_X6_57 rfl rfl dX6_play_152 ?_
        refine g_iload C dX6_play_155 6 rfl ?_
        obtain ⟨h26, hf⟩ := og_e hf
        refine g_iald C (a_38 ad cy _) h26 dX6_play_157 ?_
        obtain ⟨v27, ev27, hf⟩ := ol_e hf
        refine g_nm ev27 ?_
        refine g_istore_n (lv2 := [(0, .ref (ad 40)), (1, .int x1), (2, .int x2), (3, .int v27), (4, .int x4), (5, .int v11), (6, .int v13)]) C dX6_play_158 rfl (by decide) [1, 2, 3, 0, 4, 5, 6] rfl ?_
        exact g_sub [0, 1, 2, 3, 4] rfl (fX6_play_b159_ok C sf_22 hs_22 σ25 x1 x2 v27 x4 hf)
      · refine g_if_eq_f (tgt := 110) C dX6_play_81 (by decide) c17 ?_
        exact g_sub [0, 1, 2, 3, 4] rfl (fX6_play_b84_ok C sf_22 hs_22 σ x1 x2 x3 x4 hf)
def fX6_play_h22  : Nat → S0 → Int32 → Int32 → Int32 → Int32 → Option (Int32 × S0)
  | 0 => fun _ _ _ _ _ => none
  | n + 1 => fun σ x1 x2 x3 x4 => fX6_play_b22  (fX6_play_h22  n) σ x1 x2 x3 x4
set_option maxHeartbeats 1000000 in
set_option maxRecDepth 100000 in
theorem fX6_play_h22_ok {p : Program} {l : Launch} {e : Env} {s : State} {m : MethodId} {args : Array Value} {below : List Frame} {meth : Method} {c : Code} {dC : Nat → ClassId} {dI : Nat → Nat → Nat} {ad : Nat → Nat} {cy : Nat → ClassId} {sz : Nat} (C : Cx p s m args meth c RX6 cX6_play 7 none dC dI ad cy sz) {rr : Int32} {ρ : S0}  : ∀ (n : Nat) (σ : S0) (x1 : Int32) (x2 : Int32) (x3 : Int32) (x4 : Int32)  (_hf : fX6_play_h22  n σ x1 x2 x3 x4 = some (rr, ρ)), Gw p l e rm_X6_play s m args below meth c (MQ below (QcV dC dI ad cy sz ρ) args s 0 0 (AW ad sz)) dC dI ad cy 7 sz 0 0 22 [(0, .ref (ad 40)), (1, .int x1), (2, .int x2), (3, .int x3), (4, .int x4)] [] σ
  | 0, _, _, _, _, _, hf => by cases hf
  | n + 1, σ, x1, x2, x3, x4, hf => fX6_play_b22_ok C  (fX6_play_h22  n) (fX6_play_h22_ok C  n) σ x1 x2 x3 x4 hf
def fX6_play (σ : S0) (x1 : Int32) : Option (Int32 × S0) := ol (su σ 40 2 0) (fun σ1 => ol (su σ1 40 3 0) (fun σ2 => ol (su σ2 40 4 0) (fun σ3 => fX6_play_h22 400 σ3 x1 0 0 0)))
set_option maxHeartbeats 1000000 in
set_option maxRecDepth 100000 in
theorem fX6_play_ok {p : Program} {l : Launch} {e : Env} {s : State} {m : MethodId} {args : Array Value} {below : List Frame} {meth : Method} {c : Code} {dC : Nat → ClassId} {dI : Nat → Nat → Nat} {ad : Nat → Nat} {cy : Nat → ClassId} {sz : Nat} (C : Cx p s m args meth c RX6 cX6_play 7 none dC dI ad cy sz) {rr : Int32} {ρ : S0} (σ : S0) (x1 : Int32)  (hf : fX6_play σ x1 = some (rr, ρ)) : Gw p l e rm_X6_play s m args below meth c (MQ below (QcV dC dI ad cy sz ρ) args s 0 0 (AW ad sz)) dC dI ad cy 7 sz 0 0 0 [(0, .ref (ad 40)), (1, .int x1)] [] σ := by
  unfold fX6_play at hf
  refine g_aload_n C dX6_play_0 rfl 0 rfl ?_
  refine g_iconst (v := 0) C dX6_play_1 (by decide) ?_
  obtain ⟨σ1, eσ1, hf⟩ := ol_e hf
  refine g_put (ty := .int) C (a_40 ad cy _) rfl hin_X6 tyX6 tyX6_ok nmX6 2 (by decide) hF_X6_22 rfl rfl (by decide +kernel) rfl rfl (Nat.le_of_ble_eq_true rfl) (p_40_2 ad cy _ _) eσ1 dX6_play_2 ?_
  refine g_aload_n C dX6_play_5 rfl 0 rfl ?_
  refine g_iconst (v := 0) C dX6_play_6 (by decide) ?_
  obtain ⟨σ2, eσ2, hf⟩ := ol_e hf
  refine g_put (ty := .int) C (a_40 ad cy _) rfl hin_X6 tyX6 tyX6_ok nmX6 3 (by decide) hF_X6_26 rfl rfl (by decide +kernel) rfl rfl (Nat.le_of_ble_eq_true rfl) (p_40_3 ad cy _ _) eσ2 dX6_play_7 ?_
  refine g_aload_n C dX6_play_10 rfl 0 rfl ?_
  refine g_iconst (v := 0) C dX6_play_11 (by decide) ?_
  obtain ⟨σ3, eσ3, hf⟩ := ol_e hf
  refine g_put (ty := .int) C (a_40 ad cy _) rfl hin_X6 tyX6 tyX6_ok nmX6 4 (by decide) hF_X6_29 rfl rfl (by decide +kernel) rfl rfl (Nat.le_of_ble_eq_true rfl) (p_40_4 ad cy _ _) eσ3 dX6_play_12 ?_
  refine g_iconst (v := 0) C dX6_play_15 (by decide) ?_
  refine g_istore_n (lv2 := [(0, .ref (ad 40)), (1, .int x1), (2, .int 0)]) C dX6_play_16 rfl (by decide) [1, 2, 0] rfl ?_
  refine g_iconst (v := 0) C dX6_play_17 (by decide) ?_
  refine g_istore_n (lv2 := [(0, .ref (ad 40)), (1, .int x1), (2, .int 0), (3, .int 0)]) C dX6_play_18 rfl (by decide) [1, 2, 3, 0] rfl ?_
  refine g_iconst (v := 0) C dX6_play_19 (by decide) ?_
  refine g_istore (lv2 := [(0, .ref (ad 40)), (1, .int x1), (2, .int 0), (3, .int 0), (4, .int 0)]) C dX6_play_20 (by decide) [1, 2, 3, 4, 0] rfl ?_
  exact g_sub [0, 1, 2, 3, 4] rfl (fX6_play_h22_ok C 400 σ3 x1 0 0 0 hf)
theorem c_X6_play (l : Launch) (dC : Nat → ClassId) (dI : Nat → Nat → Nat) (ad : Nat → Nat) (cy : Nat → ClassId) (x1 : Int32) : ConV l yX6_play cX6_play 7 none rm_X6_play dC dI ad cy [.ref (ad 40), .int x1] (fun σ => fX6_play σ x1) := con_v (own := RX6) (by decide) rfl (Nat.le_of_ble_eq_true rfl) (fun _ _ _ _ _ _ _ _ σ _ _ C hf => fX6_play_ok C σ x1 hf)
theorem cal_X6_play : CalV yX6_play RX6 cX6_play 7 none 1 := ⟨hI_X6_play, hS_X6_play, hIni_X6, hC_X6_play, by decide +kernel⟩
abbrev rm_X6_rang : Room := { frames := 0, cells := 0, slots := 0, locals := 0 }
def fX6_rang (σ : S0) (x1 : Int32) : Option (Int32 × S0) := if ¬ ((σ 40 4) &&& ((1 : Int32) <<< (x1 &&& 31))) = 0 then (some (0, σ)) else (some (1, σ))
set_option maxHeartbeats 1000000 in
set_option maxRecDepth 100000 in
theorem fX6_rang_ok {p : Program} {l : Launch} {e : Env} {s : State} {m : MethodId} {args : Array Value} {below : List Frame} {meth : Method} {c : Code} {dC : Nat → ClassId} {dI : Nat → Nat → Nat} {ad : Nat → Nat} {cy : Nat → ClassId} {sz : Nat} (C : Cx p s m args meth c RX6 cX6_rang 2 (some .boolean) dC dI ad cy sz) {rr : Int32} {ρ : S0} (σ : S0) (x1 : Int32)  (hf : fX6_rang σ x1 = some (rr, ρ)) : Gw p l e rm_X6_rang s m args below meth c (MQ below (QcI dC dI ad cy sz rr ρ) args s 0 0 (AW ad sz)) dC dI ad cy 2 sz 0 0 0 [(0, .ref (ad 40)), (1, .int x1)] [] σ := by
  unfold fX6_rang at hf
  refine g_aload_n C dX6_rang_0 rfl 0 rfl ?_
  refine g_get C (a_40 ad cy _) rfl hin_X6 4 (by decide) hF_X6_29 rfl rfl dX6_rang_1 ?_
  refine g_iconst (v := 1) C dX6_rang_4 (by decide) ?_
  refine g_iload_n C dX6_rang_5 rfl 1 rfl ?_
  refine g_ishl C dX6_rang_6 ?_
  refine g_iand C dX6_rang_7 ?_
  rcases oi_e hf with ⟨c1, hf⟩ | ⟨c1, hf⟩
  · refine g_if_ne_t (tgt := 15) C dX6_rang_8 (by decide) c1 ?_
    refine g_iconst (v := 0) C dX6_rang_15 (by decide) ?_
    obtain ⟨rfl, rfl⟩ := os_e hf
    exact g_zret C rfl (by decide) dX6_rang_16
  · refine g_if_ne_f (tgt := 15) C dX6_rang_8 (by decide) (Decidable.of_not_not c1) ?_
    refine g_iconst (v := 1) C dX6_rang_11 (by decide) ?_
    refine g_goto (tgt := 16) C dX6_rang_12 (by decide) ?_
    obtain ⟨rfl, rfl⟩ := os_e hf
    exact g_zret C rfl (by decide) dX6_rang_16
theorem c_X6_rang (l : Launch) (dC : Nat → ClassId) (dI : Nat → Nat → Nat) (ad : Nat → Nat) (cy : Nat → ClassId) (x1 : Int32) : ConI l yX6_rang cX6_rang 2 (some .boolean) rm_X6_rang dC dI ad cy [.ref (ad 40), .int x1] (fun σ => fX6_rang σ x1) := con_i (own := RX6) (by decide) rfl (Nat.le_of_ble_eq_true rfl) (fun _ _ _ _ _ _ _ _ σ _ _ C hf => fX6_rang_ok C σ x1 hf)
theorem cal_X6_rang : CalV yX6_rang RX6 cX6_rang 2 (some .boolean) 1 := ⟨hI_X6_rang, hS_X6_rang, hIni_X6, hC_X6_rang, by decide +kernel⟩
abbrev rm_X6_tuneTaken : Room := { frames := 1, cells := 0, slots := 0, locals := 26 }
def fX6_tuneTaken_b38 (sf_7 : S0 → Int32 → Int32 → Int32 → Option (Int32 × S0)) (σ : S0) (x1 : Int32) (x2 : Int32) (x3 : Int32) : Option (Int32 × S0) := ol (x3 + 1) (fun v1 => sf_7 σ x1 x2 v1)
set_option maxHeartbeats 1000000 in
set_option maxRecDepth 100000 in
theorem fX6_tuneTaken_b38_ok {p : Program} {l : Launch} {e : Env} {s : State} {m : MethodId} {args : Array Value} {below : List Frame} {meth : Method} {c : Code} {dC : Nat → ClassId} {dI : Nat → Nat → Nat} {ad : Nat → Nat} {cy : Nat → ClassId} {sz : Nat} (C : Cx p s m args meth c RX6 cX6_tuneTaken 4 (some .int) dC dI ad cy sz) {rr : Int32} {ρ : S0} (sf_7 : S0 → Int32 → Int32 → Int32 → Option (Int32 × S0)) (hs_7 : ∀ (σ : S0) (x1 : Int32) (x2 : Int32) (x3 : Int32) , sf_7 σ x1 x2 x3 = some (rr, ρ) → Gw p l e rm_X6_tuneTaken s m args below meth c (MQ below (QcI dC dI ad cy sz rr ρ) args s 0 0 (AW ad sz)) dC dI ad cy 4 sz 0 0 7 [(0, .ref (ad 40)), (1, .int x1), (2, .int x2), (3, .int x3)] [] σ) (σ : S0) (x1 : Int32) (x2 : Int32) (x3 : Int32)  (hf : fX6_tuneTaken_b38 sf_7 σ x1 x2 x3 = some (rr, ρ)) : Gw p l e rm_X6_tuneTaken s m args below meth c (MQ below (QcI dC dI ad cy sz rr ρ) args s 0 0 (AW ad sz)) dC dI ad cy 4 sz 0 0 38 [(0, .ref (ad 40)), (1, .int x1), (2, .int x2), (3, .int x3)] [] σ := by
  unfold fX6_tuneTaken_b38 at hf
  obtain ⟨v1, ev1, hf⟩ := ol_e hf
  refine g_iinc (j := 3) (w := 1) (lv2 := [(0, .ref (ad 40)), (1, .int x1), (2, .int x2), (3, .int v1)]) C dX6_tuneTaken_38 rfl (by decide) ev1 (by decide) [1, 2, 3, 0] rfl ?_
  refine g_goto (tgt := 7) C dX6_tuneTaken_41 (by decide) ?_
  exact g_sub [0, 1, 2, 3] rfl (hs_7 σ x1 x2 v1 hf)
def fX6_tuneTaken_b7 (sf_7 : S0 → Int32 → Int32 → Int32 → Option (Int32 × S0)) (σ : S0) (x1 : Int32) (x2 : Int32) (x3 : Int32) : Option (Int32 × S0) := if (σ 22 2) ≤ x3 then (some (x1, σ)) else (obp (fX6_play σ x3) (fun r2 σ3 => if (σ3 40 5) ≤ x2 then (fX6_tuneTaken_b38 sf_7 σ3 x1 x2 x3) else (ol (σ3 40 5) (fun v6 => fX6_tuneTaken_b38 sf_7 σ3 x3 v6 x3))))
set_option maxHeartbeats 1000000 in
set_option maxRecDepth 100000 in
theorem fX6_tuneTaken_b7_ok {p : Program} {l : Launch} {e : Env} {s : State} {m : MethodId} {args : Array Value} {below : List Frame} {meth : Method} {c : Code} {dC : Nat → ClassId} {dI : Nat → Nat → Nat} {ad : Nat → Nat} {cy : Nat → ClassId} {sz : Nat} (C : Cx p s m args meth c RX6 cX6_tuneTaken 4 (some .int) dC dI ad cy sz) {rr : Int32} {ρ : S0} (sf_7 : S0 → Int32 → Int32 → Int32 → Option (Int32 × S0)) (hs_7 : ∀ (σ : S0) (x1 : Int32) (x2 : Int32) (x3 : Int32) , sf_7 σ x1 x2 x3 = some (rr, ρ) → Gw p l e rm_X6_tuneTaken s m args below meth c (MQ below (QcI dC dI ad cy sz rr ρ) args s 0 0 (AW ad sz)) dC dI ad cy 4 sz 0 0 7 [(0, .ref (ad 40)), (1, .int x1), (2, .int x2), (3, .int x3)] [] σ) (σ : S0) (x1 : Int32) (x2 : Int32) (x3 : Int32)  (hf : fX6_tuneTaken_b7 sf_7 σ x1 x2 x3 = some (rr, ρ)) : Gw p l e rm_X6_tuneTaken s m args below meth c (MQ below (QcI dC dI ad cy sz rr ρ) args s 0 0 (AW ad sz)) dC dI ad cy 4 sz 0 0 7 [(0, .ref (ad 40)), (1, .int x1), (2, .int x2), (3, .int x3)] [] σ := by
  unfold fX6_tuneTaken_b7 at hf
  refine g_iload_n C dX6_tuneTaken_7 rfl 3 rfl ?_
  refine g_aload_n C dX6_tuneTaken_8 rfl 0 rfl ?_
  refine g_get C (a_40 ad cy _) rfl hin_X6 0 (by decide) hF_X6_9 rfl rfl dX6_tuneTaken_9 ?_
  refine g_get C (a_22 ad cy _) rfl hin_X9 2 (by decide) hF_X6_66 rfl rfl dX6_tuneTaken_12 ?_
  rcases oi_e hf with ⟨c1, hf⟩ | ⟨c1, hf⟩
  · refine g_icmp_ge_t (tgt := 44) C dX6_tuneTaken_15 (by decide) c1 ?_
    refine g_iload_n C dX6_tuneTaken_44 rfl 1 rfl ?_
    obtain ⟨rfl, rfl⟩ := os_e hf
    exact g_iret C rfl dX6_tuneTaken_45
  · refine g_icmp_ge_f (tgt := 44) C dX6_tuneTaken_15 (by decide) c1 ?_
    refine g_aload_n C dX6_tuneTaken_18 rfl 0 rfl ?_
    refine g_iload_n C dX6_tuneTaken_19 rfl 3 rfl ?_
    obtain ⟨r2, σ3, h4, hf⟩ := obp_e hf
    refine g_callVv (As := [.int x3]) (rest := []) C (a_40 ad cy _) rfl (c_X6_play l dC dI ad cy x3) h4 hM_X6_69 cal_X6_play ⟨Nat.zero_le _, Nat.zero_le _⟩ ⟨rfl, rfl⟩ ⟨Nat.le_of_ble_eq_true rfl, Nat.le_of_ble_eq_true rfl⟩ rfl rfl (Nat.le_of_ble_eq_true rfl) dX6_tuneTaken_20 ?_
    refine g_aload_n C dX6_tuneTaken_23 rfl 0 rfl ?_
    refine g_get C (a_40 ad cy _) rfl hin_X6 5 (by decide) hF_X6_63 rfl rfl dX6_tuneTaken_24 ?_
    refine g_iload_n C dX6_tuneTaken_27 rfl 2 rfl ?_
    rcases oi_e hf with ⟨c5, hf⟩ | ⟨c5, hf⟩
    · refine g_icmp_le_t (tgt := 38) C dX6_tuneTaken_28 (by decide) c5 ?_
      exact g_sub [0, 1, 2, 3] rfl (fX6_tuneTaken_b38_ok C sf_7 hs_7 σ3 x1 x2 x3 hf)
    · refine g_icmp_le_f (tgt := 38) C dX6_tuneTaken_28 (by decide) c5 ?_
      refine g_aload_n C dX6_tuneTaken_31 rfl 0 rfl ?_
      refine g_get C (a_40 ad cy _) rfl hin_X6 5 (by decide) hF_X6_63 rfl rfl dX6_tuneTaken_32 ?_
      obtain ⟨v6, ev6, hf⟩ := ol_e hf
      refine g_nm ev6 ?_
      refine g_istore_n (lv2 := [(0, .ref (ad 40)), (1, .int x1), (2, .int v6), (3, .int x3)]) C dX6_tuneTaken_35 rfl (by decide) [1, 2, 0, 3] rfl ?_
      refine g_iload_n C dX6_tuneTaken_36 rfl 3 rfl ?_
      refine g_istore_n (lv2 := [(0, .ref (ad 40)), (1, .int x3), (2, .int v6), (3, .int x3)]) C dX6_tuneTaken_37 rfl (by decide) [1, 0, 2, 3] rfl ?_
      exact g_sub [0, 1, 2, 3] rfl (fX6_tuneTaken_b38_ok C sf_7 hs_7 σ3 x3 v6 x3 hf)
def fX6_tuneTaken_h7  : Nat → S0 → Int32 → Int32 → Int32 → Option (Int32 × S0)
  | 0 => fun _ _ _ _ => none
  | n + 1 => fun σ x1 x2 x3 => fX6_tuneTaken_b7  (fX6_tuneTaken_h7  n) σ x1 x2 x3
set_option maxHeartbeats 1000000 in
set_option maxRecDepth 100000 in
theorem fX6_tuneTaken_h7_ok {p : Program} {l : Launch} {e : Env} {s : State} {m : MethodId} {args : Array Value} {below : List Frame} {meth : Method} {c : Code} {dC : Nat → ClassId} {dI : Nat → Nat → Nat} {ad : Nat → Nat} {cy : Nat → ClassId} {sz : Nat} (C : Cx p s m args meth c RX6 cX6_tuneTaken 4 (some .int) dC dI ad cy sz) {rr : Int32} {ρ : S0}  : ∀ (n : Nat) (σ : S0) (x1 : Int32) (x2 : Int32) (x3 : Int32)  (_hf : fX6_tuneTaken_h7  n σ x1 x2 x3 = some (rr, ρ)), Gw p l e rm_X6_tuneTaken s m args below meth c (MQ below (QcI dC dI ad cy sz rr ρ) args s 0 0 (AW ad sz)) dC dI ad cy 4 sz 0 0 7 [(0, .ref (ad 40)), (1, .int x1), (2, .int x2), (3, .int x3)] [] σ
  | 0, _, _, _, _, hf => by cases hf
  | n + 1, σ, x1, x2, x3, hf => fX6_tuneTaken_b7_ok C  (fX6_tuneTaken_h7  n) (fX6_tuneTaken_h7_ok C  n) σ x1 x2 x3 hf
def fX6_tuneTaken (σ : S0)  : Option (Int32 × S0) := fX6_tuneTaken_h7 400 σ ((-4)) 0 0
set_option maxHeartbeats 1000000 in
set_option maxRecDepth 100000 in
theorem fX6_tuneTaken_ok {p : Program} {l : Launch} {e : Env} {s : State} {m : MethodId} {args : Array Value} {below : List Frame} {meth : Method} {c : Code} {dC : Nat → ClassId} {dI : Nat → Nat → Nat} {ad : Nat → Nat} {cy : Nat → ClassId} {sz : Nat} (C : Cx p s m args meth c RX6 cX6_tuneTaken 4 (some .int) dC dI ad cy sz) {rr : Int32} {ρ : S0} (σ : S0)   (hf : fX6_tuneTaken σ = some (rr, ρ)) : Gw p l e rm_X6_tuneTaken s m args below meth c (MQ below (QcI dC dI ad cy sz rr ρ) args s 0 0 (AW ad sz)) dC dI ad cy 4 sz 0 0 0 [(0, .ref (ad 40))] [] σ := by
  unfold fX6_tuneTaken at hf
  refine g_bipush (v := (-4)) C dX6_tuneTaken_0 (by decide) ?_
  refine g_istore_n (lv2 := [(0, .ref (ad 40)), (1, .int ((-4)))]) C dX6_tuneTaken_2 rfl (by decide) [1, 0] rfl ?_
  refine g_iconst (v := 0) C dX6_tuneTaken_3 (by decide) ?_
  refine g_istore_n (lv2 := [(0, .ref (ad 40)), (1, .int ((-4))), (2, .int 0)]) C dX6_tuneTaken_4 rfl (by decide) [1, 2, 0] rfl ?_
  refine g_iconst (v := 0) C dX6_tuneTaken_5 (by decide) ?_
  refine g_istore_n (lv2 := [(0, .ref (ad 40)), (1, .int ((-4))), (2, .int 0), (3, .int 0)]) C dX6_tuneTaken_6 rfl (by decide) [1, 2, 3, 0] rfl ?_
  exact g_sub [0, 1, 2, 3] rfl (fX6_tuneTaken_h7_ok C 400 σ ((-4)) 0 0 hf)
theorem c_X6_tuneTaken (l : Launch) (dC : Nat → ClassId) (dI : Nat → Nat → Nat) (ad : Nat → Nat) (cy : Nat → ClassId)  : ConI l yX6_tuneTaken cX6_tuneTaken 4 (some .int) rm_X6_tuneTaken dC dI ad cy [.ref (ad 40)] (fun σ => fX6_tuneTaken σ) := con_i (own := RX6) (by decide) rfl (Nat.le_of_ble_eq_true rfl) (fun _ _ _ _ _ _ _ _ σ _ _ C hf => fX6_tuneTaken_ok C σ  hf)
theorem cal_X6_tuneTaken : CalV yX6_tuneTaken RX6 cX6_tuneTaken 4 (some .int) 0 := ⟨hI_X6_tuneTaken, hS_X6_tuneTaken, hIni_X6, hC_X6_tuneTaken, by decide +kernel⟩
abbrev rm_X6_shareOf : Room := { frames := 2, cells := 0, slots := 0, locals := 44 }
def fX6_shareOf_b56 (sf_10 : S0 → Int32 → Int32 → Int32 → Int32 → Option (Int32 × S0)) (σ : S0) (x1 : Int32) (x2 : Int32) (x3 : Int32) (x4 : Int32) : Option (Int32 × S0) := ol (x4 + 1) (fun v1 => sf_10 σ x1 x2 x3 v1)
set_option maxHeartbeats 1000000 in
set_option maxRecDepth 100000 in
theorem fX6_shareOf_b56_ok {p : Program} {l : Launch} {e : Env} {s : State} {m : MethodId} {args : Array Value} {below : List Frame} {meth : Method} {c : Code} {dC : Nat → ClassId} {dI : Nat → Nat → Nat} {ad : Nat → Nat} {cy : Nat → ClassId} {sz : Nat} (C : Cx p s m args meth c RX6 cX6_shareOf 5 (some .int) dC dI ad cy sz) {rr : Int32} {ρ : S0} (sf_10 : S0 → Int32 → Int32 → Int32 → Int32 → Option (Int32 × S0)) (hs_10 : ∀ (σ : S0) (x1 : Int32) (x2 : Int32) (x3 : Int32) (x4 : Int32) , sf_10 σ x1 x2 x3 x4 = some (rr, ρ) → Gw p l e rm_X6_shareOf s m args below meth c (MQ below (QcI dC dI ad cy sz rr ρ) args s 0 0 (AW ad sz)) dC dI ad cy 5 sz 0 0 10 [(0, .ref (ad 40)), (1, .int x1), (2, .int x2), (3, .int x3), (4, .int x4)] [] σ) (σ : S0) (x1 : Int32) (x2 : Int32) (x3 : Int32) (x4 : Int32)  (hf : fX6_shareOf_b56 sf_10 σ x1 x2 x3 x4 = some (rr, ρ)) : Gw p l e rm_X6_shareOf s m args below meth c (MQ below (QcI dC dI ad cy sz rr ρ) args s 0 0 (AW ad sz)) dC dI ad cy 5 sz 0 0 56 [(0, .ref (ad 40)), (1, .int x1), (2, .int x2), (3, .int x3), (4, .int x4)] [] σ := by
  unfold fX6_shareOf_b56 at hf
  obtain ⟨v1, ev1, hf⟩ := ol_e hf
  refine g_iinc (j := 4) (w := 1) (lv2 := [(0, .ref (ad 40)), (1, .int x1), (2, .int x2), (3, .int x3), (4, .int v1)]) C dX6_shareOf_56 rfl (by decide) ev1 (by decide) [1, 2, 3, 4, 0] rfl ?_
  refine g_goto (tgt := 10) C dX6_shareOf_59 (by decide) ?_
  exact g_sub [0, 1, 2, 3, 4] rfl (hs_10 σ x1 x2 x3 v1 hf)
def fX6_shareOf_b10 (sf_10 : S0 → Int32 → Int32 → Int32 → Int32 → Option (Int32 × S0)) (σ : S0) (x1 : Int32) (x2 : Int32) (x3 : Int32) (x4 : Int32) : Option (Int32 × S0) := og (¬ (x2 < 0 ∨ 6 ≤ x2.toNatClampNeg)) (ol (σ 24 x2.toNatClampNeg) (fun v2 => if v2 ≤ x4 then (some (x3, σ)) else (obp (fX6_rang σ x4) (fun r4 σ5 => if r4 = 0 then (fX6_shareOf_b56 sf_10 σ5 x1 x2 x3 x4) else (og (¬ (x2 < 0 ∨ 6 ≤ x2.toNatClampNeg)) (ol (26 + 1 * x2.toNatClampNeg) (fun q9 => og (¬ (x4 < 0 ∨ 12 ≤ x4.toNatClampNeg)) (ol (σ5 q9 x4.toNatClampNeg) (fun v11 => obp (fX1_shareOf σ5 32 x1 v11) (fun r12 σ13 => ol (x3 + r12) (fun v15 => fX6_shareOf_b56 sf_10 σ13 x1 x2 v15 x4)))))))))))
set_option maxHeartbeats 1000000 in
set_option maxRecDepth 100000 in
theorem fX6_shareOf_b10_ok {p : Program} {l : Launch} {e : Env} {s : State} {m : MethodId} {args : Array Value} {below : List Frame} {meth : Method} {c : Code} {dC : Nat → ClassId} {dI : Nat → Nat → Nat} {ad : Nat → Nat} {cy : Nat → ClassId} {sz : Nat} (C : Cx p s m args meth c RX6 cX6_shareOf 5 (some .int) dC dI ad cy sz) {rr : Int32} {ρ : S0} (sf_10 : S0 → Int32 → Int32 → Int32 → Int32 → Option (Int32 × S0)) (hs_10 : ∀ (σ : S0) (x1 : Int32) (x2 : Int32) (x3 : Int32) (x4 : Int32) , sf_10 σ x1 x2 x3 x4 = some (rr, ρ) → Gw p l e rm_X6_shareOf s m args below meth c (MQ below (QcI dC dI ad cy sz rr ρ) args s 0 0 (AW ad sz)) dC dI ad cy 5 sz 0 0 10 [(0, .ref (ad 40)), (1, .int x1), (2, .int x2), (3, .int x3), (4, .int x4)] [] σ) (σ : S0) (x1 : Int32) (x2 : Int32) (x3 : Int32) (x4 : Int32)  (hf : fX6_shareOf_b10 sf_10 σ x1 x2 x3 x4 = some (rr, ρ)) : Gw p l e rm_X6_shareOf s m args below meth c (MQ below (QcI dC dI ad cy sz rr ρ) args s 0 0 (AW ad sz)) dC dI ad cy 5 sz 0 0 10 [(0, .ref (ad 40)), (1, .int x1), (2, .int x2), (3, .int x3), (4, .int x4)] [] σ := by
  unfold fX6_shareOf_b10 at hf
  refine g_iload C dX6_shareOf_10 4 rfl ?_
  refine g_aload_n C dX6_shareOf_12 rfl 0 rfl ?_
  refine g_get C (a_40 ad cy _) rfl hin_X6 0 (by decide) hF_X6_9 rfl rfl dX6_shareOf_13 ?_
  refine g_get C (a_22 ad cy _) rfl hin_X9 4 (by decide) hF_X6_32 rfl rfl dX6_shareOf_16 ?_
  refine g_iload_n C dX6_shareOf_19 rfl 2 rfl ?_
  obtain ⟨h1, hf⟩ := og_e hf
  refine g_iald C (a_24 ad cy _) h1 dX6_shareOf_20 ?_
  obtain ⟨v2, ev2, hf⟩ := ol_e hf
  refine g_nm ev2 ?_
  rcases oi_e hf with ⟨c3, hf⟩ | ⟨c3, hf⟩
  · refine g_icmp_ge_t (tgt := 62) C dX6_shareOf_21 (by decide) c3 ?_
    refine g_iload_n C dX6_shareOf_62 rfl 3 rfl ?_
    obtain ⟨rfl, rfl⟩ := os_e hf
    exact g_iret C rfl dX6_shareOf_63
  · refine g_icmp_ge_f (tgt := 62) C dX6_shareOf_21 (by decide) c3 ?_
    refine g_aload_n C dX6_shareOf_24 rfl 0 rfl ?_
    refine g_iload C dX6_shareOf_25 4 rfl ?_
    obtain ⟨r4, σ5, h6, hf⟩ := obp_e hf
    refine g_callVi (As := [.int x4]) (rest := []) C (a_40 ad cy _) rfl (c_X6_rang l dC dI ad cy x4) h6 hM_X6_73 cal_X6_rang ⟨Nat.zero_le _, Nat.zero_le _⟩ ⟨rfl, rfl⟩ ⟨Nat.le_of_ble_eq_true rfl, Nat.le_of_ble_eq_true rfl⟩ rfl rfl (Nat.le_of_ble_eq_true rfl) dX6_shareOf_27 ?_
    rcases oi_e hf with ⟨c7, hf⟩ | ⟨c7, hf⟩
    · refine g_if_eq_t (tgt := 56) C dX6_shareOf_30 (by decide) c7 ?_
      exact g_sub [0, 1, 2, 3, 4] rfl (fX6_shareOf_b56_ok C sf_10 hs_10 σ5 x1 x2 x3 x4 hf)
    · refine g_if_eq_f (tgt := 56) C dX6_shareOf_30 (by decide) c7 ?_
      refine g_iload_n C dX6_shareOf_33 rfl 3 rfl ?_
      refine g_aload_n C dX6_shareOf_34 rfl 0 rfl ?_
      refine g_get C (a_40 ad cy _) rfl hin_X6 1 (by decide) hF_X6_21 rfl rfl dX6_shareOf_35 ?_
      refine g_iload_n C dX6_shareOf_38 rfl 1 rfl ?_
      refine g_aload_n C dX6_shareOf_39 rfl 0 rfl ?_
      refine g_get C (a_40 ad cy _) rfl hin_X6 0 (by decide) hF_X6_9 rfl rfl dX6_shareOf_40 ?_
      refine g_get C (a_22 ad cy _) rfl hin_X9 5 (by decide) hF_X6_36 rfl rfl dX6_shareOf_43 ?_
      refine g_iload_n C dX6_shareOf_46 rfl 2 rfl ?_
      obtain ⟨h8, hf⟩ := og_e hf
      obtain ⟨q9, eq9, hf⟩ := ol_e hf
      refine g_aald C (a_25 ad cy _) rfl rfl h8 dX6_shareOf_47 ?_
      refine g_nmr eq9 ?_
      have hq9 := (o_25 h8 eq9)
      refine g_iload C dX6_shareOf_48 4 rfl ?_
      obtain ⟨h10, hf⟩ := og_e hf
      refine g_iald C (s_row hq9 ad cy _) h10 dX6_shareOf_50 ?_
      obtain ⟨v11, ev11, hf⟩ := ol_e hf
      refine g_nm ev11 ?_
      obtain ⟨r12, σ13, h14, hf⟩ := obp_e hf
      refine g_callVi (As := [.int x1, .int v11]) (rest := [.int x3]) C (a_32 ad cy _) rfl (c_X1_shareOf l dC dI ad cy 32 k_isChimes_32 x1 v11) h14 hM_X6_77 cal_X1_shareOf ⟨Nat.zero_le _, Nat.zero_le _⟩ ⟨rfl, rfl⟩ ⟨Nat.le_of_ble_eq_true rfl, Nat.le_of_ble_eq_true rfl⟩ rfl rfl (Nat.le_of_ble_eq_true rfl) dX6_shareOf_51 ?_
      refine g_iadd C dX6_shareOf_54 ?_
      obtain ⟨v15, ev15, hf⟩ := ol_e hf
      refine g_nm ev15 ?_
      refine g_istore_n (lv2 := [(0, .ref (ad 40)), (1, .int x1), (2, .int x2), (3, .int v15), (4, .int x4)]) C dX6_shareOf_55 rfl (by decide) [1, 2, 3, 0, 4] rfl ?_
      exact g_sub [0, 1, 2, 3, 4] rfl (fX6_shareOf_b56_ok C sf_10 hs_10 σ13 x1 x2 v15 x4 hf)
def fX6_shareOf_h10  : Nat → S0 → Int32 → Int32 → Int32 → Int32 → Option (Int32 × S0)
  | 0 => fun _ _ _ _ _ => none
  | n + 1 => fun σ x1 x2 x3 x4 => fX6_shareOf_b10  (fX6_shareOf_h10  n) σ x1 x2 x3 x4
set_option maxHeartbeats 1000000 in
set_option maxRecDepth 100000 in
theorem fX6_shareOf_h10_ok {p : Program} {l : Launch} {e : Env} {s : State} {m : MethodId} {args : Array Value} {below : List Frame} {meth : Method} {c : Code} {dC : Nat → ClassId} {dI : Nat → Nat → Nat} {ad : Nat → Nat} {cy : Nat → ClassId} {sz : Nat} (C : Cx p s m args meth c RX6 cX6_shareOf 5 (some .int) dC dI ad cy sz) {rr : Int32} {ρ : S0}  : ∀ (n : Nat) (σ : S0) (x1 : Int32) (x2 : Int32) (x3 : Int32) (x4 : Int32)  (_hf : fX6_shareOf_h10  n σ x1 x2 x3 x4 = some (rr, ρ)), Gw p l e rm_X6_shareOf s m args below meth c (MQ below (QcI dC dI ad cy sz rr ρ) args s 0 0 (AW ad sz)) dC dI ad cy 5 sz 0 0 10 [(0, .ref (ad 40)), (1, .int x1), (2, .int x2), (3, .int x3), (4, .int x4)] [] σ
  | 0, _, _, _, _, _, hf => by cases hf
  | n + 1, σ, x1, x2, x3, x4, hf => fX6_shareOf_b10_ok C  (fX6_shareOf_h10  n) (fX6_shareOf_h10_ok C  n) σ x1 x2 x3 x4 hf
def fX6_shareOf (σ : S0) (x1 : Int32) (x2 : Int32) : Option (Int32 × S0) := obp (fX6_play σ x2) (fun r1 σ2 => fX6_shareOf_h10 400 σ2 x1 x2 0 0)
set_option maxHeartbeats 1000000 in
set_option maxRecDepth 100000 in
theorem fX6_shareOf_ok {p : Program} {l : Launch} {e : Env} {s : State} {m : MethodId} {args : Array Value} {below : List Frame} {meth : Method} {c : Code} {dC : Nat → ClassId} {dI : Nat → Nat → Nat} {ad : Nat → Nat} {cy : Nat → ClassId} {sz : Nat} (C : Cx p s m args meth c RX6 cX6_shareOf 5 (some .int) dC dI ad cy sz) {rr : Int32} {ρ : S0} (σ : S0) (x1 : Int32) (x2 : Int32)  (hf : fX6_shareOf σ x1 x2 = some (rr, ρ)) : Gw p l e rm_X6_shareOf s m args below meth c (MQ below (QcI dC dI ad cy sz rr ρ) args s 0 0 (AW ad sz)) dC dI ad cy 5 sz 0 0 0 [(0, .ref (ad 40)), (1, .int x1), (2, .int x2)] [] σ := by
  unfold fX6_shareOf at hf
  refine g_aload_n C dX6_shareOf_0 rfl 0 rfl ?_
  refine g_iload_n C dX6_shareOf_1 rfl 2 rfl ?_
  obtain ⟨r1, σ2, h3, hf⟩ := obp_e hf
  refine g_callVv (As := [.int x2]) (rest := []) C (a_40 ad cy _) rfl (c_X6_play l dC dI ad cy x2) h3 hM_X6_69 cal_X6_play ⟨Nat.zero_le _, Nat.zero_le _⟩ ⟨rfl, rfl⟩ ⟨Nat.le_of_ble_eq_true rfl, Nat.le_of_ble_eq_true rfl⟩ rfl rfl (Nat.le_of_ble_eq_true rfl) dX6_shareOf_2 ?_
  refine g_iconst (v := 0) C dX6_shareOf_5 (by decide) ?_
  refine g_istore_n (lv2 := [(0, .ref (ad 40)), (1, .int x1), (2, .int x2), (3, .int 0)]) C dX6_shareOf_6 rfl (by decide) [1, 2, 3, 0] rfl ?_
  refine g_iconst (v := 0) C dX6_shareOf_7 (by decide) ?_
  refine g_istore (lv2 := [(0, .ref (ad 40)), (1, .int x1), (2, .int x2), (3, .int 0), (4, .int 0)]) C dX6_shareOf_8 (by decide) [1, 2, 3, 4, 0] rfl ?_
  exact g_sub [0, 1, 2, 3, 4] rfl (fX6_shareOf_h10_ok C 400 σ2 x1 x2 0 0 hf)
theorem c_X6_shareOf (l : Launch) (dC : Nat → ClassId) (dI : Nat → Nat → Nat) (ad : Nat → Nat) (cy : Nat → ClassId) (x1 : Int32) (x2 : Int32) : ConI l yX6_shareOf cX6_shareOf 5 (some .int) rm_X6_shareOf dC dI ad cy [.ref (ad 40), .int x1, .int x2] (fun σ => fX6_shareOf σ x1 x2) := con_i (own := RX6) (by decide) rfl (Nat.le_of_ble_eq_true rfl) (fun _ _ _ _ _ _ _ _ σ _ _ C hf => fX6_shareOf_ok C σ x1 x2 hf)
theorem cal_X6_shareOf : CalV yX6_shareOf RX6 cX6_shareOf 5 (some .int) 2 := ⟨hI_X6_shareOf, hS_X6_shareOf, hIni_X6, hC_X6_shareOf, by decide +kernel⟩
abbrev rm_X6_wageOf : Room := { frames := 3, cells := 0, slots := 0, locals := 68 }
def fX6_wageOf (σ : S0) (x1 : Int32) : Option (Int32 × S0) := obp (fX6_tuneTaken σ) (fun r1 σ2 => if ¬ r1 = ((-4)) then (obp (fX6_shareOf σ2 x1 r1) (fun r5 σ6 => some (r5, σ6))) else (some (0, σ2)))
set_option maxHeartbeats 1000000 in
set_option maxRecDepth 100000 in
theorem fX6_wageOf_ok {p : Program} {l : Launch} {e : Env} {s : State} {m : MethodId} {args : Array Value} {below : List Frame} {meth : Method} {c : Code} {dC : Nat → ClassId} {dI : Nat → Nat → Nat} {ad : Nat → Nat} {cy : Nat → ClassId} {sz : Nat} (C : Cx p s m args meth c RX6 cX6_wageOf 3 (some .int) dC dI ad cy sz) {rr : Int32} {ρ : S0} (σ : S0) (x1 : Int32)  (hf : fX6_wageOf σ x1 = some (rr, ρ)) : Gw p l e rm_X6_wageOf s m args below meth c (MQ below (QcI dC dI ad cy sz rr ρ) args s 0 0 (AW ad sz)) dC dI ad cy 3 sz 0 0 0 [(0, .ref (ad 40)), (1, .int x1)] [] σ := by
  unfold fX6_wageOf at hf
  refine g_aload_n C dX6_wageOf_0 rfl 0 rfl ?_
  obtain ⟨r1, σ2, h3, hf⟩ := obp_e hf
  refine g_callVi (As := []) (rest := []) C (a_40 ad cy _) rfl (c_X6_tuneTaken l dC dI ad cy ) h3 hM_X6_81 cal_X6_tuneTaken ⟨Nat.zero_le _, Nat.zero_le _⟩ ⟨rfl, rfl⟩ ⟨Nat.le_of_ble_eq_true rfl, Nat.le_of_ble_eq_true rfl⟩ rfl rfl (Nat.le_of_ble_eq_true rfl) dX6_wageOf_1 ?_
  refine g_istore_n (lv2 := [(0, .ref (ad 40)), (1, .int x1), (2, .int r1)]) C dX6_wageOf_4 rfl (by decide) [1, 2, 0] rfl ?_
  refine g_iload_n C dX6_wageOf_5 rfl 2 rfl ?_
  refine g_bipush (v := (-4)) C dX6_wageOf_6 (by decide) ?_
  rcases oi_e hf with ⟨c4, hf⟩ | ⟨c4, hf⟩
  · refine g_icmp_ne_t (tgt := 15) C dX6_wageOf_8 (by decide) c4 ?_
    refine g_aload_n C dX6_wageOf_15 rfl 0 rfl ?_
    refine g_iload_n C dX6_wageOf_16 rfl 1 rfl ?_
    refine g_iload_n C dX6_wageOf_17 rfl 2 rfl ?_
    obtain ⟨r5, σ6, h7, hf⟩ := obp_e hf
    refine g_callVi (As := [.int x1, .int r1]) (rest := []) C (a_40 ad cy _) rfl (c_X6_shareOf l dC dI ad cy x1 r1) h7 hM_X6_85 cal_X6_shareOf ⟨Nat.zero_le _, Nat.zero_le _⟩ ⟨rfl, rfl⟩ ⟨Nat.le_of_ble_eq_true rfl, Nat.le_of_ble_eq_true rfl⟩ rfl rfl (Nat.le_of_ble_eq_true rfl) dX6_wageOf_18 ?_
    obtain ⟨rfl, rfl⟩ := os_e hf
    exact g_iret C rfl dX6_wageOf_21
  · refine g_icmp_ne_f (tgt := 15) C dX6_wageOf_8 (by decide) (Decidable.of_not_not c4) ?_
    refine g_iconst (v := 0) C dX6_wageOf_11 (by decide) ?_
    refine g_goto (tgt := 21) C dX6_wageOf_12 (by decide) ?_
    obtain ⟨rfl, rfl⟩ := os_e hf
    exact g_iret C rfl dX6_wageOf_21
theorem c_X6_wageOf (l : Launch) (dC : Nat → ClassId) (dI : Nat → Nat → Nat) (ad : Nat → Nat) (cy : Nat → ClassId) (x1 : Int32) : ConI l yX6_wageOf cX6_wageOf 3 (some .int) rm_X6_wageOf dC dI ad cy [.ref (ad 40), .int x1] (fun σ => fX6_wageOf σ x1) := con_i (own := RX6) (by decide) rfl (Nat.le_of_ble_eq_true rfl) (fun _ _ _ _ _ _ _ _ σ _ _ C hf => fX6_wageOf_ok C σ x1 hf)
theorem cal_X6_wageOf : CalV yX6_wageOf RX6 cX6_wageOf 3 (some .int) 1 := ⟨hI_X6_wageOf, hS_X6_wageOf, hIni_X6, hC_X6_wageOf, by decide +kernel⟩
abbrev rm_X0_weighTune : Room := { frames := 1, cells := 0, slots := 0, locals := 26 }
def fX0_weighTune_b175 (sf_44 : S0 → Int32 → Int32 → Int32 → Option (Int32 × S0)) (σ : S0) (x1 : Int32) (x2 : Int32) (x3 : Int32) : Option (Int32 × S0) := ol (x3 + 1) (fun v1 => sf_44 σ x1 x2 v1)
set_option maxHeartbeats 1000000 in
set_option maxRecDepth 100000 in
theorem fX0_weighTune_b175_ok {p : Program} {l : Launch} {e : Env} {s : State} {m : MethodId} {args : Array Value} {below : List Frame} {meth : Method} {c : Code} {dC : Nat → ClassId} {dI : Nat → Nat → Nat} {ad : Nat → Nat} {cy : Nat → ClassId} {sz : Nat} (C : Cx p s m args meth c RX0 cX0_weighTune 6 none dC dI ad cy sz) {rr : Int32} {ρ : S0} (sf_44 : S0 → Int32 → Int32 → Int32 → Option (Int32 × S0)) (hs_44 : ∀ (σ : S0) (x1 : Int32) (x2 : Int32) (x3 : Int32) , sf_44 σ x1 x2 x3 = some (rr, ρ) → Gw p l e rm_X0_weighTune s m args below meth c (MQ below (QcV dC dI ad cy sz ρ) args s 0 0 (AW ad sz)) dC dI ad cy 6 sz 0 0 44 [(0, .ref (ad 41)), (1, .int x1), (2, .int x2), (3, .int x3)] [] σ) (σ : S0) (x1 : Int32) (x2 : Int32) (x3 : Int32)  (hf : fX0_weighTune_b175 sf_44 σ x1 x2 x3 = some (rr, ρ)) : Gw p l e rm_X0_weighTune s m args below meth c (MQ below (QcV dC dI ad cy sz ρ) args s 0 0 (AW ad sz)) dC dI ad cy 6 sz 0 0 175 [(0, .ref (ad 41)), (1, .int x1), (2, .int x2), (3, .int x3)] [] σ := by
  unfold fX0_weighTune_b175 at hf
  obtain ⟨v1, ev1, hf⟩ := ol_e hf
  refine g_iinc (j := 3) (w := 1) (lv2 := [(0, .ref (ad 41)), (1, .int x1), (2, .int x2), (3, .int v1)]) C dX0_weighTune_175 rfl (by decide) ev1 (by decide) [1, 2, 3, 0] rfl ?_
  refine g_goto (tgt := 44) C dX0_weighTune_178 (by decide) ?_
  exact g_sub [0, 1, 2, 3] rfl (hs_44 σ x1 x2 v1 hf)
def fX0_weighTune_b44 (sf_44 : S0 → Int32 → Int32 → Int32 → Option (Int32 × S0)) (σ : S0) (x1 : Int32) (x2 : Int32) (x3 : Int32) : Option (Int32 × S0) := og (¬ (x2 < 0 ∨ 6 ≤ x2.toNatClampNeg)) (ol (σ 24 x2.toNatClampNeg) (fun v2 => if v2 ≤ x3 then (some (0, σ)) else (obp (fX6_rang σ x3) (fun r4 σ5 => if ¬ r4 = 0 then (og (¬ (x2 < 0 ∨ 6 ≤ x2.toNatClampNeg)) (ol (26 + 1 * x2.toNatClampNeg) (fun q9 => og (¬ (x3 < 0 ∨ 12 ≤ x3.toNatClampNeg)) (ol (σ5 q9 x3.toNatClampNeg) (fun v11 => obp (fX1_partsOf σ5 32 x1 v11) (fun r12 σ13 => og (¬ (v11 < 0 ∨ 12 ≤ v11.toNatClampNeg)) (ol (σ13 33 v11.toNatClampNeg) (fun v16 => if ¬ v16 = x1 then (og (¬ (x2 < 0 ∨ 6 ≤ x2.toNatClampNeg)) (ol (σ13 45 x2.toNatClampNeg) (fun v19 => og (¬ (v11 < 0 ∨ 12 ≤ v11.toNatClampNeg)) (ol (σ13 34 v11.toNatClampNeg) (fun v21 => ol (v19 + (r12 * v21)) (fun v22 => og (¬ (x2 < 0 ∨ 6 ≤ x2.toNatClampNeg)) (ol (su σ13 45 x2.toNatClampNeg v22) (fun σ24 => fX0_weighTune_b175 sf_44 σ24 x1 x2 x3)))))))) else (og (¬ (x2 < 0 ∨ 6 ≤ x2.toNatClampNeg)) (ol (σ13 42 x2.toNatClampNeg) (fun v26 => og (¬ (v11 < 0 ∨ 12 ≤ v11.toNatClampNeg)) (ol (σ13 34 v11.toNatClampNeg) (fun v28 => ol (v26 + v28) (fun v29 => og (¬ (x2 < 0 ∨ 6 ≤ x2.toNatClampNeg)) (ol (su σ13 42 x2.toNatClampNeg v29) (fun σ31 => og (¬ (x2 < 0 ∨ 6 ≤ x2.toNatClampNeg)) (ol (σ31 43 x2.toNatClampNeg) (fun v33 => ol (v33 + 1) (fun v34 => og (¬ (x2 < 0 ∨ 6 ≤ x2.toNatClampNeg)) (ol (su σ31 43 x2.toNatClampNeg v34) (fun σ36 => og (¬ (x2 < 0 ∨ 6 ≤ x2.toNatClampNeg)) (ol (σ36 44 x2.toNatClampNeg) (fun v38 => ol (v38 + r12) (fun v39 => og (¬ (x2 < 0 ∨ 6 ≤ x2.toNatClampNeg)) (ol (su σ36 44 x2.toNatClampNeg v39) (fun σ41 => fX0_weighTune_b175 sf_44 σ41 x1 x2 x3)))))))))))))))))))))))))) else (fX0_weighTune_b175 sf_44 σ5 x1 x2 x3)))))
set_option maxHeartbeats 1000000 in
set_option maxRecDepth 100000 in
theorem fX0_weighTune_b44_ok {p : Program} {l : Launch} {e : Env} {s : State} {m : MethodId} {args : Array Value} {below : List Frame} {meth : Method} {c : Code} {dC : Nat → ClassId} {dI : Nat → Nat → Nat} {ad : Nat → Nat} {cy : Nat → ClassId} {sz : Nat} (C : Cx p s m args meth c RX0 cX0_weighTune 6 none dC dI ad cy sz) {rr : Int32} {ρ : S0} (sf_44 : S0 → Int32 → Int32 → Int32 → Option (Int32 × S0)) (hs_44 : ∀ (σ : S0) (x1 : Int32) (x2 : Int32) (x3 : Int32) , sf_44 σ x1 x2 x3 = some (rr, ρ) → Gw p l e rm_X0_weighTune s m args below meth c (MQ below (QcV dC dI ad cy sz ρ) args s 0 0 (AW ad sz)) dC dI ad cy 6 sz 0 0 44 [(0, .ref (ad 41)), (1, .int x1), (2, .int x2), (3, .int x3)] [] σ) (σ : S0) (x1 : Int32) (x2 : Int32) (x3 : Int32)  (hf : fX0_weighTune_b44 sf_44 σ x1 x2 x3 = some (rr, ρ)) : Gw p l e rm_X0_weighTune s m args below meth c (MQ below (QcV dC dI ad cy sz ρ) args s 0 0 (AW ad sz)) dC dI ad cy 6 sz 0 0 44 [(0, .ref (ad 41)), (1, .int x1), (2, .int x2), (3, .int x3)] [] σ := by
  unfold fX0_weighTune_b44 at hf
  refine g_iload_n C dX0_weighTune_44 rfl 3 rfl ?_
  refine g_aload_n C dX0_weighTune_45 rfl 0 rfl ?_
  refine g_get C (a_41 ad cy _) rfl hin_X0 0 (by decide) hF_X0_24 rfl rfl dX0_weighTune_46 ?_
  refine g_get C (a_22 ad cy _) rfl hin_X9 4 (by decide) hF_X0_56 rfl rfl dX0_weighTune_49 ?_
  refine g_iload_n C dX0_weighTune_52 rfl 2 rfl ?_
  obtain ⟨h1, hf⟩ := og_e hf
  refine g_iald C (a_24 ad cy _) h1 dX0_weighTune_53 ?_
  obtain ⟨v2, ev2, hf⟩ := ol_e hf
  refine g_nm ev2 ?_
  rcases oi_e hf with ⟨c3, hf⟩ | ⟨c3, hf⟩
  · refine g_icmp_ge_t (tgt := 181) C dX0_weighTune_54 (by decide) c3 ?_
    obtain ⟨rfl, rfl⟩ := os_e hf
    exact g_vret C rfl dX0_weighTune_181
  · refine g_icmp_ge_f (tgt := 181) C dX0_weighTune_54 (by decide) c3 ?_
    refine g_aload_n C dX0_weighTune_57 rfl 0 rfl ?_
    refine g_get C (a_41 ad cy _) rfl hin_X0 2 (by decide) hF_X0_35 rfl rfl dX0_weighTune_58 ?_
    refine g_iload_n C dX0_weighTune_61 rfl 3 rfl ?_
    obtain ⟨r4, σ5, h6, hf⟩ := obp_e hf
    refine g_callVi (As := [.int x3]) (rest := []) C (a_40 ad cy _) rfl (c_X6_rang l dC dI ad cy x3) h6 hM_X0_59 cal_X6_rang ⟨Nat.zero_le _, Nat.zero_le _⟩ ⟨rfl, rfl⟩ ⟨Nat.le_of_ble_eq_true rfl, Nat.le_of_ble_eq_true rfl⟩ rfl rfl (Nat.le_of_ble_eq_true rfl) dX0_weighTune_62 ?_
    rcases oi_e hf with ⟨c7, hf⟩ | ⟨c7, hf⟩
    · refine g_if_ne_t (tgt := 71) C dX0_weighTune_65 (by decide) c7 ?_
      refine g_aload_n C dX0_weighTune_71 rfl 0 rfl ?_
      refine g_get C (a_41 ad cy _) rfl hin_X0 0 (by decide) hF_X0_24 rfl rfl dX0_weighTune_72 ?_
      refine g_get C (a_22 ad cy _) rfl hin_X9 5 (by decide) hF_X0_63 rfl rfl dX0_weighTune_75 ?_
      refine g_iload_n C dX0_weighTune_78 rfl 2 rfl ?_
      obtain ⟨h8, hf⟩ := og_e hf
      obtain ⟨q9, eq9, hf⟩ := ol_e hf
      refine g_aald C (a_25 ad cy _) rfl rfl h8 dX0_weighTune_79 ?_
      refine g_nmr eq9 ?_
      have hq9 := (o_25 h8 eq9)
      refine g_iload_n C dX0_weighTune_80 rfl 3 rfl ?_
      obtain ⟨h10, hf⟩ := og_e hf
      refine g_iald C (s_row hq9 ad cy _) h10 dX0_weighTune_81 ?_
      obtain ⟨v11, ev11, hf⟩ := ol_e hf
      refine g_nm ev11 ?_
      refine g_istore (lv2 := [(0, .ref (ad 41)), (1, .int x1), (2, .int x2), (3, .int x3), (4, .int v11)]) C dX0_weighTune_82 (by decide) [1, 2, 3, 4, 0] rfl ?_
      refine g_aload_n C dX0_weighTune_84 rfl 0 rfl ?_
      refine g_get C (a_41 ad cy _) rfl hin_X0 1 (by decide) hF_X0_34 rfl rfl dX0_weighTune_85 ?_
      refine g_iload_n C dX0_weighTune_88 rfl 1 rfl ?_
      refine g_iload C dX0_weighTune_89 4 rfl ?_
      obtain ⟨r12, σ13, h14, hf⟩ := obp_e hf
      refine g_callVi (As := [.int x1, .int v11]) (rest := []) C (a_32 ad cy _) rfl (c_X1_partsOf l dC dI ad cy 32 k_isChimes_32 x1 v11) h14 hM_X0_67 cal_X1_partsOf ⟨Nat.zero_le _, Nat.zero_le _⟩ ⟨rfl, rfl⟩ ⟨Nat.le_of_ble_eq_true rfl, Nat.le_of_ble_eq_true rfl⟩ rfl rfl (Nat.le_of_ble_eq_true rfl) dX0_weighTune_91 ?_
      refine g_istore (lv2 := [(0, .ref (ad 41)), (1, .int x1), (2, .int x2), (3, .int x3), (4, .int v11), (5, .int r12)]) C dX0_weighTune_94 (by decide) [1, 2, 3, 4, 5, 0] rfl ?_
      refine g_aload_n C dX0_weighTune_96 rfl 0 rfl ?_
      refine g_get C (a_41 ad cy _) rfl hin_X0 1 (by decide) hF_X0_34 rfl rfl dX0_weighTune_97 ?_
      refine g_get C (a_32 ad cy _) rfl hin_X1 1 (by decide) hF_X0_73 rfl rfl dX0_weighTune_100 ?_
      refine g_iload C dX0_weighTune_103 4 rfl ?_
      obtain ⟨h15, hf⟩ := og_e hf
      refine g_iald C (a_33 ad cy _) h15 dX0_weighTune_105 ?_
      obtain ⟨v16, ev16, hf⟩ := ol_e hf
      refine g_nm ev16 ?_
      refine g_iload_n C dX0_weighTune_106 rfl 1 rfl ?_
      rcases oi_e hf with ⟨c17, hf⟩ | ⟨c17, hf⟩
      · refine g_icmp_ne_t (tgt := 153) C dX0_weighTune_107 (by decide) c17 ?_
        refine g_aload_n C dX0_weighTune_153 rfl 0 rfl ?_
        refine g_get C (a_41 ad cy _) rfl hin_X0 6 (by decide) hF_X0_21 rfl rfl dX0_weighTune_154 ?_
        refine g_iload_n C dX0_weighTune_157 rfl 2 rfl ?_
        refine g_dup2 C dX0_weighTune_158 rfl rfl ?_
        obtain ⟨h18, hf⟩ := og_e hf
        refine g_iald C (a_45 ad cy _) h18 dX0_weighTune_159 ?_
        obtain ⟨v19, ev19, hf⟩ := ol_e hf
        refine g_nm ev19 ?_
        refine g_iload C dX0_weighTune_160 5 rfl ?_
        refine g_aload_n C dX0_weighTune_162 rfl 0 rfl ?_
        refine g_get C (a_41 ad cy _) rfl hin_X0 1 (by decide) hF_X0_34 rfl rfl dX0_weighTune_163 ?_
        refine g_get C (a_32 ad cy _) rfl hin_X1 2 (by decide) hF_X0_76 rfl rfl dX0_weighTune_166 ?_
        refine g_iload C dX0_weighTune_169 4 rfl ?_
        obtain ⟨h20, hf⟩ := og_e hf
        refine g_iald C (a_34 ad cy _) h20 dX0_weighTune_171 ?_
        obtain ⟨v21, ev21, hf⟩ := ol_e hf
        refine g_nm ev21 ?_
        refine g_imul C dX0_weighTune_172 ?_
        refine g_iadd C dX0_weighTune_173 ?_
        obtain ⟨v22, ev22, hf⟩ := ol_e hf
        refine g_nm ev22 ?_
        obtain ⟨h23, hf⟩ := og_e hf
        obtain ⟨σ24, eσ24, hf⟩ := ol_e hf
        refine g_iast C (a_45 ad cy _) h23 (w_45 ad cy _) eσ24 dX0_weighTune_174 ?_
        exact g_sub [0, 1, 2, 3] rfl (fX0_weighTune_b175_ok C sf_44 hs_44 σ24 x1 x2 x3 hf)
      · refine g_icmp_ne_f (tgt := 153) C dX0_weighTune_107 (by decide) (Decidable.of_not_not c17) ?_
        refine g_aload_n C dX0_weighTune_110 rfl 0 rfl ?_
        refine g_get C (a_41 ad cy _) rfl hin_X0 3 (by decide) hF_X0_9 rfl rfl dX0_weighTune_111 ?_
        refine g_iload_n C dX0_weighTune_114 rfl 2 rfl ?_
        refine g_dup2 C dX0_weighTune_115 rfl rfl ?_
        obtain ⟨h25, hf⟩ := og_e hf
        refine g_iald C (a_42 ad cy _) h25 dX0_weighTune_116 ?_
        obtain ⟨v26, ev26, hf⟩ := ol_e hf
        refine g_nm ev26 ?_
        refine g_aload_n C dX0_weighTune_117 rfl 0 rfl ?_
        refine g_get C (a_41 ad cy _) rfl hin_X0 1 (by decide) hF_X0_34 rfl rfl dX0_weighTune_118 ?_
        refine g_get C (a_32 ad cy _) rfl hin_X1 2 (by decide) hF_X0_76 rfl rfl dX0_weighTune_121 ?_
        refine g_iload C dX0_weighTune_124 4 rfl ?_
        obtain ⟨h27, hf⟩ := og_e hf
        refine g_iald C (a_34 ad cy _) h27 dX0_weighTune_126 ?_
        obtain ⟨v28, ev28, hf⟩ := ol_e hf
        refine g_nm ev28 ?_
        refine g_iadd C dX0_weighTune_127 ?_
        obtain ⟨v29, ev29, hf⟩ := ol_e hf
        refine g_nm ev29 ?_
        obtain ⟨h30, hf⟩ := og_e hf
        obtain ⟨σ31, eσ31, hf⟩ := ol_e hf
        refine g_iast C (a_42 ad cy _) h30 (w_42 ad cy _) eσ31 dX0_weighTune_128 ?_
        refine g_aload_n C dX0_weighTune_129 rfl 0 rfl ?_
        refine g_get C (a_41 ad cy _) rfl hin_X0 4 (by decide) hF_X0_15 rfl rfl dX0_weighTune_130 ?_
        refine g_iload_n C dX0_weighTune_133 rfl 2 rfl ?_
        refine g_dup2 C dX0_weighTune_134 rfl rfl ?_
        obtain ⟨h32, hf⟩ := og_e hf
        refine g_iald C (a_43 ad cy _) h32 dX0_weighTune_135 ?_
        obtain ⟨v33, ev33, hf⟩ := ol_e hf
        refine g_nm ev33 ?_
        refine g_iconst (v := 1) C dX0_weighTune_136 (by decide) ?_
        refine g_iadd C dX0_weighTune_137 ?_
        obtain ⟨v34, ev34, hf⟩ := ol_e hf
        refine g_nm ev34 ?_
        obtain ⟨h35, hf⟩ := og_e hf
        obtain ⟨σ36, eσ36, hf⟩ := ol_e hf
        refine g_iast C (a_43 ad cy _) h35 (w_43 ad cy _) eσ36 dX0_weighTune_138 ?_
        refine g_aload_n C dX0_weighTune_139 rfl 0 rfl ?_
        refine g_get C (a_41 ad cy _) rfl hin_X0 5 (by decide) hF_X0_18 rfl rfl dX0_weighTune_140 ?_
        refine g_iload_n C dX0_weighTune_143 rfl 2 rfl ?_
        refine g_dup2 C dX0_weighTune_144 rfl rfl ?_
        obtain ⟨h37, hf⟩ := og_e hf
        refine g_iald C (a_44 ad cy _) h37 dX0_weighTune_145 ?_
        obtain ⟨v38, ev38, hf⟩ := ol_e hf
        refine g_nm ev38 ?_
        refine g_iload C dX0_weighTune_146 5 rfl ?_
        refine g_iadd C dX0_weighTune_148 ?_
        obtain ⟨v39, ev39, hf⟩ := ol_e hf
        refine g_nm ev39 ?_
        obtain ⟨h40, hf⟩ := og_e hf
        obtain ⟨σ41, eσ41, hf⟩ := ol_e hf
        refine g_iast C (a_44 ad cy _) h40 (w_44 ad cy _) eσ41 dX0_weighTune_149 ?_
        refine g_goto (tgt := 175) C dX0_weighTune_150 (by decide) ?_
        exact g_sub [0, 1, 2, 3] rfl (fX0_weighTune_b175_ok C sf_44 hs_44 σ41 x1 x2 x3 hf)
    · refine g_if_ne_f (tgt := 71) C dX0_weighTune_65 (by decide) (Decidable.of_not_not c7) ?_
      refine g_goto (tgt := 175) C dX0_weighTune_68 (by decide) ?_
      exact g_sub [0, 1, 2, 3] rfl (fX0_weighTune_b175_ok C sf_44 hs_44 σ5 x1 x2 x3 hf)
def fX0_weighTune_h44  : Nat → S0 → Int32 → Int32 → Int32 → Option (Int32 × S0)
  | 0 => fun _ _ _ _ => none
  | n + 1 => fun σ x1 x2 x3 => fX0_weighTune_b44  (fX0_weighTune_h44  n) σ x1 x2 x3
set_option maxHeartbeats 1000000 in
set_option maxRecDepth 100000 in
theorem fX0_weighTune_h44_ok {p : Program} {l : Launch} {e : Env} {s : State} {m : MethodId} {args : Array Value} {below : List Frame} {meth : Method} {c : Code} {dC : Nat → ClassId} {dI : Nat → Nat → Nat} {ad : Nat → Nat} {cy : Nat → ClassId} {sz : Nat} (C : Cx p s m args meth c RX0 cX0_weighTune 6 none dC dI ad cy sz) {rr : Int32} {ρ : S0}  : ∀ (n : Nat) (σ : S0) (x1 : Int32) (x2 : Int32) (x3 : Int32)  (_hf : fX0_weighTune_h44  n σ x1 x2 x3 = some (rr, ρ)), Gw p l e rm_X0_weighTune s m args below meth c (MQ below (QcV dC dI ad cy sz ρ) args s 0 0 (AW ad sz)) dC dI ad cy 6 sz 0 0 44 [(0, .ref (ad 41)), (1, .int x1), (2, .int x2), (3, .int x3)] [] σ
  | 0, _, _, _, _, hf => by cases hf
  | n + 1, σ, x1, x2, x3, hf => fX0_weighTune_b44_ok C  (fX0_weighTune_h44  n) (fX0_weighTune_h44_ok C  n) σ x1 x2 x3 hf
def fX0_weighTune (σ : S0) (x1 : Int32) (x2 : Int32) : Option (Int32 × S0) := obp (fX6_play σ x2) (fun r1 σ2 => ol (σ2 40 5) (fun v4 => og (¬ (x2 < 0 ∨ 6 ≤ x2.toNatClampNeg)) (ol (su σ2 42 x2.toNatClampNeg v4) (fun σ6 => og (¬ (x2 < 0 ∨ 6 ≤ x2.toNatClampNeg)) (ol (su σ6 43 x2.toNatClampNeg 0) (fun σ8 => og (¬ (x2 < 0 ∨ 6 ≤ x2.toNatClampNeg)) (ol (su σ8 44 x2.toNatClampNeg 0) (fun σ10 => og (¬ (x2 < 0 ∨ 6 ≤ x2.toNatClampNeg)) (ol (su σ10 45 x2.toNatClampNeg 0) (fun σ12 => fX0_weighTune_h44 400 σ12 x1 x2 0))))))))))
set_option maxHeartbeats 1000000 in
set_option maxRecDepth 100000 in
theorem fX0_weighTune_ok {p : Program} {l : Launch} {e : Env} {s : State} {m : MethodId} {args : Array Value} {below : List Frame} {meth : Method} {c : Code} {dC : Nat → ClassId} {dI : Nat → Nat → Nat} {ad : Nat → Nat} {cy : Nat → ClassId} {sz : Nat} (C : Cx p s m args meth c RX0 cX0_weighTune 6 none dC dI ad cy sz) {rr : Int32} {ρ : S0} (σ : S0) (x1 : Int32) (x2 : Int32)  (hf : fX0_weighTune σ x1 x2 = some (rr, ρ)) : Gw p l e rm_X0_weighTune s m args below meth c (MQ below (QcV dC dI ad cy sz ρ) args s 0 0 (AW ad sz)) dC dI ad cy 6 sz 0 0 0 [(0, .ref (ad 41)), (1, .int x1), (2, .int x2)] [] σ := by
  unfold fX0_weighTune at hf
  refine g_aload_n C dX0_weighTune_0 rfl 0 rfl ?_
  refine g_get C (a_41 ad cy _) rfl hin_X0 2 (by decide) hF_X0_35 rfl rfl dX0_weighTune_1 ?_
  refine g_iload_n C dX0_weighTune_4 rfl 2 rfl ?_
  obtain ⟨r1, σ2, h3, hf⟩ := obp_e hf
  refine g_callVv (As := [.int x2]) (rest := []) C (a_40 ad cy _) rfl (c_X6_play l dC dI ad cy x2) h3 hM_X0_47 cal_X6_play ⟨Nat.zero_le _, Nat.zero_le _⟩ ⟨rfl, rfl⟩ ⟨Nat.le_of_ble_eq_true rfl, Nat.le_of_ble_eq_true rfl⟩ rfl rfl (Nat.le_of_ble_eq_true rfl) dX0_weighTune_5 ?_
  refine g_aload_n C dX0_weighTune_8 rfl 0 rfl ?_
  refine g_get C (a_41 ad cy _) rfl hin_X0 3 (by decide) hF_X0_9 rfl rfl dX0_weighTune_9 ?_
  refine g_iload_n C dX0_weighTune_12 rfl 2 rfl ?_
  refine g_aload_n C dX0_weighTune_13 rfl 0 rfl ?_
  refine g_get C (a_41 ad cy _) rfl hin_X0 2 (by decide) hF_X0_35 rfl rfl dX0_weighTune_14 ?_
  refine g_get C (a_40 ad cy _) rfl hin_X6 5 (by decide) hF_X0_53 rfl rfl dX0_weighTune_17 ?_
  obtain ⟨v4, ev4, hf⟩ := ol_e hf
  refine g_nm ev4 ?_
  obtain ⟨h5, hf⟩ := og_e hf
  obtain ⟨σ6, eσ6, hf⟩ := ol_e hf
  refine g_iast C (a_42 ad cy _) h5 (w_42 ad cy _) eσ6 dX0_weighTune_20 ?_
  refine g_aload_n C dX0_weighTune_21 rfl 0 rfl ?_
  refine g_get C (a_41 ad cy _) rfl hin_X0 4 (by decide) hF_X0_15 rfl rfl dX0_weighTune_22 ?_
  refine g_iload_n C dX0_weighTune_25 rfl 2 rfl ?_
  refine g_iconst (v := 0) C dX0_weighTune_26 (by decide) ?_
  obtain ⟨h7, hf⟩ := og_e hf
  obtain ⟨σ8, eσ8, hf⟩ := ol_e hf
  refine g_iast C (a_43 ad cy _) h7 (w_43 ad cy _) eσ8 dX0_weighTune_27 ?_
  refine g_aload_n C dX0_weighTune_28 rfl 0 rfl ?_
  refine g_get C (a_41 ad cy _) rfl hin_X0 5 (by decide) hF_X0_18 rfl rfl dX0_weighTune_29 ?_
  refine g_iload_n C dX0_weighTune_32 rfl 2 rfl ?_
  refine g_iconst (v := 0) C dX0_weighTune_33 (by decide) ?_
  obtain ⟨h9, hf⟩ := og_e hf
  obtain ⟨σ10, eσ10, hf⟩ := ol_e hf
  refine g_iast C (a_44 ad cy _) h9 (w_44 ad cy _) eσ10 dX0_weighTune_34 ?_
  refine g_aload_n C dX0_weighTune_35 rfl 0 rfl ?_
  refine g_get C (a_41 ad cy _) rfl hin_X0 6 (by decide) hF_X0_21 rfl rfl dX0_weighTune_36 ?_
  refine g_iload_n C dX0_weighTune_39 rfl 2 rfl ?_
  refine g_iconst (v := 0) C dX0_weighTune_40 (by decide) ?_
  obtain ⟨h11, hf⟩ := og_e hf
  obtain ⟨σ12, eσ12, hf⟩ := ol_e hf
  refine g_iast C (a_45 ad cy _) h11 (w_45 ad cy _) eσ12 dX0_weighTune_41 ?_
  refine g_iconst (v := 0) C dX0_weighTune_42 (by decide) ?_
  refine g_istore_n (lv2 := [(0, .ref (ad 41)), (1, .int x1), (2, .int x2), (3, .int 0)]) C dX0_weighTune_43 rfl (by decide) [1, 2, 3, 0] rfl ?_
  exact g_sub [0, 1, 2, 3] rfl (fX0_weighTune_h44_ok C 400 σ12 x1 x2 0 hf)
theorem c_X0_weighTune (l : Launch) (dC : Nat → ClassId) (dI : Nat → Nat → Nat) (ad : Nat → Nat) (cy : Nat → ClassId) (x1 : Int32) (x2 : Int32) : ConV l yX0_weighTune cX0_weighTune 6 none rm_X0_weighTune dC dI ad cy [.ref (ad 41), .int x1, .int x2] (fun σ => fX0_weighTune σ x1 x2) := con_v (own := RX0) (by decide) rfl (Nat.le_of_ble_eq_true rfl) (fun _ _ _ _ _ _ _ _ σ _ _ C hf => fX0_weighTune_ok C σ x1 x2 hf)
theorem cal_X0_weighTune : CalV yX0_weighTune RX0 cX0_weighTune 6 none 2 := ⟨hI_X0_weighTune, hS_X0_weighTune, hIni_X0, hC_X0_weighTune, by decide +kernel⟩
abbrev rm_X0_weigh : Room := { frames := 2, cells := 0, slots := 0, locals := 51 }
def fX0_weigh_b2 (sf_2 : S0 → Int32 → Int32 → Option (Int32 × S0)) (σ : S0) (x1 : Int32) (x2 : Int32) : Option (Int32 × S0) := if (σ 22 2) ≤ x2 then (some (0, σ)) else (obp (fX0_weighTune σ x1 x2) (fun r2 σ3 => ol (x2 + 1) (fun v5 => sf_2 σ3 x1 v5)))
set_option maxHeartbeats 1000000 in
set_option maxRecDepth 100000 in
theorem fX0_weigh_b2_ok {p : Program} {l : Launch} {e : Env} {s : State} {m : MethodId} {args : Array Value} {below : List Frame} {meth : Method} {c : Code} {dC : Nat → ClassId} {dI : Nat → Nat → Nat} {ad : Nat → Nat} {cy : Nat → ClassId} {sz : Nat} (C : Cx p s m args meth c RX0 cX0_weigh 3 none dC dI ad cy sz) {rr : Int32} {ρ : S0} (sf_2 : S0 → Int32 → Int32 → Option (Int32 × S0)) (hs_2 : ∀ (σ : S0) (x1 : Int32) (x2 : Int32) , sf_2 σ x1 x2 = some (rr, ρ) → Gw p l e rm_X0_weigh s m args below meth c (MQ below (QcV dC dI ad cy sz ρ) args s 0 0 (AW ad sz)) dC dI ad cy 3 sz 0 0 2 [(0, .ref (ad 41)), (1, .int x1), (2, .int x2)] [] σ) (σ : S0) (x1 : Int32) (x2 : Int32)  (hf : fX0_weigh_b2 sf_2 σ x1 x2 = some (rr, ρ)) : Gw p l e rm_X0_weigh s m args below meth c (MQ below (QcV dC dI ad cy sz ρ) args s 0 0 (AW ad sz)) dC dI ad cy 3 sz 0 0 2 [(0, .ref (ad 41)), (1, .int x1), (2, .int x2)] [] σ := by
  unfold fX0_weigh_b2 at hf
  refine g_iload_n C dX0_weigh_2 rfl 2 rfl ?_
  refine g_aload_n C dX0_weigh_3 rfl 0 rfl ?_
  refine g_get C (a_41 ad cy _) rfl hin_X0 0 (by decide) hF_X0_24 rfl rfl dX0_weigh_4 ?_
  refine g_get C (a_22 ad cy _) rfl hin_X9 2 (by decide) hF_X0_39 rfl rfl dX0_weigh_7 ?_
  rcases oi_e hf with ⟨c1, hf⟩ | ⟨c1, hf⟩
  · refine g_icmp_ge_t (tgt := 25) C dX0_weigh_10 (by decide) c1 ?_
    obtain ⟨rfl, rfl⟩ := os_e hf
    exact g_vret C rfl dX0_weigh_25
  · refine g_icmp_ge_f (tgt := 25) C dX0_weigh_10 (by decide) c1 ?_
    refine g_aload_n C dX0_weigh_13 rfl 0 rfl ?_
    refine g_iload_n C dX0_weigh_14 rfl 1 rfl ?_
    refine g_iload_n C dX0_weigh_15 rfl 2 rfl ?_
    obtain ⟨r2, σ3, h4, hf⟩ := obp_e hf
    refine g_callVv (As := [.int x1, .int x2]) (rest := []) C (a_41 ad cy _) rfl (c_X0_weighTune l dC dI ad cy x1 x2) h4 hM_X0_43 cal_X0_weighTune ⟨Nat.zero_le _, Nat.zero_le _⟩ ⟨rfl, rfl⟩ ⟨Nat.le_of_ble_eq_true rfl, Nat.le_of_ble_eq_true rfl⟩ rfl rfl (Nat.le_of_ble_eq_true rfl) dX0_weigh_16 ?_
    obtain ⟨v5, ev5, hf⟩ := ol_e hf
    refine g_iinc (j := 2) (w := 1) (lv2 := [(0, .ref (ad 41)), (1, .int x1), (2, .int v5)]) C dX0_weigh_19 rfl (by decide) ev5 (by decide) [1, 2, 0] rfl ?_
    refine g_goto (tgt := 2) C dX0_weigh_22 (by decide) ?_
    exact g_sub [0, 1, 2] rfl (hs_2 σ3 x1 v5 hf)
def fX0_weigh_h2  : Nat → S0 → Int32 → Int32 → Option (Int32 × S0)
  | 0 => fun _ _ _ => none
  | n + 1 => fun σ x1 x2 => fX0_weigh_b2  (fX0_weigh_h2  n) σ x1 x2
set_option maxHeartbeats 1000000 in
set_option maxRecDepth 100000 in
theorem fX0_weigh_h2_ok {p : Program} {l : Launch} {e : Env} {s : State} {m : MethodId} {args : Array Value} {below : List Frame} {meth : Method} {c : Code} {dC : Nat → ClassId} {dI : Nat → Nat → Nat} {ad : Nat → Nat} {cy : Nat → ClassId} {sz : Nat} (C : Cx p s m args meth c RX0 cX0_weigh 3 none dC dI ad cy sz) {rr : Int32} {ρ : S0}  : ∀ (n : Nat) (σ : S0) (x1 : Int32) (x2 : Int32)  (_hf : fX0_weigh_h2  n σ x1 x2 = some (rr, ρ)), Gw p l e rm_X0_weigh s m args below meth c (MQ below (QcV dC dI ad cy sz ρ) args s 0 0 (AW ad sz)) dC dI ad cy 3 sz 0 0 2 [(0, .ref (ad 41)), (1, .int x1), (2, .int x2)] [] σ
  | 0, _, _, _, hf => by cases hf
  | n + 1, σ, x1, x2, hf => fX0_weigh_b2_ok C  (fX0_weigh_h2  n) (fX0_weigh_h2_ok C  n) σ x1 x2 hf
def fX0_weigh (σ : S0) (x1 : Int32) : Option (Int32 × S0) := fX0_weigh_h2 400 σ x1 0
set_option maxHeartbeats 1000000 in
set_option maxRecDepth 100000 in
theorem fX0_weigh_ok {p : Program} {l : Launch} {e : Env} {s : State} {m : MethodId} {args : Array Value} {below : List Frame} {meth : Method} {c : Code} {dC : Nat → ClassId} {dI : Nat → Nat → Nat} {ad : Nat → Nat} {cy : Nat → ClassId} {sz : Nat} (C : Cx p s m args meth c RX0 cX0_weigh 3 none dC dI ad cy sz) {rr : Int32} {ρ : S0} (σ : S0) (x1 : Int32)  (hf : fX0_weigh σ x1 = some (rr, ρ)) : Gw p l e rm_X0_weigh s m args below meth c (MQ below (QcV dC dI ad cy sz ρ) args s 0 0 (AW ad sz)) dC dI ad cy 3 sz 0 0 0 [(0, .ref (ad 41)), (1, .int x1)] [] σ := by
  unfold fX0_weigh at hf
  refine g_iconst (v := 0) C dX0_weigh_0 (by decide) ?_
  refine g_istore_n (lv2 := [(0, .ref (ad 41)), (1, .int x1), (2, .int 0)]) C dX0_weigh_1 rfl (by decide) [1, 2, 0] rfl ?_
  exact g_sub [0, 1, 2] rfl (fX0_weigh_h2_ok C 400 σ x1 0 hf)
theorem c_X0_weigh (l : Launch) (dC : Nat → ClassId) (dI : Nat → Nat → Nat) (ad : Nat → Nat) (cy : Nat → ClassId) (x1 : Int32) : ConV l yX0_weigh cX0_weigh 3 none rm_X0_weigh dC dI ad cy [.ref (ad 41), .int x1] (fun σ => fX0_weigh σ x1) := con_v (own := RX0) (by decide) rfl (Nat.le_of_ble_eq_true rfl) (fun _ _ _ _ _ _ _ _ σ _ _ C hf => fX0_weigh_ok C σ x1 hf)
theorem cal_X0_weigh : CalV yX0_weigh RX0 cX0_weigh 3 none 1 := ⟨hI_X0_weigh, hS_X0_weigh, hIni_X0, hC_X0_weigh, by decide +kernel⟩
abbrev rm_X0_bringsAt : Room := { frames := 0, cells := 0, slots := 0, locals := 0 }
def fX0_bringsAt_b65 (sf_7 : S0 → Int32 → Int32 → Int32 → Int32 → Option (Int32 × S0)) (σ : S0) (x1 : Int32) (x2 : Int32) (x3 : Int32) (x4 : Int32) : Option (Int32 × S0) := ol (x4 + 1) (fun v1 => sf_7 σ x1 x2 x3 v1)
set_option maxHeartbeats 1000000 in
set_option maxRecDepth 100000 in
theorem fX0_bringsAt_b65_ok {p : Program} {l : Launch} {e : Env} {s : State} {m : MethodId} {args : Array Value} {below : List Frame} {meth : Method} {c : Code} {dC : Nat → ClassId} {dI : Nat → Nat → Nat} {ad : Nat → Nat} {cy : Nat → ClassId} {sz : Nat} (C : Cx p s m args meth c RX0 cX0_bringsAt 6 (some .int) dC dI ad cy sz) {rr : Int32} {ρ : S0} (sf_7 : S0 → Int32 → Int32 → Int32 → Int32 → Option (Int32 × S0)) (hs_7 : ∀ (σ : S0) (x1 : Int32) (x2 : Int32) (x3 : Int32) (x4 : Int32) , sf_7 σ x1 x2 x3 x4 = some (rr, ρ) → Gw p l e rm_X0_bringsAt s m args below meth c (MQ below (QcI dC dI ad cy sz rr ρ) args s 0 0 (AW ad sz)) dC dI ad cy 6 sz 0 0 7 [(0, .ref (ad 41)), (1, .int x1), (2, .int x2), (3, .int x3), (4, .int x4)] [] σ) (σ : S0) (x1 : Int32) (x2 : Int32) (x3 : Int32) (x4 : Int32)  (hf : fX0_bringsAt_b65 sf_7 σ x1 x2 x3 x4 = some (rr, ρ)) : Gw p l e rm_X0_bringsAt s m args below meth c (MQ below (QcI dC dI ad cy sz rr ρ) args s 0 0 (AW ad sz)) dC dI ad cy 6 sz 0 0 65 [(0, .ref (ad 41)), (1, .int x1), (2, .int x2), (3, .int x3), (4, .int x4)] [] σ := by
  unfold fX0_bringsAt_b65 at hf
  obtain ⟨v1, ev1, hf⟩ := ol_e hf
  refine g_iinc (j := 4) (w := 1) (lv2 := [(0, .ref (ad 41)), (1, .int x1), (2, .int x2), (3, .int x3), (4, .int v1)]) C dX0_bringsAt_65 rfl (by decide) ev1 (by decide) [1, 2, 3, 4, 0] rfl ?_
  refine g_goto (tgt := 7) C dX0_bringsAt_68 (by decide) ?_
  exact g_sub [0, 1, 2, 3, 4] rfl (hs_7 σ x1 x2 x3 v1 hf)
def fX0_bringsAt_b7 (sf_7 : S0 → Int32 → Int32 → Int32 → Int32 → Option (Int32 × S0)) (σ : S0) (x1 : Int32) (x2 : Int32) (x3 : Int32) (x4 : Int32) : Option (Int32 × S0) := if (σ 22 2) ≤ x4 then (some (x2, σ)) else (og (¬ (x4 < 0 ∨ 6 ≤ x4.toNatClampNeg)) (ol (σ 42 x4.toNatClampNeg) (fun v3 => og (¬ (x4 < 0 ∨ 6 ≤ x4.toNatClampNeg)) (ol (σ 43 x4.toNatClampNeg) (fun v5 => ol (v3 - (x1 * v5)) (fun v6 => if v6 ≤ x3 then (fX0_bringsAt_b65 sf_7 σ x1 x2 x3 x4) else (og (¬ (x4 < 0 ∨ 6 ≤ x4.toNatClampNeg)) (ol (σ 44 x4.toNatClampNeg) (fun v9 => og (¬ (x4 < 0 ∨ 6 ≤ x4.toNatClampNeg)) (ol (σ 45 x4.toNatClampNeg) (fun v11 => ol ((x1 * v9) + v11) (fun v12 => fX0_bringsAt_b65 sf_7 σ x1 v12 v6 x4))))))))))))
set_option maxHeartbeats 1000000 in
set_option maxRecDepth 100000 in
theorem fX0_bringsAt_b7_ok {p : Program} {l : Launch} {e : Env} {s : State} {m : MethodId} {args : Array Value} {below : List Frame} {meth : Method} {c : Code} {dC : Nat → ClassId} {dI : Nat → Nat → Nat} {ad : Nat → Nat} {cy : Nat → ClassId} {sz : Nat} (C : Cx p s m args meth c RX0 cX0_bringsAt 6 (some .int) dC dI ad cy sz) {rr : Int32} {ρ : S0} (sf_7 : S0 → Int32 → Int32 → Int32 → Int32 → Option (Int32 × S0)) (hs_7 : ∀ (σ : S0) (x1 : Int32) (x2 : Int32) (x3 : Int32) (x4 : Int32) , sf_7 σ x1 x2 x3 x4 = some (rr, ρ) → Gw p l e rm_X0_bringsAt s m args below meth c (MQ below (QcI dC dI ad cy sz rr ρ) args s 0 0 (AW ad sz)) dC dI ad cy 6 sz 0 0 7 [(0, .ref (ad 41)), (1, .int x1), (2, .int x2), (3, .int x3), (4, .int x4)] [] σ) (σ : S0) (x1 : Int32) (x2 : Int32) (x3 : Int32) (x4 : Int32)  (hf : fX0_bringsAt_b7 sf_7 σ x1 x2 x3 x4 = some (rr, ρ)) : Gw p l e rm_X0_bringsAt s m args below meth c (MQ below (QcI dC dI ad cy sz rr ρ) args s 0 0 (AW ad sz)) dC dI ad cy 6 sz 0 0 7 [(0, .ref (ad 41)), (1, .int x1), (2, .int x2), (3, .int x3), (4, .int x4)] [] σ := by
  unfold fX0_bringsAt_b7 at hf
  refine g_iload C dX0_bringsAt_7 4 rfl ?_
  refine g_aload_n C dX0_bringsAt_9 rfl 0 rfl ?_
  refine g_get C (a_41 ad cy _) rfl hin_X0 0 (by decide) hF_X0_24 rfl rfl dX0_bringsAt_10 ?_
  refine g_get C (a_22 ad cy _) rfl hin_X9 2 (by decide) hF_X0_39 rfl rfl dX0_bringsAt_13 ?_
  rcases oi_e hf with ⟨c1, hf⟩ | ⟨c1, hf⟩
  · refine g_icmp_ge_t (tgt := 71) C dX0_bringsAt_16 (by decide) c1 ?_
    refine g_iload_n C dX0_bringsAt_71 rfl 2 rfl ?_
    obtain ⟨rfl, rfl⟩ := os_e hf
    exact g_iret C rfl dX0_bringsAt_72
  · refine g_icmp_ge_f (tgt := 71) C dX0_bringsAt_16 (by decide) c1 ?_
    refine g_aload_n C dX0_bringsAt_19 rfl 0 rfl ?_
    refine g_get C (a_41 ad cy _) rfl hin_X0 3 (by decide) hF_X0_9 rfl rfl dX0_bringsAt_20 ?_
    refine g_iload C dX0_bringsAt_23 4 rfl ?_
    obtain ⟨h2, hf⟩ := og_e hf
    refine g_iald C (a_42 ad cy _) h2 dX0_bringsAt_25 ?_
    obtain ⟨v3, ev3, hf⟩ := ol_e hf
    refine g_nm ev3 ?_
    refine g_iload_n C dX0_bringsAt_26 rfl 1 rfl ?_
    refine g_aload_n C dX0_bringsAt_27 rfl 0 rfl ?_
    refine g_get C (a_41 ad cy _) rfl hin_X0 4 (by decide) hF_X0_15 rfl rfl dX0_bringsAt_28 ?_
    refine g_iload C dX0_bringsAt_31 4 rfl ?_
    obtain ⟨h4, hf⟩ := og_e hf
    refine g_iald C (a_43 ad cy _) h4 dX0_bringsAt_33 ?_
    obtain ⟨v5, ev5, hf⟩ := ol_e hf
    refine g_nm ev5 ?_
    refine g_imul C dX0_bringsAt_34 ?_
    refine g_isub C dX0_bringsAt_35 ?_
    obtain ⟨v6, ev6, hf⟩ := ol_e hf
    refine g_nm ev6 ?_
    refine g_istore (lv2 := [(0, .ref (ad 41)), (1, .int x1), (2, .int x2), (3, .int x3), (4, .int x4), (5, .int v6)]) C dX0_bringsAt_36 (by decide) [1, 2, 3, 4, 5, 0] rfl ?_
    refine g_iload C dX0_bringsAt_38 5 rfl ?_
    refine g_iload_n C dX0_bringsAt_40 rfl 3 rfl ?_
    rcases oi_e hf with ⟨c7, hf⟩ | ⟨c7, hf⟩
    · refine g_icmp_le_t (tgt := 65) C dX0_bringsAt_41 (by decide) c7 ?_
      exact g_sub [0, 1, 2, 3, 4] rfl (fX0_bringsAt_b65_ok C sf_7 hs_7 σ x1 x2 x3 x4 hf)
    · refine g_icmp_le_f (tgt := 65) C dX0_bringsAt_41 (by decide) c7 ?_
      refine g_iload C dX0_bringsAt_44 5 rfl ?_
      refine g_istore_n (lv2 := [(0, .ref (ad 41)), (1, .int x1), (2, .int x2), (3, .int v6), (4, .int x4), (5, .int v6)]) C dX0_bringsAt_46 rfl (by decide) [1, 2, 3, 0, 4, 5] rfl ?_
      refine g_iload_n C dX0_bringsAt_47 rfl 1 rfl ?_
      refine g_aload_n C dX0_bringsAt_48 rfl 0 rfl ?_
      refine g_get C (a_41 ad cy _) rfl hin_X0 5 (by decide) hF_X0_18 rfl rfl dX0_bringsAt_49 ?_
      refine g_iload C dX0_bringsAt_52 4 rfl ?_
      obtain ⟨h8, hf⟩ := og_e hf
      refine g_iald C (a_44 ad cy _) h8 dX0_bringsAt_54 ?_
      obtain ⟨v9, ev9, hf⟩ := ol_e hf
      refine g_nm ev9 ?_
      refine g_imul C dX0_bringsAt_55 ?_
      refine g_aload_n C dX0_bringsAt_56 rfl 0 rfl ?_
      refine g_get C (a_41 ad cy _) rfl hin_X0 6 (by decide) hF_X0_21 rfl rfl dX0_bringsAt_57 ?_
      refine g_iload C dX0_bringsAt_60 4 rfl ?_
      obtain ⟨h10, hf⟩ := og_e hf
      refine g_iald C (a_45 ad cy _) h10 dX0_bringsAt_62 ?_
      obtain ⟨v11, ev11, hf⟩ := ol_e hf
      refine g_nm ev11 ?_
      refine g_iadd C dX0_bringsAt_63 ?_
      obtain ⟨v12, ev12, hf⟩ := ol_e hf
      refine g_nm ev12 ?_
      refine g_istore_n (lv2 := [(0, .ref (ad 41)), (1, .int x1), (2, .int v12), (3, .int v6), (4, .int x4), (5, .int v6)]) C dX0_bringsAt_64 rfl (by decide) [1, 2, 0, 3, 4, 5] rfl ?_
      exact g_sub [0, 1, 2, 3, 4] rfl (fX0_bringsAt_b65_ok C sf_7 hs_7 σ x1 v12 v6 x4 hf)
def fX0_bringsAt_h7  : Nat → S0 → Int32 → Int32 → Int32 → Int32 → Option (Int32 × S0)
  | 0 => fun _ _ _ _ _ => none
  | n + 1 => fun σ x1 x2 x3 x4 => fX0_bringsAt_b7  (fX0_bringsAt_h7  n) σ x1 x2 x3 x4
set_option maxHeartbeats 1000000 in
set_option maxRecDepth 100000 in
theorem fX0_bringsAt_h7_ok {p : Program} {l : Launch} {e : Env} {s : State} {m : MethodId} {args : Array Value} {below : List Frame} {meth : Method} {c : Code} {dC : Nat → ClassId} {dI : Nat → Nat → Nat} {ad : Nat → Nat} {cy : Nat → ClassId} {sz : Nat} (C : Cx p s m args meth c RX0 cX0_bringsAt 6 (some .int) dC dI ad cy sz) {rr : Int32} {ρ : S0}  : ∀ (n : Nat) (σ : S0) (x1 : Int32) (x2 : Int32) (x3 : Int32) (x4 : Int32)  (_hf : fX0_bringsAt_h7  n σ x1 x2 x3 x4 = some (rr, ρ)), Gw p l e rm_X0_bringsAt s m args below meth c (MQ below (QcI dC dI ad cy sz rr ρ) args s 0 0 (AW ad sz)) dC dI ad cy 6 sz 0 0 7 [(0, .ref (ad 41)), (1, .int x1), (2, .int x2), (3, .int x3), (4, .int x4)] [] σ
  | 0, _, _, _, _, _, hf => by cases hf
  | n + 1, σ, x1, x2, x3, x4, hf => fX0_bringsAt_b7_ok C  (fX0_bringsAt_h7  n) (fX0_bringsAt_h7_ok C  n) σ x1 x2 x3 x4 hf
def fX0_bringsAt (σ : S0) (x1 : Int32) : Option (Int32 × S0) := fX0_bringsAt_h7 400 σ x1 0 0 0
set_option maxHeartbeats 1000000 in
set_option maxRecDepth 100000 in
theorem fX0_bringsAt_ok {p : Program} {l : Launch} {e : Env} {s : State} {m : MethodId} {args : Array Value} {below : List Frame} {meth : Method} {c : Code} {dC : Nat → ClassId} {dI : Nat → Nat → Nat} {ad : Nat → Nat} {cy : Nat → ClassId} {sz : Nat} (C : Cx p s m args meth c RX0 cX0_bringsAt 6 (some .int) dC dI ad cy sz) {rr : Int32} {ρ : S0} (σ : S0) (x1 : Int32)  (hf : fX0_bringsAt σ x1 = some (rr, ρ)) : Gw p l e rm_X0_bringsAt s m args below meth c (MQ below (QcI dC dI ad cy sz rr ρ) args s 0 0 (AW ad sz)) dC dI ad cy 6 sz 0 0 0 [(0, .ref (ad 41)), (1, .int x1)] [] σ := by
  unfold fX0_bringsAt at hf
  refine g_iconst (v := 0) C dX0_bringsAt_0 (by decide) ?_
  refine g_istore_n (lv2 := [(0, .ref (ad 41)), (1, .int x1), (2, .int 0)]) C dX0_bringsAt_1 rfl (by decide) [1, 2, 0] rfl ?_
  refine g_iconst (v := 0) C dX0_bringsAt_2 (by decide) ?_
  refine g_istore_n (lv2 := [(0, .ref (ad 41)), (1, .int x1), (2, .int 0), (3, .int 0)]) C dX0_bringsAt_3 rfl (by decide) [1, 2, 3, 0] rfl ?_
  refine g_iconst (v := 0) C dX0_bringsAt_4 (by decide) ?_
  refine g_istore (lv2 := [(0, .ref (ad 41)), (1, .int x1), (2, .int 0), (3, .int 0), (4, .int 0)]) C dX0_bringsAt_5 (by decide) [1, 2, 3, 4, 0] rfl ?_
  exact g_sub [0, 1, 2, 3, 4] rfl (fX0_bringsAt_h7_ok C 400 σ x1 0 0 0 hf)
theorem c_X0_bringsAt (l : Launch) (dC : Nat → ClassId) (dI : Nat → Nat → Nat) (ad : Nat → Nat) (cy : Nat → ClassId) (x1 : Int32) : ConI l yX0_bringsAt cX0_bringsAt 6 (some .int) rm_X0_bringsAt dC dI ad cy [.ref (ad 41), .int x1] (fun σ => fX0_bringsAt σ x1) := con_i (own := RX0) (by decide) rfl (Nat.le_of_ble_eq_true rfl) (fun _ _ _ _ _ _ _ _ σ _ _ C hf => fX0_bringsAt_ok C σ x1 hf)
theorem cal_X0_bringsAt : CalV yX0_bringsAt RX0 cX0_bringsAt 6 (some .int) 1 := ⟨hI_X0_bringsAt, hS_X0_bringsAt, hIni_X0, hC_X0_bringsAt, by decide +kernel⟩
