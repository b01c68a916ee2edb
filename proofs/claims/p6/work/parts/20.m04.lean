abbrev rm_X11_cheapest : Room := { frames := 3, cells := 0, slots := 0, locals := 71 }
def fX11_cheapest_b62 (sf_13 : S0 → Int32 → Int32 → Int32 → Int32 → Option (Int32 × S0)) (σ : S0) (x1 : Int32) (x2 : Int32) (x3 : Int32) (x4 : Int32) : Option (Int32 × S0) := ol (x4 + 1) (fun v1 => sf_13 σ x1 x2 x3 v1)
set_option maxHeartbeats 1000000 in
set_option maxRecDepth 100000 in
theorem fX11_cheapest_b62_ok {p : Program} {l : Launch} {e : Env} {s : State} {m : MethodId} {args : Array Value} {below : List Frame} {meth : Method} {c : Code} {dC : Nat → ClassId} {dI : Nat → Nat → Nat} {ad : Nat → Nat} {cy : Nat → ClassId} {sz : Nat} (C : Cx p s m args meth c RX11 cX11_cheapest 5 (some .int) dC dI ad cy sz) {rr : Int32} {ρ : S0} (sf_13 : S0 → Int32 → Int32 → Int32 → Int32 → Option (Int32 × S0)) (hs_13 : ∀ (σ : S0) (x1 : Int32) (x2 : Int32) (x3 : Int32) (x4 : Int32) , sf_13 σ x1 x2 x3 x4 = some (rr, ρ) → Gw p l e rm_X11_cheapest s m args below meth c (MQ below (QcI dC dI ad cy sz rr ρ) args s 0 0 (AW ad sz)) dC dI ad cy 5 sz 0 0 13 [(0, .ref (ad 98)), (1, .int x1), (2, .int x2), (3, .int x3), (4, .int x4)] [] σ) (σ : S0) (x1 : Int32) (x2 : Int32) (x3 : Int32) (x4 : Int32)  (hf : fX11_cheapest_b62 sf_13 σ x1 x2 x3 x4 = some (rr, ρ)) : Gw p l e rm_X11_cheapest s m args below meth c (MQ below (QcI dC dI ad cy sz rr ρ) args s 0 0 (AW ad sz)) dC dI ad cy 5 sz 0 0 62 [(0, .ref (ad 98)), (1, .int x1), (2, .int x2), (3, .int x3), (4, .int x4)] [] σ := by
  unfold fX11_cheapest_b62 at hf
  obtain ⟨v1, ev1, hf⟩ := ol_e hf
  refine g_iinc (j := 4) (w := 1) (lv2 := [(0, .ref (ad 98)), (1, .int x1), (2, .int x2), (3, .int x3), (4, .int v1)]) C dX11_cheapest_62 rfl (by decide) ev1 (by decide) [1, 2, 3, 4, 0] rfl ?_
  refine g_goto (tgt := 13) C dX11_cheapest_65 (by decide) ?_
  exact g_sub [0, 1, 2, 3, 4] rfl (hs_13 σ x1 x2 x3 v1 hf)
def fX11_cheapest_b13 (sf_13 : S0 → Int32 → Int32 → Int32 → Int32 → Option (Int32 × S0)) (σ : S0) (x1 : Int32) (x2 : Int32) (x3 : Int32) (x4 : Int32) : Option (Int32 × S0) := if ((1 : Int32) <<< ((σ 98 5) &&& 31)) ≤ x4 then (some (x3, σ)) else (obp (fX11_bitsOf σ x4) (fun r2 σ3 => if ¬ r2 = x1 then (fX11_cheapest_b62 sf_13 σ3 x1 x2 x3 x4) else (obp (fX11_isFair σ3 x4 x2) (fun r6 σ7 => if r6 = 0 then (fX11_cheapest_b62 sf_13 σ7 x1 x2 x3 x4) else (if x3 ≤ (σ7 98 32) then (fX11_cheapest_b62 sf_13 σ7 x1 x2 x3 x4) else (ol (σ7 98 32) (fun v11 => ol (su σ7 98 33 x4) (fun σ12 => fX11_cheapest_b62 sf_13 σ12 x1 x2 v11 x4))))))))
set_option maxHeartbeats 1000000 in
set_option maxRecDepth 100000 in
theorem fX11_cheapest_b13_ok {p : Program} {l : Launch} {e : Env} {s : State} {m : MethodId} {args : Array Value} {below : List Frame} {meth : Method} {c : Code} {dC : Nat → ClassId} {dI : Nat → Nat → Nat} {ad : Nat → Nat} {cy : Nat → ClassId} {sz : Nat} (C : Cx p s m args meth c RX11 cX11_cheapest 5 (some .int) dC dI ad cy sz) {rr : Int32} {ρ : S0} (sf_13 : S0 → Int32 → Int32 → Int32 → Int32 → Option (Int32 × S0)) (hs_13 : ∀ (σ : S0) (x1 : Int32) (x2 : Int32) (x3 : Int32) (x4 : Int32) , sf_13 σ x1 x2 x3 x4 = some (rr, ρ) → Gw p l e rm_X11_cheapest s m args below meth c (MQ below (QcI dC dI ad cy sz rr ρ) args s 0 0 (AW ad sz)) dC dI ad cy 5 sz 0 0 13 [(0, .ref (ad 98)), (1, .int x1), (2, .int x2), (3, .int x3), (4, .int x4)] [] σ) (σ : S0) (x1 : Int32) (x2 : Int32) (x3 : Int32) (x4 : Int32)  (hf : fX11_cheapest_b13 sf_13 σ x1 x2 x3 x4 = some (rr, ρ)) : Gw p l e rm_X11_cheapest s m args below meth c (MQ below (QcI dC dI ad cy sz rr ρ) args s 0 0 (AW ad sz)) dC dI ad cy 5 sz 0 0 13 [(0, .ref (ad 98)), (1, .int x1), (2, .int x2), (3, .int x3), (4, .int x4)] [] σ := by
  unfold fX11_cheapest_b13 at hf
  refine g_iload C dX11_cheapest_13 4 rfl ?_
  refine g_iconst (v := 1) C dX11_cheapest_15 (by decide) ?_
  refine g_aload_n C dX11_cheapest_16 rfl 0 rfl ?_
  refine g_get C (a_98 ad cy _) rfl hin_X11 5 (by decide) hF_X11_84 rfl rfl dX11_cheapest_17 ?_
  refine g_ishl C dX11_cheapest_20 ?_
  rcases oi_e hf with ⟨c1, hf⟩ | ⟨c1, hf⟩
  · refine g_icmp_ge_t (tgt := 68) C dX11_cheapest_21 (by decide) c1 ?_
    refine g_iload_n C dX11_cheapest_68 rfl 3 rfl ?_
    obtain ⟨rfl, rfl⟩ := os_e hf
    exact g_iret C rfl dX11_cheapest_69
  · refine g_icmp_ge_f (tgt := 68) C dX11_cheapest_21 (by decide) c1 ?_
    refine g_iload C dX11_cheapest_24 4 rfl ?_
    obtain ⟨r2, σ3, h4, hf⟩ := obp_e hf
    refine g_callSi (As := [.int x4]) (rest := []) C (c_X11_bitsOf l dC dI ad cy x4) h4 hM_X11_266 cal_X11_bitsOf ⟨Nat.zero_le _, Nat.zero_le _⟩ ⟨rfl, rfl⟩ ⟨Nat.le_of_ble_eq_true rfl, Nat.le_of_ble_eq_true rfl⟩ rfl rfl (Nat.le_of_ble_eq_true rfl) dX11_cheapest_26 ?_
    refine g_iload_n C dX11_cheapest_29 rfl 1 rfl ?_
    rcases oi_e hf with ⟨c5, hf⟩ | ⟨c5, hf⟩
    · refine g_icmp_ne_t (tgt := 62) C dX11_cheapest_30 (by decide) c5 ?_
      exact g_sub [0, 1, 2, 3, 4] rfl (fX11_cheapest_b62_ok C sf_13 hs_13 σ3 x1 x2 x3 x4 hf)
    · refine g_icmp_ne_f (tgt := 62) C dX11_cheapest_30 (by decide) (Decidable.of_not_not c5) ?_
      refine g_aload_n C dX11_cheapest_33 rfl 0 rfl ?_
      refine g_iload C dX11_cheapest_34 4 rfl ?_
      refine g_iload_n C dX11_cheapest_36 rfl 2 rfl ?_
      obtain ⟨r6, σ7, h8, hf⟩ := obp_e hf
      refine g_callVi (As := [.int x4, .int x2]) (rest := []) C (a_98 ad cy _) rfl (c_X11_isFair l dC dI ad cy x4 x2) h8 hM_X11_269 cal_X11_isFair ⟨Nat.zero_le _, Nat.zero_le _⟩ ⟨rfl, rfl⟩ ⟨Nat.le_of_ble_eq_true rfl, Nat.le_of_ble_eq_true rfl⟩ rfl rfl (Nat.le_of_ble_eq_true rfl) dX11_cheapest_37 ?_
      rcases oi_e hf with ⟨c9, hf⟩ | ⟨c9, hf⟩
      · refine g_if_eq_t (tgt := 62) C dX11_cheapest_40 (by decide) c9 ?_
        exact g_sub [0, 1, 2, 3, 4] rfl (fX11_cheapest_b62_ok C sf_13 hs_13 σ7 x1 x2 x3 x4 hf)
      · refine g_if_eq_f (tgt := 62) C dX11_cheapest_40 (by decide) c9 ?_
        refine g_aload_n C dX11_cheapest_43 rfl 0 rfl ?_
        refine g_get C (a_98 ad cy _) rfl hin_X11 32 (by decide) hF_X11_259 rfl rfl dX11_cheapest_44 ?_
        refine g_iload_n C dX11_cheapest_47 rfl 3 rfl ?_
        rcases oi_e hf with ⟨c10, hf⟩ | ⟨c10, hf⟩
        · refine g_icmp_ge_t (tgt := 62) C dX11_cheapest_48 (by decide) c10 ?_
          exact g_sub [0, 1, 2, 3, 4] rfl (fX11_cheapest_b62_ok C sf_13 hs_13 σ7 x1 x2 x3 x4 hf)
        · refine g_icmp_ge_f (tgt := 62) C dX11_cheapest_48 (by decide) c10 ?_
          refine g_aload_n C dX11_cheapest_51 rfl 0 rfl ?_
          refine g_get C (a_98 ad cy _) rfl hin_X11 32 (by decide) hF_X11_259 rfl rfl dX11_cheapest_52 ?_
          obtain ⟨v11, ev11, hf⟩ := ol_e hf
          refine g_nm ev11 ?_
          refine g_istore_n (lv2 := [(0, .ref (ad 98)), (1, .int x1), (2, .int x2), (3, .int v11), (4, .int x4)]) C dX11_cheapest_55 rfl (by decide) [1, 2, 3, 0, 4] rfl ?_
          refine g_aload_n C dX11_cheapest_56 rfl 0 rfl ?_
          refine g_iload C dX11_cheapest_57 4 rfl ?_
          obtain ⟨σ12, eσ12, hf⟩ := ol_e hf
          refine g_put (ty := .int) C (a_98 ad cy _) rfl hin_X11 tyX11 tyX11_ok nmX11 33 (by decide) hF_X11_263 rfl rfl (by decide +kernel) rfl rfl (Nat.le_of_ble_eq_true rfl) (p_98_33 ad cy _ _) eσ12 dX11_cheapest_59 ?_
          exact g_sub [0, 1, 2, 3, 4] rfl (fX11_cheapest_b62_ok C sf_13 hs_13 σ12 x1 x2 v11 x4 hf)
def fX11_cheapest_h13  : Nat → S0 → Int32 → Int32 → Int32 → Int32 → Option (Int32 × S0)
  | 0 => fun _ _ _ _ _ => none
  | n + 1 => fun σ x1 x2 x3 x4 => fX11_cheapest_b13  (fX11_cheapest_h13  n) σ x1 x2 x3 x4
set_option maxHeartbeats 1000000 in
set_option maxRecDepth 100000 in
theorem fX11_cheapest_h13_ok {p : Program} {l : Launch} {e : Env} {s : State} {m : MethodId} {args : Array Value} {below : List Frame} {meth : Method} {c : Code} {dC : Nat → ClassId} {dI : Nat → Nat → Nat} {ad : Nat → Nat} {cy : Nat → ClassId} {sz : Nat} (C : Cx p s m args meth c RX11 cX11_cheapest 5 (some .int) dC dI ad cy sz) {rr : Int32} {ρ : S0}  : ∀ (n : Nat) (σ : S0) (x1 : Int32) (x2 : Int32) (x3 : Int32) (x4 : Int32)  (_hf : fX11_cheapest_h13  n σ x1 x2 x3 x4 = some (rr, ρ)), Gw p l e rm_X11_cheapest s m args below meth c (MQ below (QcI dC dI ad cy sz rr ρ) args s 0 0 (AW ad sz)) dC dI ad cy 5 sz 0 0 13 [(0, .ref (ad 98)), (1, .int x1), (2, .int x2), (3, .int x3), (4, .int x4)] [] σ
  | 0, _, _, _, _, _, hf => by cases hf
  | n + 1, σ, x1, x2, x3, x4, hf => fX11_cheapest_b13_ok C  (fX11_cheapest_h13  n) (fX11_cheapest_h13_ok C  n) σ x1 x2 x3 x4 hf
def fX11_cheapest (σ : S0) (x1 : Int32) (x2 : Int32) : Option (Int32 × S0) := ol (su σ 98 33 ((-4))) (fun σ1 => fX11_cheapest_h13 400 σ1 x1 x2 99999 0)
set_option maxHeartbeats 1000000 in
set_option maxRecDepth 100000 in
theorem fX11_cheapest_ok {p : Program} {l : Launch} {e : Env} {s : State} {m : MethodId} {args : Array Value} {below : List Frame} {meth : Method} {c : Code} {dC : Nat → ClassId} {dI : Nat → Nat → Nat} {ad : Nat → Nat} {cy : Nat → ClassId} {sz : Nat} (C : Cx p s m args meth c RX11 cX11_cheapest 5 (some .int) dC dI ad cy sz) {rr : Int32} {ρ : S0} (σ : S0) (x1 : Int32) (x2 : Int32)  (hf : fX11_cheapest σ x1 x2 = some (rr, ρ)) : Gw p l e rm_X11_cheapest s m args below meth c (MQ below (QcI dC dI ad cy sz rr ρ) args s 0 0 (AW ad sz)) dC dI ad cy 5 sz 0 0 0 [(0, .ref (ad 98)), (1, .int x1), (2, .int x2)] [] σ := by
  unfold fX11_cheapest at hf
  refine g_ldcw (v := 99999) C dX11_cheapest_0 hK_X11_262 ?_
  refine g_istore_n (lv2 := [(0, .ref (ad 98)), (1, .int x1), (2, .int x2), (3, .int 99999)]) C dX11_cheapest_3 rfl (by decide) [1, 2, 3, 0] rfl ?_
  refine g_aload_n C dX11_cheapest_4 rfl 0 rfl ?_
  refine g_bipush (v := (-4)) C dX11_cheapest_5 (by decide) ?_
  obtain ⟨σ1, eσ1, hf⟩ := ol_e hf
  refine g_put (ty := .int) C (a_98 ad cy _) rfl hin_X11 tyX11 tyX11_ok nmX11 33 (by decide) hF_X11_263 rfl rfl (by decide +kernel) rfl rfl (Nat.le_of_ble_eq_true rfl) (p_98_33 ad cy _ _) eσ1 dX11_cheapest_7 ?_
  refine g_iconst (v := 0) C dX11_cheapest_10 (by decide) ?_
  refine g_istore (lv2 := [(0, .ref (ad 98)), (1, .int x1), (2, .int x2), (3, .int 99999), (4, .int 0)]) C dX11_cheapest_11 (by decide) [1, 2, 3, 4, 0] rfl ?_
  exact g_sub [0, 1, 2, 3, 4] rfl (fX11_cheapest_h13_ok C 400 σ1 x1 x2 99999 0 hf)
theorem c_X11_cheapest (l : Launch) (dC : Nat → ClassId) (dI : Nat → Nat → Nat) (ad : Nat → Nat) (cy : Nat → ClassId) (x1 : Int32) (x2 : Int32) : ConI l yX11_cheapest cX11_cheapest 5 (some .int) rm_X11_cheapest dC dI ad cy [.ref (ad 98), .int x1, .int x2] (fun σ => fX11_cheapest σ x1 x2) := con_i (own := RX11) (by decide) rfl (Nat.le_of_ble_eq_true rfl) (fun _ _ _ _ _ _ _ _ σ _ _ C hf => fX11_cheapest_ok C σ x1 x2 hf)
theorem cal_X11_cheapest : CalV yX11_cheapest RX11 cX11_cheapest 5 (some .int) 2 := ⟨hI_X11_cheapest, hS_X11_cheapest, hIni_X11, hC_X11_cheapest, by decide +kernel⟩
abbrev rm_X11_feast : Room := { frames := 4, cells := 0, slots := 0, locals := 95 }
def fX11_feast (σ : S0) (x1 : Int32) (x2 : Int32) : Option (Int32 × S0) := obp (fX11_in σ x1.toInt64 ((1 : Int64)) ((6 : Int64))) (fun r1 σ2 => if r1 = 0 then (some ((-1), σ2)) else (obp (fX11_in σ2 x2.toInt64 ((0 : Int64)) ((1 : Int64))) (fun r5 σ6 => if ¬ r5 = 0 then (obp (fX11_cheapest σ6 x1 ((99999 : Int32))) (fun r9 σ10 => if ¬ (σ10 98 33) = ((-4)) then (if ¬ x2 = 0 then (some (σ10 98 33, σ10)) else (some (r9, σ10))) else (some ((-4), σ10)))) else (some ((-1), σ6)))))
set_option maxHeartbeats 1000000 in
set_option maxRecDepth 100000 in
theorem fX11_feast_ok {p : Program} {l : Launch} {e : Env} {s : State} {m : MethodId} {args : Array Value} {below : List Frame} {meth : Method} {c : Code} {dC : Nat → ClassId} {dI : Nat → Nat → Nat} {ad : Nat → Nat} {cy : Nat → ClassId} {sz : Nat} (C : Cx p s m args meth c RX11 cX11_feast 4 (some .int) dC dI ad cy sz) {rr : Int32} {ρ : S0} (σ : S0) (x1 : Int32) (x2 : Int32)  (hf : fX11_feast σ x1 x2 = some (rr, ρ)) : Gw p l e rm_X11_feast s m args below meth c (MQ below (QcI dC dI ad cy sz rr ρ) args s 0 0 (AW ad sz)) dC dI ad cy 4 sz 0 0 0 [(0, .ref (ad 98)), (1, .int x1), (2, .int x2)] [] σ := by
  unfold fX11_feast at hf
  refine g_iload_n C dX11_feast_0 rfl 1 rfl ?_
  refine g_i2l C dX11_feast_1 ?_
  refine g_lconst (v := 1) C dX11_feast_2 (by decide) ?_
  refine g_ldc2 (v := 6) C dX11_feast_3 hK_X11_272 ?_
  obtain ⟨r1, σ2, h3, hf⟩ := obp_e hf
  refine g_callSi (As := [.long x1.toInt64, .long 1, .long 6]) (rest := []) C (c_X11_in l dC dI ad cy x1.toInt64 ((1 : Int64)) ((6 : Int64))) h3 hM_X11_92 cal_X11_in ⟨Nat.zero_le _, Nat.zero_le _⟩ ⟨rfl, rfl⟩ ⟨Nat.le_of_ble_eq_true rfl, Nat.le_of_ble_eq_true rfl⟩ rfl rfl (Nat.le_of_ble_eq_true rfl) dX11_feast_6 ?_
  rcases oi_e hf with ⟨c4, hf⟩ | ⟨c4, hf⟩
  · refine g_if_eq_t (tgt := 22) C dX11_feast_9 (by decide) c4 ?_
    refine g_iconst (v := (-1)) C dX11_feast_22 (by decide) ?_
    obtain ⟨rfl, rfl⟩ := os_e hf
    exact g_iret C rfl dX11_feast_23
  · refine g_if_eq_f (tgt := 22) C dX11_feast_9 (by decide) c4 ?_
    refine g_iload_n C dX11_feast_12 rfl 2 rfl ?_
    refine g_i2l C dX11_feast_13 ?_
    refine g_lconst (v := 0) C dX11_feast_14 (by decide) ?_
    refine g_lconst (v := 1) C dX11_feast_15 (by decide) ?_
    obtain ⟨r5, σ6, h7, hf⟩ := obp_e hf
    refine g_callSi (As := [.long x2.toInt64, .long 0, .long 1]) (rest := []) C (c_X11_in l dC dI ad cy x2.toInt64 ((0 : Int64)) ((1 : Int64))) h7 hM_X11_92 cal_X11_in ⟨Nat.zero_le _, Nat.zero_le _⟩ ⟨rfl, rfl⟩ ⟨Nat.le_of_ble_eq_true rfl, Nat.le_of_ble_eq_true rfl⟩ rfl rfl (Nat.le_of_ble_eq_true rfl) dX11_feast_16 ?_
    rcases oi_e hf with ⟨c8, hf⟩ | ⟨c8, hf⟩
    · refine g_if_ne_t (tgt := 24) C dX11_feast_19 (by decide) c8 ?_
      refine g_aload_n C dX11_feast_24 rfl 0 rfl ?_
      refine g_iload_n C dX11_feast_25 rfl 1 rfl ?_
      refine g_ldcw (v := 99999) C dX11_feast_26 hK_X11_262 ?_
      obtain ⟨r9, σ10, h11, hf⟩ := obp_e hf
      refine g_callVi (As := [.int x1, .int 99999]) (rest := []) C (a_98 ad cy _) rfl (c_X11_cheapest l dC dI ad cy x1 ((99999 : Int32))) h11 hM_X11_274 cal_X11_cheapest ⟨Nat.zero_le _, Nat.zero_le _⟩ ⟨rfl, rfl⟩ ⟨Nat.le_of_ble_eq_true rfl, Nat.le_of_ble_eq_true rfl⟩ rfl rfl (Nat.le_of_ble_eq_true rfl) dX11_feast_29 ?_
      refine g_istore_n (lv2 := [(0, .ref (ad 98)), (1, .int x1), (2, .int x2), (3, .int r9)]) C dX11_feast_32 rfl (by decide) [1, 2, 3, 0] rfl ?_
      refine g_aload_n C dX11_feast_33 rfl 0 rfl ?_
      refine g_get C (a_98 ad cy _) rfl hin_X11 33 (by decide) hF_X11_263 rfl rfl dX11_feast_34 ?_
      refine g_bipush (v := (-4)) C dX11_feast_37 (by decide) ?_
      rcases oi_e hf with ⟨c12, hf⟩ | ⟨c12, hf⟩
      · refine g_icmp_ne_t (tgt := 47) C dX11_feast_39 (by decide) c12 ?_
        refine g_iload_n C dX11_feast_47 rfl 2 rfl ?_
        rcases oi_e hf with ⟨c13, hf⟩ | ⟨c13, hf⟩
        · refine g_if_ne_t (tgt := 55) C dX11_feast_48 (by decide) c13 ?_
          refine g_aload_n C dX11_feast_55 rfl 0 rfl ?_
          refine g_get C (a_98 ad cy _) rfl hin_X11 33 (by decide) hF_X11_263 rfl rfl dX11_feast_56 ?_
          obtain ⟨rfl, rfl⟩ := os_e hf
          exact g_iret C rfl dX11_feast_59
        · refine g_if_ne_f (tgt := 55) C dX11_feast_48 (by decide) (Decidable.of_not_not c13) ?_
          refine g_iload_n C dX11_feast_51 rfl 3 rfl ?_
          refine g_goto (tgt := 59) C dX11_feast_52 (by decide) ?_
          obtain ⟨rfl, rfl⟩ := os_e hf
          exact g_iret C rfl dX11_feast_59
      · refine g_icmp_ne_f (tgt := 47) C dX11_feast_39 (by decide) (Decidable.of_not_not c12) ?_
        refine g_bipush (v := (-4)) C dX11_feast_42 (by decide) ?_
        refine g_goto (tgt := 59) C dX11_feast_44 (by decide) ?_
        obtain ⟨rfl, rfl⟩ := os_e hf
        exact g_iret C rfl dX11_feast_59
    · refine g_if_ne_f (tgt := 24) C dX11_feast_19 (by decide) (Decidable.of_not_not c8) ?_
      refine g_iconst (v := (-1)) C dX11_feast_22 (by decide) ?_
      obtain ⟨rfl, rfl⟩ := os_e hf
      exact g_iret C rfl dX11_feast_23
theorem c_X11_feast (l : Launch) (dC : Nat → ClassId) (dI : Nat → Nat → Nat) (ad : Nat → Nat) (cy : Nat → ClassId) (x1 : Int32) (x2 : Int32) : ConI l yX11_feast cX11_feast 4 (some .int) rm_X11_feast dC dI ad cy [.ref (ad 98), .int x1, .int x2] (fun σ => fX11_feast σ x1 x2) := con_i (own := RX11) (by decide) rfl (Nat.le_of_ble_eq_true rfl) (fun _ _ _ _ _ _ _ _ σ _ _ C hf => fX11_feast_ok C σ x1 x2 hf)
theorem cal_X11_feast : CalV yX11_feast RX11 cX11_feast 4 (some .int) 2 := ⟨hI_X11_feast, hS_X11_feast, hIni_X11, hC_X11_feast, by decide +kernel⟩
abbrev rm_X11_fair : Room := { frames := 4, cells := 0, slots := 0, locals := 95 }
def fX11_fair (σ : S0) (x1 : Int32) (x2 : Int32) (x3 : Int32) : Option (Int32 × S0) := obp (fX11_in σ x1.toInt64 ((1 : Int64)) ((6 : Int64))) (fun r1 σ2 => if r1 = 0 then (some ((-1), σ2)) else (obp (fX11_in σ2 x2.toInt64 ((0 : Int64)) ((72 : Int64))) (fun r5 σ6 => if r5 = 0 then (some ((-1), σ6)) else (obp (fX11_in σ6 x3.toInt64 ((0 : Int64)) ((1 : Int64))) (fun r9 σ10 => if ¬ r9 = 0 then (obp (fX11_cheapest σ10 x1 x2) (fun r13 σ14 => if ¬ (σ14 98 33) = ((-4)) then (if ¬ x3 = 0 then (some (σ14 98 33, σ14)) else (some (r13, σ14))) else (some ((-4), σ14)))) else (some ((-1), σ10)))))))
set_option maxHeartbeats 1000000 in
set_option maxRecDepth 100000 in
theorem fX11_fair_ok {p : Program} {l : Launch} {e : Env} {s : State} {m : MethodId} {args : Array Value} {below : List Frame} {meth : Method} {c : Code} {dC : Nat → ClassId} {dI : Nat → Nat → Nat} {ad : Nat → Nat} {cy : Nat → ClassId} {sz : Nat} (C : Cx p s m args meth c RX11 cX11_fair 5 (some .int) dC dI ad cy sz) {rr : Int32} {ρ : S0} (σ : S0) (x1 : Int32) (x2 : Int32) (x3 : Int32)  (hf : fX11_fair σ x1 x2 x3 = some (rr, ρ)) : Gw p l e rm_X11_fair s m args below meth c (MQ below (QcI dC dI ad cy sz rr ρ) args s 0 0 (AW ad sz)) dC dI ad cy 5 sz 0 0 0 [(0, .ref (ad 98)), (1, .int x1), (2, .int x2), (3, .int x3)] [] σ := by
  unfold fX11_fair at hf
  refine g_iload_n C dX11_fair_0 rfl 1 rfl ?_
  refine g_i2l C dX11_fair_1 ?_
  refine g_lconst (v := 1) C dX11_fair_2 (by decide) ?_
  refine g_ldc2 (v := 6) C dX11_fair_3 hK_X11_272 ?_
  obtain ⟨r1, σ2, h3, hf⟩ := obp_e hf
  refine g_callSi (As := [.long x1.toInt64, .long 1, .long 6]) (rest := []) C (c_X11_in l dC dI ad cy x1.toInt64 ((1 : Int64)) ((6 : Int64))) h3 hM_X11_92 cal_X11_in ⟨Nat.zero_le _, Nat.zero_le _⟩ ⟨rfl, rfl⟩ ⟨Nat.le_of_ble_eq_true rfl, Nat.le_of_ble_eq_true rfl⟩ rfl rfl (Nat.le_of_ble_eq_true rfl) dX11_fair_6 ?_
  rcases oi_e hf with ⟨c4, hf⟩ | ⟨c4, hf⟩
  · refine g_if_eq_t (tgt := 34) C dX11_fair_9 (by decide) c4 ?_
    refine g_iconst (v := (-1)) C dX11_fair_34 (by decide) ?_
    obtain ⟨rfl, rfl⟩ := os_e hf
    exact g_iret C rfl dX11_fair_35
  · refine g_if_eq_f (tgt := 34) C dX11_fair_9 (by decide) c4 ?_
    refine g_iload_n C dX11_fair_12 rfl 2 rfl ?_
    refine g_i2l C dX11_fair_13 ?_
    refine g_lconst (v := 0) C dX11_fair_14 (by decide) ?_
    refine g_ldc2 (v := 72) C dX11_fair_15 hK_X11_277 ?_
    obtain ⟨r5, σ6, h7, hf⟩ := obp_e hf
    refine g_callSi (As := [.long x2.toInt64, .long 0, .long 72]) (rest := []) C (c_X11_in l dC dI ad cy x2.toInt64 ((0 : Int64)) ((72 : Int64))) h7 hM_X11_92 cal_X11_in ⟨Nat.zero_le _, Nat.zero_le _⟩ ⟨rfl, rfl⟩ ⟨Nat.le_of_ble_eq_true rfl, Nat.le_of_ble_eq_true rfl⟩ rfl rfl (Nat.le_of_ble_eq_true rfl) dX11_fair_18 ?_
    rcases oi_e hf with ⟨c8, hf⟩ | ⟨c8, hf⟩
    · refine g_if_eq_t (tgt := 34) C dX11_fair_21 (by decide) c8 ?_
      refine g_iconst (v := (-1)) C dX11_fair_34 (by decide) ?_
      obtain ⟨rfl, rfl⟩ := os_e hf
      exact g_iret C rfl dX11_fair_35
    · refine g_if_eq_f (tgt := 34) C dX11_fair_21 (by decide) c8 ?_
      refine g_iload_n C dX11_fair_24 rfl 3 rfl ?_
      refine g_i2l C dX11_fair_25 ?_
      refine g_lconst (v := 0) C dX11_fair_26 (by decide) ?_
      refine g_lconst (v := 1) C dX11_fair_27 (by decide) ?_
      obtain ⟨r9, σ10, h11, hf⟩ := obp_e hf
      refine g_callSi (As := [.long x3.toInt64, .long 0, .long 1]) (rest := []) C (c_X11_in l dC dI ad cy x3.toInt64 ((0 : Int64)) ((1 : Int64))) h11 hM_X11_92 cal_X11_in ⟨Nat.zero_le _, Nat.zero_le _⟩ ⟨rfl, rfl⟩ ⟨Nat.le_of_ble_eq_true rfl, Nat.le_of_ble_eq_true rfl⟩ rfl rfl (Nat.le_of_ble_eq_true rfl) dX11_fair_28 ?_
      rcases oi_e hf with ⟨c12, hf⟩ | ⟨c12, hf⟩
      · refine g_if_ne_t (tgt := 36) C dX11_fair_31 (by decide) c12 ?_
        refine g_aload_n C dX11_fair_36 rfl 0 rfl ?_
        refine g_iload_n C dX11_fair_37 rfl 1 rfl ?_
        refine g_iload_n C dX11_fair_38 rfl 2 rfl ?_
        obtain ⟨r13, σ14, h15, hf⟩ := obp_e hf
        refine g_callVi (As := [.int x1, .int x2]) (rest := []) C (a_98 ad cy _) rfl (c_X11_cheapest l dC dI ad cy x1 x2) h15 hM_X11_274 cal_X11_cheapest ⟨Nat.zero_le _, Nat.zero_le _⟩ ⟨rfl, rfl⟩ ⟨Nat.le_of_ble_eq_true rfl, Nat.le_of_ble_eq_true rfl⟩ rfl rfl (Nat.le_of_ble_eq_true rfl) dX11_fair_39 ?_
        refine g_istore (lv2 := [(0, .ref (ad 98)), (1, .int x1), (2, .int x2), (3, .int x3), (4, .int r13)]) C dX11_fair_42 (by decide) [1, 2, 3, 4, 0] rfl ?_
        refine g_aload_n C dX11_fair_44 rfl 0 rfl ?_
        refine g_get C (a_98 ad cy _) rfl hin_X11 33 (by decide) hF_X11_263 rfl rfl dX11_fair_45 ?_
        refine g_bipush (v := (-4)) C dX11_fair_48 (by decide) ?_
        rcases oi_e hf with ⟨c16, hf⟩ | ⟨c16, hf⟩
        · refine g_icmp_ne_t (tgt := 58) C dX11_fair_50 (by decide) c16 ?_
          refine g_iload_n C dX11_fair_58 rfl 3 rfl ?_
          rcases oi_e hf with ⟨c17, hf⟩ | ⟨c17, hf⟩
          · refine g_if_ne_t (tgt := 67) C dX11_fair_59 (by decide) c17 ?_
            refine g_aload_n C dX11_fair_67 rfl 0 rfl ?_
            refine g_get C (a_98 ad cy _) rfl hin_X11 33 (by decide) hF_X11_263 rfl rfl dX11_fair_68 ?_
            obtain ⟨rfl, rfl⟩ := os_e hf
            exact g_iret C rfl dX11_fair_71
          · refine g_if_ne_f (tgt := 67) C dX11_fair_59 (by decide) (Decidable.of_not_not c17) ?_
            refine g_iload C dX11_fair_62 4 rfl ?_
            refine g_goto (tgt := 71) C dX11_fair_64 (by decide) ?_
            obtain ⟨rfl, rfl⟩ := os_e hf
            exact g_iret C rfl dX11_fair_71
        · refine g_icmp_ne_f (tgt := 58) C dX11_fair_50 (by decide) (Decidable.of_not_not c16) ?_
          refine g_bipush (v := (-4)) C dX11_fair_53 (by decide) ?_
          refine g_goto (tgt := 71) C dX11_fair_55 (by decide) ?_
          obtain ⟨rfl, rfl⟩ := os_e hf
          exact g_iret C rfl dX11_fair_71
      · refine g_if_ne_f (tgt := 36) C dX11_fair_31 (by decide) (Decidable.of_not_not c12) ?_
        refine g_iconst (v := (-1)) C dX11_fair_34 (by decide) ?_
        obtain ⟨rfl, rfl⟩ := os_e hf
        exact g_iret C rfl dX11_fair_35
theorem c_X11_fair (l : Launch) (dC : Nat → ClassId) (dI : Nat → Nat → Nat) (ad : Nat → Nat) (cy : Nat → ClassId) (x1 : Int32) (x2 : Int32) (x3 : Int32) : ConI l yX11_fair cX11_fair 5 (some .int) rm_X11_fair dC dI ad cy [.ref (ad 98), .int x1, .int x2, .int x3] (fun σ => fX11_fair σ x1 x2 x3) := con_i (own := RX11) (by decide) rfl (Nat.le_of_ble_eq_true rfl) (fun _ _ _ _ _ _ _ _ σ _ _ C hf => fX11_fair_ok C σ x1 x2 x3 hf)
theorem cal_X11_fair : CalV yX11_fair RX11 cX11_fair 5 (some .int) 3 := ⟨hI_X11_fair, hS_X11_fair, hIni_X11, hC_X11_fair, by decide +kernel⟩
abbrev rm_X11_canFollow : Room := { frames := 1, cells := 0, slots := 0, locals := 22 }
def fX11_canFollow (σ : S0) (x1 : Int32) (x2 : Int32) : Option (Int32 × S0) := obp (fX11_of σ x1 ((0 : Int32))) (fun r1 σ2 => obp (fX11_of σ2 x2 ((0 : Int32))) (fun r4 σ5 => obp (fX11_isFeud σ5 r1 r4) (fun r7 σ8 => if ¬ r7 = 0 then (some (0, σ8)) else (some (1, σ8)))))
set_option maxHeartbeats 1000000 in
set_option maxRecDepth 100000 in
theorem fX11_canFollow_ok {p : Program} {l : Launch} {e : Env} {s : State} {m : MethodId} {args : Array Value} {below : List Frame} {meth : Method} {c : Code} {dC : Nat → ClassId} {dI : Nat → Nat → Nat} {ad : Nat → Nat} {cy : Nat → ClassId} {sz : Nat} (C : Cx p s m args meth c RX11 cX11_canFollow 3 (some .boolean) dC dI ad cy sz) {rr : Int32} {ρ : S0} (σ : S0) (x1 : Int32) (x2 : Int32)  (hf : fX11_canFollow σ x1 x2 = some (rr, ρ)) : Gw p l e rm_X11_canFollow s m args below meth c (MQ below (QcI dC dI ad cy sz rr ρ) args s 0 0 (AW ad sz)) dC dI ad cy 3 sz 0 0 0 [(0, .ref (ad 98)), (1, .int x1), (2, .int x2)] [] σ := by
  unfold fX11_canFollow at hf
  refine g_aload_n C dX11_canFollow_0 rfl 0 rfl ?_
  refine g_aload_n C dX11_canFollow_1 rfl 0 rfl ?_
  refine g_iload_n C dX11_canFollow_2 rfl 1 rfl ?_
  refine g_iconst (v := 0) C dX11_canFollow_3 (by decide) ?_
  obtain ⟨r1, σ2, h3, hf⟩ := obp_e hf
  refine g_callVi (As := [.int x1, .int 0]) (rest := [.ref (ad 98)]) C (a_98 ad cy _) rfl (c_X11_of l dC dI ad cy x1 ((0 : Int32))) h3 hM_X11_172 cal_X11_of ⟨Nat.zero_le _, Nat.zero_le _⟩ ⟨rfl, rfl⟩ ⟨Nat.le_of_ble_eq_true rfl, Nat.le_of_ble_eq_true rfl⟩ rfl rfl (Nat.le_of_ble_eq_true rfl) dX11_canFollow_4 ?_
  refine g_aload_n C dX11_canFollow_7 rfl 0 rfl ?_
  refine g_iload_n C dX11_canFollow_8 rfl 2 rfl ?_
  refine g_iconst (v := 0) C dX11_canFollow_9 (by decide) ?_
  obtain ⟨r4, σ5, h6, hf⟩ := obp_e hf
  refine g_callVi (As := [.int x2, .int 0]) (rest := [.int r1, .ref (ad 98)]) C (a_98 ad cy _) rfl (c_X11_of l dC dI ad cy x2 ((0 : Int32))) h6 hM_X11_172 cal_X11_of ⟨Nat.zero_le _, Nat.zero_le _⟩ ⟨rfl, rfl⟩ ⟨Nat.le_of_ble_eq_true rfl, Nat.le_of_ble_eq_true rfl⟩ rfl rfl (Nat.le_of_ble_eq_true rfl) dX11_canFollow_10 ?_
  obtain ⟨r7, σ8, h9, hf⟩ := obp_e hf
  refine g_callVi (As := [.int r1, .int r4]) (rest := []) C (a_98 ad cy _) rfl (c_X11_isFeud l dC dI ad cy r1 r4) h9 hM_X11_195 cal_X11_isFeud ⟨Nat.zero_le _, Nat.zero_le _⟩ ⟨rfl, rfl⟩ ⟨Nat.le_of_ble_eq_true rfl, Nat.le_of_ble_eq_true rfl⟩ rfl rfl (Nat.le_of_ble_eq_true rfl) dX11_canFollow_13 ?_
  rcases oi_e hf with ⟨c10, hf⟩ | ⟨c10, hf⟩
  · refine g_if_ne_t (tgt := 23) C dX11_canFollow_16 (by decide) c10 ?_
    refine g_iconst (v := 0) C dX11_canFollow_23 (by decide) ?_
    obtain ⟨rfl, rfl⟩ := os_e hf
    exact g_zret C rfl (by decide) dX11_canFollow_24
  · refine g_if_ne_f (tgt := 23) C dX11_canFollow_16 (by decide) (Decidable.of_not_not c10) ?_
    refine g_iconst (v := 1) C dX11_canFollow_19 (by decide) ?_
    refine g_goto (tgt := 24) C dX11_canFollow_20 (by decide) ?_
    obtain ⟨rfl, rfl⟩ := os_e hf
    exact g_zret C rfl (by decide) dX11_canFollow_24
theorem c_X11_canFollow (l : Launch) (dC : Nat → ClassId) (dI : Nat → Nat → Nat) (ad : Nat → Nat) (cy : Nat → ClassId) (x1 : Int32) (x2 : Int32) : ConI l yX11_canFollow cX11_canFollow 3 (some .boolean) rm_X11_canFollow dC dI ad cy [.ref (ad 98), .int x1, .int x2] (fun σ => fX11_canFollow σ x1 x2) := con_i (own := RX11) (by decide) rfl (Nat.le_of_ble_eq_true rfl) (fun _ _ _ _ _ _ _ _ σ _ _ C hf => fX11_canFollow_ok C σ x1 x2 hf)
theorem cal_X11_canFollow : CalV yX11_canFollow RX11 cX11_canFollow 3 (some .boolean) 2 := ⟨hI_X11_canFollow, hS_X11_canFollow, hIni_X11, hC_X11_canFollow, by decide +kernel⟩
abbrev rm_X11_restOf : Room := { frames := 2, cells := 0, slots := 0, locals := 44 }
def fX11_restOf_b65 (sf_7 : S0 → Int32 → Int32 → Int32 → Int32 → Option (Int32 × S0)) (σ : S0) (x1 : Int32) (x2 : Int32) (x3 : Int32) (x4 : Int32) : Option (Int32 × S0) := ol (x4 + 1) (fun v1 => sf_7 σ x1 x2 x3 v1)
set_option maxHeartbeats 1000000 in
set_option maxRecDepth 100000 in
theorem fX11_restOf_b65_ok {p : Program} {l : Launch} {e : Env} {s : State} {m : MethodId} {args : Array Value} {below : List Frame} {meth : Method} {c : Code} {dC : Nat → ClassId} {dI : Nat → Nat → Nat} {ad : Nat → Nat} {cy : Nat → ClassId} {sz : Nat} (C : Cx p s m args meth c RX11 cX11_restOf 5 (some .int) dC dI ad cy sz) {rr : Int32} {ρ : S0} (sf_7 : S0 → Int32 → Int32 → Int32 → Int32 → Option (Int32 × S0)) (hs_7 : ∀ (σ : S0) (x1 : Int32) (x2 : Int32) (x3 : Int32) (x4 : Int32) , sf_7 σ x1 x2 x3 x4 = some (rr, ρ) → Gw p l e rm_X11_restOf s m args below meth c (MQ below (QcI dC dI ad cy sz rr ρ) args s 0 0 (AW ad sz)) dC dI ad cy 5 sz 0 0 7 [(0, .ref (ad 98)), (1, .int x1), (2, .int x2), (3, .int x3), (4, .int x4)] [] σ) (σ : S0) (x1 : Int32) (x2 : Int32) (x3 : Int32) (x4 : Int32)  (hf : fX11_restOf_b65 sf_7 σ x1 x2 x3 x4 = some (rr, ρ)) : Gw p l e rm_X11_restOf s m args below meth c (MQ below (QcI dC dI ad cy sz rr ρ) args s 0 0 (AW ad sz)) dC dI ad cy 5 sz 0 0 65 [(0, .ref (ad 98)), (1, .int x1), (2, .int x2), (3, .int x3), (4, .int x4)] [] σ := by
  unfold fX11_restOf_b65 at hf
  obtain ⟨v1, ev1, hf⟩ := ol_e hf
  refine g_iinc (j := 4) (w := 1) (lv2 := [(0, .ref (ad 98)), (1, .int x1), (2, .int x2), (3, .int x3), (4, .int v1)]) C dX11_restOf_65 rfl (by decide) ev1 (by decide) [1, 2, 3, 4, 0] rfl ?_
  refine g_goto (tgt := 7) C dX11_restOf_68 (by decide) ?_
  exact g_sub [0, 1, 2, 3, 4] rfl (hs_7 σ x1 x2 x3 v1 hf)
def fX11_restOf_b64 (sf_7 : S0 → Int32 → Int32 → Int32 → Int32 → Option (Int32 × S0)) (σ : S0) (x1 : Int32) (x2 : Int32) (x4 : Int32) (t0 : Int32) : Option (Int32 × S0) := fX11_restOf_b65 sf_7 σ x1 x2 t0 x4
set_option maxHeartbeats 1000000 in
set_option maxRecDepth 100000 in
theorem fX11_restOf_b64_ok {p : Program} {l : Launch} {e : Env} {s : State} {m : MethodId} {args : Array Value} {below : List Frame} {meth : Method} {c : Code} {dC : Nat → ClassId} {dI : Nat → Nat → Nat} {ad : Nat → Nat} {cy : Nat → ClassId} {sz : Nat} (C : Cx p s m args meth c RX11 cX11_restOf 5 (some .int) dC dI ad cy sz) {rr : Int32} {ρ : S0} (sf_7 : S0 → Int32 → Int32 → Int32 → Int32 → Option (Int32 × S0)) (hs_7 : ∀ (σ : S0) (x1 : Int32) (x2 : Int32) (x3 : Int32) (x4 : Int32) , sf_7 σ x1 x2 x3 x4 = some (rr, ρ) → Gw p l e rm_X11_restOf s m args below meth c (MQ below (QcI dC dI ad cy sz rr ρ) args s 0 0 (AW ad sz)) dC dI ad cy 5 sz 0 0 7 [(0, .ref (ad 98)), (1, .int x1), (2, .int x2), (3, .int x3), (4, .int x4)] [] σ) (σ : S0) (x1 : Int32) (x2 : Int32) (x4 : Int32) (t0 : Int32)  (hf : fX11_restOf_b64 sf_7 σ x1 x2 x4 t0 = some (rr, ρ)) : Gw p l e rm_X11_restOf s m args below meth c (MQ below (QcI dC dI ad cy sz rr ρ) args s 0 0 (AW ad sz)) dC dI ad cy 5 sz 0 0 64 [(0, .ref (ad 98)), (1, .int x1), (2, .int x2), (4, .int x4)] [.int t0] σ := by
  unfold fX11_restOf_b64 at hf
  refine g_istore_n (lv2 := [(0, .ref (ad 98)), (1, .int x1), (2, .int x2), (3, .int t0), (4, .int x4)]) C dX11_restOf_64 rfl (by decide) [1, 2, 3, 0, 4] rfl ?_
  exact g_sub [0, 1, 2, 3, 4] rfl (fX11_restOf_b65_ok C sf_7 hs_7 σ x1 x2 t0 x4 hf)
def fX11_restOf_b32 (sf_7 : S0 → Int32 → Int32 → Int32 → Int32 → Option (Int32 × S0)) (σ : S0) (x1 : Int32) (x2 : Int32) (x3 : Int32) (x4 : Int32) : Option (Int32 × S0) := ol ((12 * x1) + x4) (fun v1 => og (¬ (v1 < 0 ∨ 156 ≤ v1.toNatClampNeg)) (ol (σ 107 v1.toNatClampNeg) (fun v3 => if x3 ≤ v3 then (fX11_restOf_b64 sf_7 σ x1 x2 x4 x3) else (ol ((12 * x1) + x4) (fun v5 => og (¬ (v5 < 0 ∨ 156 ≤ v5.toNatClampNeg)) (ol (σ 107 v5.toNatClampNeg) (fun v7 => fX11_restOf_b64 sf_7 σ x1 x2 x4 v7)))))))
set_option maxHeartbeats 1000000 in
set_option maxRecDepth 100000 in
theorem fX11_restOf_b32_ok {p : Program} {l : Launch} {e : Env} {s : State} {m : MethodId} {args : Array Value} {below : List Frame} {meth : Method} {c : Code} {dC : Nat → ClassId} {dI : Nat → Nat → Nat} {ad : Nat → Nat} {cy : Nat → ClassId} {sz : Nat} (C : Cx p s m args meth c RX11 cX11_restOf 5 (some .int) dC dI ad cy sz) {rr : Int32} {ρ : S0} (sf_7 : S0 → Int32 → Int32 → Int32 → Int32 → Option (Int32 × S0)) (hs_7 : ∀ (σ : S0) (x1 : Int32) (x2 : Int32) (x3 : Int32) (x4 : Int32) , sf_7 σ x1 x2 x3 x4 = some (rr, ρ) → Gw p l e rm_X11_restOf s m args below meth c (MQ below (QcI dC dI ad cy sz rr ρ) args s 0 0 (AW ad sz)) dC dI ad cy 5 sz 0 0 7 [(0, .ref (ad 98)), (1, .int x1), (2, .int x2), (3, .int x3), (4, .int x4)] [] σ) (σ : S0) (x1 : Int32) (x2 : Int32) (x3 : Int32) (x4 : Int32)  (hf : fX11_restOf_b32 sf_7 σ x1 x2 x3 x4 = some (rr, ρ)) : Gw p l e rm_X11_restOf s m args below meth c (MQ below (QcI dC dI ad cy sz rr ρ) args s 0 0 (AW ad sz)) dC dI ad cy 5 sz 0 0 32 [(0, .ref (ad 98)), (1, .int x1), (2, .int x2), (3, .int x3), (4, .int x4)] [] σ := by
  unfold fX11_restOf_b32 at hf
  refine g_aload_n C dX11_restOf_32 rfl 0 rfl ?_
  refine g_get C (a_98 ad cy _) rfl hin_X11 34 (by decide) hF_X11_35 rfl rfl dX11_restOf_33 ?_
  refine g_bipush (v := 12) C dX11_restOf_36 (by decide) ?_
  refine g_iload_n C dX11_restOf_38 rfl 1 rfl ?_
  refine g_imul C dX11_restOf_39 ?_
  refine g_iload C dX11_restOf_40 4 rfl ?_
  refine g_iadd C dX11_restOf_42 ?_
  obtain ⟨v1, ev1, hf⟩ := ol_e hf
  refine g_nm ev1 ?_
  obtain ⟨h2, hf⟩ := og_e hf
  refine g_iald C (a_107 ad cy _) h2 dX11_restOf_43 ?_
  obtain ⟨v3, ev3, hf⟩ := ol_e hf
  refine g_nm ev3 ?_
  refine g_iload_n C dX11_restOf_44 rfl 3 rfl ?_
  rcases oi_e hf with ⟨c4, hf⟩ | ⟨c4, hf⟩
  · refine g_icmp_ge_t (tgt := 63) C dX11_restOf_45 (by decide) c4 ?_
    refine g_iload_n C dX11_restOf_63 rfl 3 rfl ?_
    exact g_sub [0, 1, 2, 4] rfl (fX11_restOf_b64_ok C sf_7 hs_7 σ x1 x2 x4 x3 hf)
  · refine g_icmp_ge_f (tgt := 63) C dX11_restOf_45 (by decide) c4 ?_
    refine g_aload_n C dX11_restOf_48 rfl 0 rfl ?_
    refine g_get C (a_98 ad cy _) rfl hin_X11 34 (by decide) hF_X11_35 rfl rfl dX11_restOf_49 ?_
    refine g_bipush (v := 12) C dX11_restOf_52 (by decide) ?_
    refine g_iload_n C dX11_restOf_54 rfl 1 rfl ?_
    refine g_imul C dX11_restOf_55 ?_
    refine g_iload C dX11_restOf_56 4 rfl ?_
    refine g_iadd C dX11_restOf_58 ?_
    obtain ⟨v5, ev5, hf⟩ := ol_e hf
    refine g_nm ev5 ?_
    obtain ⟨h6, hf⟩ := og_e hf
    refine g_iald C (a_107 ad cy _) h6 dX11_restOf_59 ?_
    obtain ⟨v7, ev7, hf⟩ := ol_e hf
    refine g_nm ev7 ?_
    refine g_goto (tgt := 64) C dX11_restOf_60 (by decide) ?_
    exact g_sub [0, 1, 2, 4] rfl (fX11_restOf_b64_ok C sf_7 hs_7 σ x1 x2 x4 v7 hf)
def fX11_restOf_b7 (sf_7 : S0 → Int32 → Int32 → Int32 → Int32 → Option (Int32 × S0)) (σ : S0) (x1 : Int32) (x2 : Int32) (x3 : Int32) (x4 : Int32) : Option (Int32 × S0) := if (σ 98 4) ≤ x4 then (some (x3, σ)) else (if x2 = ((-4)) then (fX11_restOf_b32 sf_7 σ x1 x2 x3 x4) else (obp (fX11_canFollow σ x2 x4) (fun r3 σ4 => if r3 = 0 then (fX11_restOf_b65 sf_7 σ4 x1 x2 x3 x4) else (fX11_restOf_b32 sf_7 σ4 x1 x2 x3 x4))))
set_option maxHeartbeats 1000000 in
set_option maxRecDepth 100000 in
theorem fX11_restOf_b7_ok {p : Program} {l : Launch} {e : Env} {s : State} {m : MethodId} {args : Array Value} {below : List Frame} {meth : Method} {c : Code} {dC : Nat → ClassId} {dI : Nat → Nat → Nat} {ad : Nat → Nat} {cy : Nat → ClassId} {sz : Nat} (C : Cx p s m args meth c RX11 cX11_restOf 5 (some .int) dC dI ad cy sz) {rr : Int32} {ρ : S0} (sf_7 : S0 → Int32 → Int32 → Int32 → Int32 → Option (Int32 × S0)) (hs_7 : ∀ (σ : S0) (x1 : Int32) (x2 : Int32) (x3 : Int32) (x4 : Int32) , sf_7 σ x1 x2 x3 x4 = some (rr, ρ) → Gw p l e rm_X11_restOf s m args below meth c (MQ below (QcI dC dI ad cy sz rr ρ) args s 0 0 (AW ad sz)) dC dI ad cy 5 sz 0 0 7 [(0, .ref (ad 98)), (1, .int x1), (2, .int x2), (3, .int x3), (4, .int x4)] [] σ) (σ : S0) (x1 : Int32) (x2 : Int32) (x3 : Int32) (x4 : Int32)  (hf : fX11_restOf_b7 sf_7 σ x1 x2 x3 x4 = some (rr, ρ)) : Gw p l e rm_X11_restOf s m args below meth c (MQ below (QcI dC dI ad cy sz rr ρ) args s 0 0 (AW ad sz)) dC dI ad cy 5 sz 0 0 7 [(0, .ref (ad 98)), (1, .int x1), (2, .int x2), (3, .int x3), (4, .int x4)] [] σ := by
  unfold fX11_restOf_b7 at hf
  refine g_iload C dX11_restOf_7 4 rfl ?_
  refine g_aload_n C dX11_restOf_9 rfl 0 rfl ?_
  refine g_get C (a_98 ad cy _) rfl hin_X11 4 (by decide) hF_X11_81 rfl rfl dX11_restOf_10 ?_
  rcases oi_e hf with ⟨c1, hf⟩ | ⟨c1, hf⟩
  · refine g_icmp_ge_t (tgt := 71) C dX11_restOf_13 (by decide) c1 ?_
    refine g_iload_n C dX11_restOf_71 rfl 3 rfl ?_
    obtain ⟨rfl, rfl⟩ := os_e hf
    exact g_iret C rfl dX11_restOf_72
  · refine g_icmp_ge_f (tgt := 71) C dX11_restOf_13 (by decide) c1 ?_
    refine g_iload_n C dX11_restOf_16 rfl 2 rfl ?_
    refine g_bipush (v := (-4)) C dX11_restOf_17 (by decide) ?_
    rcases oi_e hf with ⟨c2, hf⟩ | ⟨c2, hf⟩
    · refine g_icmp_eq_t (tgt := 32) C dX11_restOf_19 (by decide) c2 ?_
      exact g_sub [0, 1, 2, 3, 4] rfl (fX11_restOf_b32_ok C sf_7 hs_7 σ x1 x2 x3 x4 hf)
    · refine g_icmp_eq_f (tgt := 32) C dX11_restOf_19 (by decide) c2 ?_
      refine g_aload_n C dX11_restOf_22 rfl 0 rfl ?_
      refine g_iload_n C dX11_restOf_23 rfl 2 rfl ?_
      refine g_iload C dX11_restOf_24 4 rfl ?_
      obtain ⟨r3, σ4, h5, hf⟩ := obp_e hf
      refine g_callVi (As := [.int x2, .int x4]) (rest := []) C (a_98 ad cy _) rfl (c_X11_canFollow l dC dI ad cy x2 x4) h5 hM_X11_279 cal_X11_canFollow ⟨Nat.zero_le _, Nat.zero_le _⟩ ⟨rfl, rfl⟩ ⟨Nat.le_of_ble_eq_true rfl, Nat.le_of_ble_eq_true rfl⟩ rfl rfl (Nat.le_of_ble_eq_true rfl) dX11_restOf_26 ?_
      rcases oi_e hf with ⟨c6, hf⟩ | ⟨c6, hf⟩
      · refine g_if_eq_t (tgt := 65) C dX11_restOf_29 (by decide) c6 ?_
        exact g_sub [0, 1, 2, 3, 4] rfl (fX11_restOf_b65_ok C sf_7 hs_7 σ4 x1 x2 x3 x4 hf)
      · refine g_if_eq_f (tgt := 65) C dX11_restOf_29 (by decide) c6 ?_
        exact g_sub [0, 1, 2, 3, 4] rfl (fX11_restOf_b32_ok C sf_7 hs_7 σ4 x1 x2 x3 x4 hf)
def fX11_restOf_h7  : Nat → S0 → Int32 → Int32 → Int32 → Int32 → Option (Int32 × S0)
  | 0 => fun _ _ _ _ _ => none
  | n + 1 => fun σ x1 x2 x3 x4 => fX11_restOf_b7  (fX11_restOf_h7  n) σ x1 x2 x3 x4
set_option maxHeartbeats 1000000 in
set_option maxRecDepth 100000 in
theorem fX11_restOf_h7_ok {p : Program} {l : Launch} {e : Env} {s : State} {m : MethodId} {args : Array Value} {below : List Frame} {meth : Method} {c : Code} {dC : Nat → ClassId} {dI : Nat → Nat → Nat} {ad : Nat → Nat} {cy : Nat → ClassId} {sz : Nat} (C : Cx p s m args meth c RX11 cX11_restOf 5 (some .int) dC dI ad cy sz) {rr : Int32} {ρ : S0}  : ∀ (n : Nat) (σ : S0) (x1 : Int32) (x2 : Int32) (x3 : Int32) (x4 : Int32)  (_hf : fX11_restOf_h7  n σ x1 x2 x3 x4 = some (rr, ρ)), Gw p l e rm_X11_restOf s m args below meth c (MQ below (QcI dC dI ad cy sz rr ρ) args s 0 0 (AW ad sz)) dC dI ad cy 5 sz 0 0 7 [(0, .ref (ad 98)), (1, .int x1), (2, .int x2), (3, .int x3), (4, .int x4)] [] σ
  | 0, _, _, _, _, _, hf => by cases hf
  | n + 1, σ, x1, x2, x3, x4, hf => fX11_restOf_b7_ok C  (fX11_restOf_h7  n) (fX11_restOf_h7_ok C  n) σ x1 x2 x3 x4 hf
def fX11_restOf (σ : S0) (x1 : Int32) (x2 : Int32) : Option (Int32 × S0) := fX11_restOf_h7 400 σ x1 x2 99999 0
set_option maxHeartbeats 1000000 in
set_option maxRecDepth 100000 in
theorem fX11_restOf_ok {p : Program} {l : Launch} {e : Env} {s : State} {m : MethodId} {args : Array Value} {below : List Frame} {meth : Method} {c : Code} {dC : Nat → ClassId} {dI : Nat → Nat → Nat} {ad : Nat → Nat} {cy : Nat → ClassId} {sz : Nat} (C : Cx p s m args meth c RX11 cX11_restOf 5 (some .int) dC dI ad cy sz) {rr : Int32} {ρ : S0} (σ : S0) (x1 : Int32) (x2 : Int32)  (hf : fX11_restOf σ x1 x2 = some (rr, ρ)) : Gw p l e rm_X11_restOf s m args below meth c (MQ below (QcI dC dI ad cy sz rr ρ) args s 0 0 (AW ad sz)) dC dI ad cy 5 sz 0 0 0 [(0, .ref (ad 98)), (1, .int x1), (2, .int x2)] [] σ := by
  unfold fX11_restOf at hf
  refine g_ldcw (v := 99999) C dX11_restOf_0 hK_X11_262 ?_
  refine g_istore_n (lv2 := [(0, .ref (ad 98)), (1, .int x1), (2, .int x2), (3, .int 99999)]) C dX11_restOf_3 rfl (by decide) [1, 2, 3, 0] rfl ?_
  refine g_iconst (v := 0) C dX11_restOf_4 (by decide) ?_
  refine g_istore (lv2 := [(0, .ref (ad 98)), (1, .int x1), (2, .int x2), (3, .int 99999), (4, .int 0)]) C dX11_restOf_5 (by decide) [1, 2, 3, 4, 0] rfl ?_
  exact g_sub [0, 1, 2, 3, 4] rfl (fX11_restOf_h7_ok C 400 σ x1 x2 99999 0 hf)
theorem c_X11_restOf (l : Launch) (dC : Nat → ClassId) (dI : Nat → Nat → Nat) (ad : Nat → Nat) (cy : Nat → ClassId) (x1 : Int32) (x2 : Int32) : ConI l yX11_restOf cX11_restOf 5 (some .int) rm_X11_restOf dC dI ad cy [.ref (ad 98), .int x1, .int x2] (fun σ => fX11_restOf σ x1 x2) := con_i (own := RX11) (by decide) rfl (Nat.le_of_ble_eq_true rfl) (fun _ _ _ _ _ _ _ _ σ _ _ C hf => fX11_restOf_ok C σ x1 x2 hf)
theorem cal_X11_restOf : CalV yX11_restOf RX11 cX11_restOf 5 (some .int) 2 := ⟨hI_X11_restOf, hS_X11_restOf, hIni_X11, hC_X11_restOf, by decide +kernel⟩
abbrev rm_X11_nearestSum : Room := { frames := 3, cells := 0, slots := 0, locals := 68 }
def fX11_nearestSum_b122 (sf_11 : S0 → Int32 → Int32 → Int32 → Int32 → Option (Int32 × S0)) (sf_19 : S0 → Int32 → Int32 → Int32 → Int32 → Int32 → Option (Int32 × S0)) (σ : S0) (x1 : Int32) (x2 : Int32) (x3 : Int32) (x4 : Int32) (x5 : Int32) (t0 : Int32) (t1 : Int32) : Option (Int32 × S0) := og (¬ (t1 < 0 ∨ 156 ≤ t1.toNatClampNeg)) (ol (su σ 107 t1.toNatClampNeg t0) (fun σ2 => ol (x5 + 1) (fun v3 => sf_19 σ2 x1 x2 x3 x4 v3)))
set_option maxHeartbeats 1000000 in
set_option maxRecDepth 100000 in
theorem fX11_nearestSum_b122_ok {p : Program} {l : Launch} {e : Env} {s : State} {m : MethodId} {args : Array Value} {below : List Frame} {meth : Method} {c : Code} {dC : Nat → ClassId} {dI : Nat → Nat → Nat} {ad : Nat → Nat} {cy : Nat → ClassId} {sz : Nat} (C : Cx p s m args meth c RX11 cX11_nearestSum 8 (some .int) dC dI ad cy sz) {rr : Int32} {ρ : S0} (sf_11 : S0 → Int32 → Int32 → Int32 → Int32 → Option (Int32 × S0)) (hs_11 : ∀ (σ : S0) (x1 : Int32) (x2 : Int32) (x3 : Int32) (x4 : Int32) , sf_11 σ x1 x2 x3 x4 = some (rr, ρ) → Gw p l e rm_X11_nearestSum s m args below meth c (MQ below (QcI dC dI ad cy sz rr ρ) args s 0 0 (AW ad sz)) dC dI ad cy 8 sz 0 0 11 [(0, .ref (ad 98)), (1, .int x1), (2, .int x2), (3, .int x3), (4, .int x4)] [] σ) (sf_19 : S0 → Int32 → Int32 → Int32 → Int32 → Int32 → Option (Int32 × S0)) (hs_19 : ∀ (σ : S0) (x1 : Int32) (x2 : Int32) (x3 : Int32) (x4 : Int32) (x5 : Int32) , sf_19 σ x1 x2 x3 x4 x5 = some (rr, ρ) → Gw p l e rm_X11_nearestSum s m args below meth c (MQ below (QcI dC dI ad cy sz rr ρ) args s 0 0 (AW ad sz)) dC dI ad cy 8 sz 0 0 19 [(0, .ref (ad 98)), (1, .int x1), (2, .int x2), (3, .int x3), (4, .int x4), (5, .int x5)] [] σ) (σ : S0) (x1 : Int32) (x2 : Int32) (x3 : Int32) (x4 : Int32) (x5 : Int32) (t0 : Int32) (t1 : Int32)  (hf : fX11_nearestSum_b122 sf_11 sf_19 σ x1 x2 x3 x4 x5 t0 t1 = some (rr, ρ)) : Gw p l e rm_X11_nearestSum s m args below meth c (MQ below (QcI dC dI ad cy sz rr ρ) args s 0 0 (AW ad sz)) dC dI ad cy 8 sz 0 0 122 [(0, .ref (ad 98)), (1, .int x1), (2, .int x2), (3, .int x3), (4, .int x4), (5, .int x5)] [.int t0, .int t1, .ref (ad 107)] σ := by
  unfold fX11_nearestSum_b122 at hf
  obtain ⟨h1, hf⟩ := og_e hf
  obtain ⟨σ2, eσ2, hf⟩ := ol_e hf
  refine g_iast C (a_107 ad cy _) h1 (w_107 ad cy _) eσ2 dX11_nearestSum_122 ?_
  obtain ⟨v3, ev3, hf⟩ := ol_e hf
  refine g_iinc (j := 5) (w := 1) (lv2 := [(0, .ref (ad 98)), (1, .int x1), (2, .int x2), (3, .int x3), (4, .int x4), (5, .int v3)]) C dX11_nearestSum_123 rfl (by decide) ev3 (by decide) [1, 2, 3, 4, 5, 0] rfl ?_
  refine g_goto (tgt := 19) C dX11_nearestSum_126 (by decide) ?_
  exact g_sub [0, 1, 2, 3, 4, 5] rfl (hs_19 σ2 x1 x2 x3 x4 v3 hf)
def fX11_nearestSum_b81 (sf_11 : S0 → Int32 → Int32 → Int32 → Int32 → Option (Int32 × S0)) (sf_19 : S0 → Int32 → Int32 → Int32 → Int32 → Int32 → Option (Int32 × S0)) (σ : S0) (x1 : Int32) (x2 : Int32) (x3 : Int32) (x4 : Int32) (x5 : Int32) (x6 : Int32) (t0 : Int32) : Option (Int32 × S0) := if t0 = 0 then (fX11_nearestSum_b122 sf_11 sf_19 σ x1 x2 x3 x4 x5 99999 ((12 * x4) + x5)) else (obp (fX11_stroke σ x1 x4) (fun r2 σ3 => obp (fX11_size σ3 (x5 - r2)) (fun r5 σ6 => fX11_nearestSum_b122 sf_11 sf_19 σ6 x1 x2 x3 x4 x5 (x6 + r5) ((12 * x4) + x5))))
set_option maxHeartbeats 1000000 in
set_option maxRecDepth 100000 in
theorem fX11_nearestSum_b81_ok {p : Program} {l : Launch} {e : Env} {s : State} {m : MethodId} {args : Array Value} {below : List Frame} {meth : Method} {c : Code} {dC : Nat → ClassId} {dI : Nat → Nat → Nat} {ad : Nat → Nat} {cy : Nat → ClassId} {sz : Nat} (C : Cx p s m args meth c RX11 cX11_nearestSum 8 (some .int) dC dI ad cy sz) {rr : Int32} {ρ : S0} (sf_11 : S0 → Int32 → Int32 → Int32 → Int32 → Option (Int32 × S0)) (hs_11 : ∀ (σ : S0) (x1 : Int32) (x2 : Int32) (x3 : Int32) (x4 : Int32) , sf_11 σ x1 x2 x3 x4 = some (rr, ρ) → Gw p l e rm_X11_nearestSum s m args below meth c (MQ below (QcI dC dI ad cy sz rr ρ) args s 0 0 (AW ad sz)) dC dI ad cy 8 sz 0 0 11 [(0, .ref (ad 98)), (1, .int x1), (2, .int x2), (3, .int x3), (4, .int x4)] [] σ) (sf_19 : S0 → Int32 → Int32 → Int32 → Int32 → Int32 → Option (Int32 × S0)) (hs_19 : ∀ (σ : S0) (x1 : Int32) (x2 : Int32) (x3 : Int32) (x4 : Int32) (x5 : Int32) , sf_19 σ x1 x2 x3 x4 x5 = some (rr, ρ) → Gw p l e rm_X11_nearestSum s m args below meth c (MQ below (QcI dC dI ad cy sz rr ρ) args s 0 0 (AW ad sz)) dC dI ad cy 8 sz 0 0 19 [(0, .ref (ad 98)), (1, .int x1), (2, .int x2), (3, .int x3), (4, .int x4), (5, .int x5)] [] σ) (σ : S0) (x1 : Int32) (x2 : Int32) (x3 : Int32) (x4 : Int32) (x5 : Int32) (x6 : Int32) (t0 : Int32)  (hf : fX11_nearestSum_b81 sf_11 sf_19 σ x1 x2 x3 x4 x5 x6 t0 = some (rr, ρ)) : Gw p l e rm_X11_nearestSum s m args below meth c (MQ below (QcI dC dI ad cy sz rr ρ) args s 0 0 (AW ad sz)) dC dI ad cy 8 sz 0 0 81 [(0, .ref (ad 98)), (1, .int x1), (2, .int x2), (3, .int x3), (4, .int x4), (5, .int x5), (6, .int x6)] [.int t0] σ := by
  unfold fX11_nearestSum_b81 at hf
  refine g_istore (lv2 := [(0, .ref (ad 98)), (1, .int x1), (2, .int x2), (3, .int x3), (4, .int x4), (5, .int x5), (6, .int x6), (7, .int t0)]) C dX11_nearestSum_81 (by decide) [1, 2, 3, 4, 5, 6, 7, 0] rfl ?_
  refine g_aload_n C dX11_nearestSum_83 rfl 0 rfl ?_
  refine g_get C (a_98 ad cy _) rfl hin_X11 34 (by decide) hF_X11_35 rfl rfl dX11_nearestSum_84 ?_
  refine g_bipush (v := 12) C dX11_nearestSum_87 (by decide) ?_
  refine g_iload C dX11_nearestSum_89 4 rfl ?_
  refine g_imul C dX11_nearestSum_91 ?_
  refine g_iload C dX11_nearestSum_92 5 rfl ?_
  refine g_iadd C dX11_nearestSum_94 ?_
  refine g_iload C dX11_nearestSum_95 7 rfl ?_
  rcases oi_e hf with ⟨c1, hf⟩ | ⟨c1, hf⟩
  · refine g_if_eq_t (tgt := 119) C dX11_nearestSum_97 (by decide) c1 ?_
    refine g_ldcw (v := 99999) C dX11_nearestSum_119 hK_X11_262 ?_
    exact g_sub [0, 1, 2, 3, 4, 5] rfl (fX11_nearestSum_b122_ok C sf_11 hs_11 sf_19 hs_19 σ x1 x2 x3 x4 x5 99999 ((12 * x4) + x5) hf)
  · refine g_if_eq_f (tgt := 119) C dX11_nearestSum_97 (by decide) c1 ?_
    refine g_iload C dX11_nearestSum_100 6 rfl ?_
    refine g_iload C dX11_nearestSum_102 5 rfl ?_
    refine g_aload_n C dX11_nearestSum_104 rfl 0 rfl ?_
    refine g_iload_n C dX11_nearestSum_105 rfl 1 rfl ?_
    refine g_iload C dX11_nearestSum_106 4 rfl ?_
    obtain ⟨r2, σ3, h4, hf⟩ := obp_e hf
    refine g_callVi (As := [.int x1, .int x4]) (rest := [.int x5, .int x6, .int ((12 * x4) + x5), .ref (ad 107)]) C (a_98 ad cy _) rfl (c_X11_stroke l dC dI ad cy x1 x4) h4 hM_X11_183 cal_X11_stroke ⟨Nat.zero_le _, Nat.zero_le _⟩ ⟨rfl, rfl⟩ ⟨Nat.le_of_ble_eq_true rfl, Nat.le_of_ble_eq_true rfl⟩ rfl rfl (Nat.le_of_ble_eq_true rfl) dX11_nearestSum_108 ?_
    refine g_isub C dX11_nearestSum_111 ?_
    obtain ⟨r5, σ6, h7, hf⟩ := obp_e hf
    refine g_callSi (As := [.int (x5 - r2)]) (rest := [.int x6, .int ((12 * x4) + x5), .ref (ad 107)]) C (c_X11_size l dC dI ad cy (x5 - r2)) h7 hM_X11_285 cal_X11_size ⟨Nat.zero_le _, Nat.zero_le _⟩ ⟨rfl, rfl⟩ ⟨Nat.le_of_ble_eq_true rfl, Nat.le_of_ble_eq_true rfl⟩ rfl rfl (Nat.le_of_ble_eq_true rfl) dX11_nearestSum_112 ?_
    refine g_iadd C dX11_nearestSum_115 ?_
    refine g_goto (tgt := 122) C dX11_nearestSum_116 (by decide) ?_
    exact g_sub [0, 1, 2, 3, 4, 5] rfl (fX11_nearestSum_b122_ok C sf_11 hs_11 sf_19 hs_19 σ6 x1 x2 x3 x4 x5 (x6 + r5) ((12 * x4) + x5) hf)
def fX11_nearestSum_b80 (sf_11 : S0 → Int32 → Int32 → Int32 → Int32 → Option (Int32 × S0)) (sf_19 : S0 → Int32 → Int32 → Int32 → Int32 → Int32 → Option (Int32 × S0)) (σ : S0) (x1 : Int32) (x2 : Int32) (x3 : Int32) (x4 : Int32) (x5 : Int32) (x6 : Int32) : Option (Int32 × S0) := fX11_nearestSum_b81 sf_11 sf_19 σ x1 x2 x3 x4 x5 x6 0
set_option maxHeartbeats 1000000 in
set_option maxRecDepth 100000 in
theorem fX11_nearestSum_b80_ok {p : Program} {l : Launch} {e : Env} {s : State} {m : MethodId} {args : Array Value} {below : List Frame} {meth : Method} {c : Code} {dC : Nat → ClassId} {dI : Nat → Nat → Nat} {ad : Nat → Nat} {cy : Nat → ClassId} {sz : Nat} (C : Cx p s m args meth c RX11 cX11_nearestSum 8 (some .int) dC dI ad cy sz) {rr : Int32} {ρ : S0} (sf_11 : S0 → Int32 → Int32 → Int32 → Int32 → Option (Int32 × S0)) (hs_11 : ∀ (σ : S0) (x1 : Int32) (x2 : Int32) (x3 : Int32) (x4 : Int32) , sf_11 σ x1 x2 x3 x4 = some (rr, ρ) → Gw p l e rm_X11_nearestSum s m args below meth c (MQ below (QcI dC dI ad cy sz rr ρ) args s 0 0 (AW ad sz)) dC dI ad cy 8 sz 0 0 11 [(0, .ref (ad 98)), (1, .int x1), (2, .int x2), (3, .int x3), (4, .int x4)] [] σ) (sf_19 : S0 → Int32 → Int32 → Int32 → Int32 → Int32 → Option (Int32 × S0)) (hs_19 : ∀ (σ : S0) (x1 : Int32) (x2 : Int32) (x3 : Int32) (x4 : Int32) (x5 : Int32) , sf_19 σ x1 x2 x3 x4 x5 = some (rr, ρ) → Gw p l e rm_X11_nearestSum s m args below meth c (MQ below (QcI dC dI ad cy sz rr ρ) args s 0 0 (AW ad sz)) dC dI ad cy 8 sz 0 0 19 [(0, .ref (ad 98)), (1, .int x1), (2, .int x2), (3, .int x3), (4, .int x4), (5, .int x5)] [] σ) (σ : S0) (x1 : Int32) (x2 : Int32) (x3 : Int32) (x4 : Int32) (x5 : Int32) (x6 : Int32)  (hf : fX11_nearestSum_b80 sf_11 sf_19 σ x1 x2 x3 x4 x5 x6 = some (rr, ρ)) : Gw p l e rm_X11_nearestSum s m args below meth c (MQ below (QcI dC dI ad cy sz rr ρ) args s 0 0 (AW ad sz)) dC dI ad cy 8 sz 0 0 80 [(0, .ref (ad 98)), (1, .int x1), (2, .int x2), (3, .int x3), (4, .int x4), (5, .int x5), (6, .int x6)] [] σ := by
  unfold fX11_nearestSum_b80 at hf
  refine g_iconst (v := 0) C dX11_nearestSum_80 (by decide) ?_
  exact g_sub [0, 1, 2, 3, 4, 5, 6] rfl (fX11_nearestSum_b81_ok C sf_11 hs_11 sf_19 hs_19 σ x1 x2 x3 x4 x5 x6 0 hf)
def fX11_nearestSum_b50 (sf_11 : S0 → Int32 → Int32 → Int32 → Int32 → Option (Int32 × S0)) (sf_19 : S0 → Int32 → Int32 → Int32 → Int32 → Int32 → Option (Int32 × S0)) (σ : S0) (x1 : Int32) (x2 : Int32) (x3 : Int32) (x4 : Int32) (x5 : Int32) (t0 : Int32) : Option (Int32 × S0) := if x5 = x2 then (fX11_nearestSum_b80 sf_11 sf_19 σ x1 x2 x3 x4 x5 t0) else (obp (fX11_of σ x5 ((3 : Int32))) (fun r2 σ3 => if ¬ r2 = 0 then (fX11_nearestSum_b80 sf_11 sf_19 σ3 x1 x2 x3 x4 x5 t0) else (if (99999 : Int32) ≤ t0 then (fX11_nearestSum_b80 sf_11 sf_19 σ3 x1 x2 x3 x4 x5 t0) else (fX11_nearestSum_b81 sf_11 sf_19 σ3 x1 x2 x3 x4 x5 t0 1))))
set_option maxHeartbeats 1000000 in
set_option maxRecDepth 100000 in
theorem fX11_nearestSum_b50_ok {p : Program} {l : Launch} {e : Env} {s : State} {m : MethodId} {args : Array Value} {below : List Frame} {meth : Method} {c : Code} {dC : Nat → ClassId} {dI : Nat → Nat → Nat} {ad : Nat → Nat} {cy : Nat → ClassId} {sz : Nat} (C : Cx p s m args meth c RX11 cX11_nearestSum 8 (some .int) dC dI ad cy sz) {rr : Int32} {ρ : S0} (sf_11 : S0 → Int32 → Int32 → Int32 → Int32 → Option (Int32 × S0)) (hs_11 : ∀ (σ : S0) (x1 : Int32) (x2 : Int32) (x3 : Int32) (x4 : Int32) , sf_11 σ x1 x2 x3 x4 = some (rr, ρ) → Gw p l e rm_X11_nearestSum s m args below meth c (MQ below (QcI dC dI ad cy sz rr ρ) args s 0 0 (AW ad sz)) dC dI ad cy 8 sz 0 0 11 [(0, .ref (ad 98)), (1, .int x1), (2, .int x2), (3, .int x3), (4, .int x4)] [] σ) (sf_19 : S0 → Int32 → Int32 → Int32 → Int32 → Int32 → Option (Int32 × S0)) (hs_19 : ∀ (σ : S0) (x1 : Int32) (x2 : Int32) (x3 : Int32) (x4 : Int32) (x5 : Int32) , sf_19 σ x1 x2 x3 x4 x5 = some (rr, ρ) → Gw p l e rm_X11_nearestSum s m args below meth c (MQ below (QcI dC dI ad cy sz rr ρ) args s 0 0 (AW ad sz)) dC dI ad cy 8 sz 0 0 19 [(0, .ref (ad 98)), (1, .int x1), (2, .int x2), (3, .int x3), (4, .int x4), (5, .int x5)] [] σ) (σ : S0) (x1 : Int32) (x2 : Int32) (x3 : Int32) (x4 : Int32) (x5 : Int32) (t0 : Int32)  (hf : fX11_nearestSum_b50 sf_11 sf_19 σ x1 x2 x3 x4 x5 t0 = some (rr, ρ)) : Gw p l e rm_X11_nearestSum s m args below meth c (MQ below (QcI dC dI ad cy sz rr ρ) args s 0 0 (AW ad sz)) dC dI ad cy 8 sz 0 0 50 [(0, .ref (ad 98)), (1, .int x1), (2, .int x2), (3, .int x3), (4, .int x4), (5, .int x5)] [.int t0] σ := by
  unfold fX11_nearestSum_b50 at hf
  refine g_istore (lv2 := [(0, .ref (ad 98)), (1, .int x1), (2, .int x2), (3, .int x3), (4, .int x4), (5, .int x5), (6, .int t0)]) C dX11_nearestSum_50 (by decide) [1, 2, 3, 4, 5, 6, 0] rfl ?_
  refine g_iload C dX11_nearestSum_52 5 rfl ?_
  refine g_iload_n C dX11_nearestSum_54 rfl 2 rfl ?_
  rcases oi_e hf with ⟨c1, hf⟩ | ⟨c1, hf⟩
  · refine g_icmp_eq_t (tgt := 80) C dX11_nearestSum_55 (by decide) c1 ?_
    exact g_sub [0, 1, 2, 3, 4, 5, 6] rfl (fX11_nearestSum_b80_ok C sf_11 hs_11 sf_19 hs_19 σ x1 x2 x3 x4 x5 t0 hf)
  · refine g_icmp_eq_f (tgt := 80) C dX11_nearestSum_55 (by decide) c1 ?_
    refine g_aload_n C dX11_nearestSum_58 rfl 0 rfl ?_
    refine g_iload C dX11_nearestSum_59 5 rfl ?_
    refine g_iconst (v := 3) C dX11_nearestSum_61 (by decide) ?_
    obtain ⟨r2, σ3, h4, hf⟩ := obp_e hf
    refine g_callVi (As := [.int x5, .int 3]) (rest := []) C (a_98 ad cy _) rfl (c_X11_of l dC dI ad cy x5 ((3 : Int32))) h4 hM_X11_172 cal_X11_of ⟨Nat.zero_le _, Nat.zero_le _⟩ ⟨rfl, rfl⟩ ⟨Nat.le_of_ble_eq_true rfl, Nat.le_of_ble_eq_true rfl⟩ rfl rfl (Nat.le_of_ble_eq_true rfl) dX11_nearestSum_62 ?_
    rcases oi_e hf with ⟨c5, hf⟩ | ⟨c5, hf⟩
    · refine g_if_ne_t (tgt := 80) C dX11_nearestSum_65 (by decide) c5 ?_
      exact g_sub [0, 1, 2, 3, 4, 5, 6] rfl (fX11_nearestSum_b80_ok C sf_11 hs_11 sf_19 hs_19 σ3 x1 x2 x3 x4 x5 t0 hf)
    · refine g_if_ne_f (tgt := 80) C dX11_nearestSum_65 (by decide) (Decidable.of_not_not c5) ?_
      refine g_iload C dX11_nearestSum_68 6 rfl ?_
      refine g_ldcw (v := 99999) C dX11_nearestSum_70 hK_X11_262 ?_
      rcases oi_e hf with ⟨c6, hf⟩ | ⟨c6, hf⟩
      · refine g_icmp_ge_t (tgt := 80) C dX11_nearestSum_73 (by decide) c6 ?_
        exact g_sub [0, 1, 2, 3, 4, 5, 6] rfl (fX11_nearestSum_b80_ok C sf_11 hs_11 sf_19 hs_19 σ3 x1 x2 x3 x4 x5 t0 hf)
      · refine g_icmp_ge_f (tgt := 80) C dX11_nearestSum_73 (by decide) c6 ?_
        refine g_iconst (v := 1) C dX11_nearestSum_76 (by decide) ?_
        refine g_goto (tgt := 81) C dX11_nearestSum_77 (by decide) ?_
        exact g_sub [0, 1, 2, 3, 4, 5, 6] rfl (fX11_nearestSum_b81_ok C sf_11 hs_11 sf_19 hs_19 σ3 x1 x2 x3 x4 x5 t0 1 hf)
def fX11_nearestSum_b19 (sf_11 : S0 → Int32 → Int32 → Int32 → Int32 → Option (Int32 × S0)) (sf_19 : S0 → Int32 → Int32 → Int32 → Int32 → Int32 → Option (Int32 × S0)) (σ : S0) (x1 : Int32) (x2 : Int32) (x3 : Int32) (x4 : Int32) (x5 : Int32) : Option (Int32 × S0) := if (σ 98 4) ≤ x5 then (ol (x4 + (-1)) (fun v2 => sf_11 σ x1 x2 x3 v2)) else (if ¬ x4 = (x3 - 1) then (obp (fX11_restOf σ (x4 + 1) x5) (fun r4 σ5 => fX11_nearestSum_b50 sf_11 sf_19 σ5 x1 x2 x3 x4 x5 r4)) else (fX11_nearestSum_b50 sf_11 sf_19 σ x1 x2 x3 x4 x5 0))
set_option maxHeartbeats 1000000 in
set_option maxRecDepth 100000 in
theorem fX11_nearestSum_b19_ok {p : Program} {l : Launch} {e : Env} {s : State} {m : MethodId} {args : Array Value} {below : List Frame} {meth : Method} {c : Code} {dC : Nat → ClassId} {dI : Nat → Nat → Nat} {ad : Nat → Nat} {cy : Nat → ClassId} {sz : Nat} (C : Cx p s m args meth c RX11 cX11_nearestSum 8 (some .int) dC dI ad cy sz) {rr : Int32} {ρ : S0} (sf_11 : S0 → Int32 → Int32 → Int32 → Int32 → Option (Int32 × S0)) (hs_11 : ∀ (σ : S0) (x1 : Int32) (x2 : Int32) (x3 : Int32) (x4 : Int32) , sf_11 σ x1 x2 x3 x4 = some (rr, ρ) → Gw p l e rm_X11_nearestSum s m args below meth c (MQ below (QcI dC dI ad cy sz rr ρ) args s 0 0 (AW ad sz)) dC dI ad cy 8 sz 0 0 11 [(0, .ref (ad 98)), (1, .int x1), (2, .int x2), (3, .int x3), (4, .int x4)] [] σ) (sf_19 : S0 → Int32 → Int32 → Int32 → Int32 → Int32 → Option (Int32 × S0)) (hs_19 : ∀ (σ : S0) (x1 : Int32) (x2 : Int32) (x3 : Int32) (x4 : Int32) (x5 : Int32) , sf_19 σ x1 x2 x3 x4 x5 = some (rr, ρ) → Gw p l e rm_X11_nearestSum s m args below meth c (MQ below (QcI dC dI ad cy sz rr ρ) args s 0 0 (AW ad sz)) dC dI ad cy 8 sz 0 0 19 [(0, .ref (ad 98)), (1, .int x1), (2, .int x2), (3, .int x3), (4, .int x4), (5, .int x5)] [] σ) (σ : S0) (x1 : Int32) (x2 : Int32) (x3 : Int32) (x4 : Int32) (x5 : Int32)  (hf : fX11_nearestSum_b19 sf_11 sf_19 σ x1 x2 x3 x4 x5 = some (rr, ρ)) : Gw p l e rm_X11_nearestSum s m args below meth c (MQ below (QcI dC dI ad cy sz rr ρ) args s 0 0 (AW ad sz)) dC dI ad cy 8 sz 0 0 19 [(0, .ref (ad 98)), (1, .int x1), (2, .int x2), (3, .int x3), (4, .int x4), (5, .int x5)] [] σ := by
  unfold fX11_nearestSum_b19 at hf
  refine g_iload C dX11_nearestSum_19 5 rfl ?_
  refine g_aload_n C dX11_nearestSum_21 rfl 0 rfl ?_
  refine g_get C (a_98 ad cy _) rfl hin_X11 4 (by decide) hF_X11_81 rfl rfl dX11_nearestSum_22 ?_
  rcases oi_e hf with ⟨c1, hf⟩ | ⟨c1, hf⟩
  · refine g_icmp_ge_t (tgt := 129) C dX11_nearestSum_25 (by decide) c1 ?_
    obtain ⟨v2, ev2, hf⟩ := ol_e hf
    refine g_iinc (j := 4) (w := (-1)) (lv2 := [(0, .ref (ad 98)), (1, .int x1), (2, .int x2), (3, .int x3), (4, .int v2), (5, .int x5)]) C dX11_nearestSum_129 rfl (by decide) ev2 (by decide) [1, 2, 3, 4, 0, 5] rfl ?_
    refine g_goto (tgt := 11) C dX11_nearestSum_132 (by decide) ?_
    exact g_sub [0, 1, 2, 3, 4] rfl (hs_11 σ x1 x2 x3 v2 hf)
  · refine g_icmp_ge_f (tgt := 129) C dX11_nearestSum_25 (by decide) c1 ?_
    refine g_iload C dX11_nearestSum_28 4 rfl ?_
    refine g_iload_n C dX11_nearestSum_30 rfl 3 rfl ?_
    refine g_iconst (v := 1) C dX11_nearestSum_31 (by decide) ?_
    refine g_isub C dX11_nearestSum_32 ?_
    rcases oi_e hf with ⟨c3, hf⟩ | ⟨c3, hf⟩
    · refine g_icmp_ne_t (tgt := 40) C dX11_nearestSum_33 (by decide) c3 ?_
      refine g_aload_n C dX11_nearestSum_40 rfl 0 rfl ?_
      refine g_iload C dX11_nearestSum_41 4 rfl ?_
      refine g_iconst (v := 1) C dX11_nearestSum_43 (by decide) ?_
      refine g_iadd C dX11_nearestSum_44 ?_
      refine g_iload C dX11_nearestSum_45 5 rfl ?_
      obtain ⟨r4, σ5, h6, hf⟩ := obp_e hf
      refine g_callVi (As := [.int (x4 + 1), .int x5]) (rest := []) C (a_98 ad cy _) rfl (c_X11_restOf l dC dI ad cy (x4 + 1) x5) h6 hM_X11_282 cal_X11_restOf ⟨Nat.zero_le _, Nat.zero_le _⟩ ⟨rfl, rfl⟩ ⟨Nat.le_of_ble_eq_true rfl, Nat.le_of_ble_eq_true rfl⟩ rfl rfl (Nat.le_of_ble_eq_true rfl) dX11_nearestSum_47 ?_
      exact g_sub [0, 1, 2, 3, 4, 5] rfl (fX11_nearestSum_b50_ok C sf_11 hs_11 sf_19 hs_19 σ5 x1 x2 x3 x4 x5 r4 hf)
    · refine g_icmp_ne_f (tgt := 40) C dX11_nearestSum_33 (by decide) (Decidable.of_not_not c3) ?_
      refine g_iconst (v := 0) C dX11_nearestSum_36 (by decide) ?_
      refine g_goto (tgt := 50) C dX11_nearestSum_37 (by decide) ?_
      exact g_sub [0, 1, 2, 3, 4, 5] rfl (fX11_nearestSum_b50_ok C sf_11 hs_11 sf_19 hs_19 σ x1 x2 x3 x4 x5 0 hf)
def fX11_nearestSum_h19 (sf_11 : S0 → Int32 → Int32 → Int32 → Int32 → Option (Int32 × S0)) : Nat → S0 → Int32 → Int32 → Int32 → Int32 → Int32 → Option (Int32 × S0)
  | 0 => fun _ _ _ _ _ _ => none
  | n + 1 => fun σ x1 x2 x3 x4 x5 => fX11_nearestSum_b19 sf_11 (fX11_nearestSum_h19 sf_11 n) σ x1 x2 x3 x4 x5
set_option maxHeartbeats 1000000 in
set_option maxRecDepth 100000 in
theorem fX11_nearestSum_h19_ok {p : Program} {l : Launch} {e : Env} {s : State} {m : MethodId} {args : Array Value} {below : List Frame} {meth : Method} {c : Code} {dC : Nat → ClassId} {dI : Nat → Nat → Nat} {ad : Nat → Nat} {cy : Nat → ClassId} {sz : Nat} (C : Cx p s m args meth c RX11 cX11_nearestSum 8 (some .int) dC dI ad cy sz) {rr : Int32} {ρ : S0} (sf_11 : S0 → Int32 → Int32 → Int32 → Int32 → Option (Int32 × S0)) (hs_11 : ∀ (σ : S0) (x1 : Int32) (x2 : Int32) (x3 : Int32) (x4 : Int32) , sf_11 σ x1 x2 x3 x4 = some (rr, ρ) → Gw p l e rm_X11_nearestSum s m args below meth c (MQ below (QcI dC dI ad cy sz rr ρ) args s 0 0 (AW ad sz)) dC dI ad cy 8 sz 0 0 11 [(0, .ref (ad 98)), (1, .int x1), (2, .int x2), (3, .int x3), (4, .int x4)] [] σ) : ∀ (n : Nat) (σ : S0) (x1 : Int32) (x2 : Int32) (x3 : Int32) (x4 : Int32) (x5 : Int32)  (_hf : fX11_nearestSum_h19 sf_11 n σ x1 x2 x3 x4 x5 = some (rr, ρ)), Gw p l e rm_X11_nearestSum s m args below meth c (MQ below (QcI dC dI ad cy sz rr ρ) args s 0 0 (AW ad sz)) dC dI ad cy 8 sz 0 0 19 [(0, .ref (ad 98)), (1, .int x1), (2, .int x2), (3, .int x3), (4, .int x4), (5, .int x5)] [] σ
  | 0, _, _, _, _, _, _, hf => by cases hf
  | n + 1, σ, x1, x2, x3, x4, x5, hf => fX11_nearestSum_b19_ok C sf_11 hs_11 (fX11_nearestSum_h19 sf_11 n) (fX11_nearestSum_h19_ok C sf_11 hs_11 n) σ x1 x2 x3 x4 x5 hf
def fX11_nearestSum_b11 (sf_11 : S0 → Int32 → Int32 → Int32 → Int32 → Option (Int32 × S0)) (σ : S0) (x1 : Int32) (x2 : Int32) (x3 : Int32) (x4 : Int32) : Option (Int32 × S0) := if x4 < 0 then (obp (fX11_restOf σ ((0 : Int32)) (((-4) : Int32))) (fun r2 σ3 => some (r2, σ3))) else (fX11_nearestSum_h19 sf_11 400 σ x1 x2 x3 x4 0)
set_option maxHeartbeats 1000000 in
set_option maxRecDepth 100000 in
theorem fX11_nearestSum_b11_ok {p : Program} {l : Launch} {e : Env} {s : State} {m : MethodId} {args : Array Value} {below : List Frame} {meth : Method} {c : Code} {dC : Nat → ClassId} {dI : Nat → Nat → Nat} {ad : Nat → Nat} {cy : Nat → ClassId} {sz : Nat} (C : Cx p s m args meth c RX11 cX11_nearestSum 8 (some .int) dC dI ad cy sz) {rr : Int32} {ρ : S0} (sf_11 : S0 → Int32 → Int32 → Int32 → Int32 → Option (Int32 × S0)) (hs_11 : ∀ (σ : S0) (x1 : Int32) (x2 : Int32) (x3 : Int32) (x4 : Int32) , sf_11 σ x1 x2 x3 x4 = some (rr, ρ) → Gw p l e rm_X11_nearestSum s m args below meth c (MQ below (QcI dC dI ad cy sz rr ρ) args s 0 0 (AW ad sz)) dC dI ad cy 8 sz 0 0 11 [(0, .ref (ad 98)), (1, .int x1), (2, .int x2), (3, .int x3), (4, .int x4)] [] σ) (σ : S0) (x1 : Int32) (x2 : Int32) (x3 : Int32) (x4 : Int32)  (hf : fX11_nearestSum_b11 sf_11 σ x1 x2 x3 x4 = some (rr, ρ)) : Gw p l e rm_X11_nearestSum s m args below meth c (MQ below (QcI dC dI ad cy sz rr ρ) args s 0 0 (AW ad sz)) dC dI ad cy 8 sz 0 0 11 [(0, .ref (ad 98)), (1, .int x1), (2, .int x2), (3, .int x3), (4, .int x4)] [] σ := by
  unfold fX11_nearestSum_b11 at hf
  refine g_iload C dX11_nearestSum_11 4 rfl ?_
  rcases oi_e hf with ⟨c1, hf⟩ | ⟨c1, hf⟩
  · refine g_if_lt_t (tgt := 135) C dX11_nearestSum_13 (by decide) c1 ?_
    refine g_aload_n C dX11_nearestSum_135 rfl 0 rfl ?_
    refine g_iconst (v := 0) C dX11_nearestSum_136 (by decide) ?_
    refine g_bipush (v := (-4)) C dX11_nearestSum_137 (by decide) ?_
    obtain ⟨r2, σ3, h4, hf⟩ := obp_e hf
    refine g_callVi (As := [.int 0, .int ((-4))]) (rest := []) C (a_98 ad cy _) rfl (c_X11_restOf l dC dI ad cy ((0 : Int32)) (((-4) : Int32))) h4 hM_X11_282 cal_X11_restOf ⟨Nat.zero_le _, Nat.zero_le _⟩ ⟨rfl, rfl⟩ ⟨Nat.le_of_ble_eq_true rfl, Nat.le_of_ble_eq_true rfl⟩ rfl rfl (Nat.le_of_ble_eq_true rfl) dX11_nearestSum_139 ?_
    obtain ⟨rfl, rfl⟩ := os_e hf
    exact g_iret C rfl dX11_nearestSum_142
  · refine g_if_lt_f (tgt := 135) C dX11_nearestSum_13 (by decide) c1 ?_
    refine g_iconst (v := 0) C dX11_nearestSum_16 (by decide) ?_
    refine g_istore (lv2 := [(0, .ref (ad 98)), (1, .int x1), (2, .int x2), (3, .int x3), (4, .int x4), (5, .int 0)]) C dX11_nearestSum_17 (by decide) [1, 2, 3, 4, 5, 0] rfl ?_
    exact g_sub [0, 1, 2, 3, 4, 5] rfl (fX11_nearestSum_h19_ok C sf_11 hs_11 400 σ x1 x2 x3 x4 0 hf)
def fX11_nearestSum_h11  : Nat → S0 → Int32 → Int32 → Int32 → Int32 → Option (Int32 × S0)
  | 0 => fun _ _ _ _ _ => none
  | n + 1 => fun σ x1 x2 x3 x4 => fX11_nearestSum_b11  (fX11_nearestSum_h11  n) σ x1 x2 x3 x4
set_option maxHeartbeats 1000000 in
set_option maxRecDepth 100000 in
theorem fX11_nearestSum_h11_ok {p : Program} {l : Launch} {e : Env} {s : State} {m : MethodId} {args : Array Value} {below : List Frame} {meth : Method} {c : Code} {dC : Nat → ClassId} {dI : Nat → Nat → Nat} {ad : Nat → Nat} {cy : Nat → ClassId} {sz : Nat} (C : Cx p s m args meth c RX11 cX11_nearestSum 8 (some .int) dC dI ad cy sz) {rr : Int32} {ρ : S0}  : ∀ (n : Nat) (σ : S0) (x1 : Int32) (x2 : Int32) (x3 : Int32) (x4 : Int32)  (_hf : fX11_nearestSum_h11  n σ x1 x2 x3 x4 = some (rr, ρ)), Gw p l e rm_X11_nearestSum s m args below meth c (MQ below (QcI dC dI ad cy sz rr ρ) args s 0 0 (AW ad sz)) dC dI ad cy 8 sz 0 0 11 [(0, .ref (ad 98)), (1, .int x1), (2, .int x2), (3, .int x3), (4, .int x4)] [] σ
  | 0, _, _, _, _, _, hf => by cases hf
  | n + 1, σ, x1, x2, x3, x4, hf => fX11_nearestSum_b11_ok C  (fX11_nearestSum_h11  n) (fX11_nearestSum_h11_ok C  n) σ x1 x2 x3 x4 hf
def fX11_nearestSum (σ : S0) (x1 : Int32) (x2 : Int32) : Option (Int32 × S0) := obp (fX11_strokes σ x1) (fun r1 σ2 => ol (r1 - 1) (fun v4 => fX11_nearestSum_h11 400 σ2 x1 x2 r1 v4))
set_option maxHeartbeats 1000000 in
set_option maxRecDepth 100000 in
theorem fX11_nearestSum_ok {p : Program} {l : Launch} {e : Env} {s : State} {m : MethodId} {args : Array Value} {below : List Frame} {meth : Method} {c : Code} {dC : Nat → ClassId} {dI : Nat → Nat → Nat} {ad : Nat → Nat} {cy : Nat → ClassId} {sz : Nat} (C : Cx p s m args meth c RX11 cX11_nearestSum 8 (some .int) dC dI ad cy sz) {rr : Int32} {ρ : S0} (σ : S0) (x1 : Int32) (x2 : Int32)  (hf : fX11_nearestSum σ x1 x2 = some (rr, ρ)) : Gw p l e rm_X11_nearestSum s m args below meth c (MQ below (QcI dC dI ad cy sz rr ρ) args s 0 0 (AW ad sz)) dC dI ad cy 8 sz 0 0 0 [(0, .ref (ad 98)), (1, .int x1), (2, .int x2)] [] σ := by
  unfold fX11_nearestSum at hf
  refine g_aload_n C dX11_nearestSum_0 rfl 0 rfl ?_
  refine g_iload_n C dX11_nearestSum_1 rfl 1 rfl ?_
  obtain ⟨r1, σ2, h3, hf⟩ := obp_e hf
  refine g_callVi (As := [.int x1]) (rest := []) C (a_98 ad cy _) rfl (c_X11_strokes l dC dI ad cy x1) h3 hM_X11_180 cal_X11_strokes ⟨Nat.zero_le _, Nat.zero_le _⟩ ⟨rfl, rfl⟩ ⟨Nat.le_of_ble_eq_true rfl, Nat.le_of_ble_eq_true rfl⟩ rfl rfl (Nat.le_of_ble_eq_true rfl) dX11_nearestSum_2 ?_
  refine g_istore_n (lv2 := [(0, .ref (ad 98)), (1, .int x1), (2, .int x2), (3, .int r1)]) C dX11_nearestSum_5 rfl (by decide) [1, 2, 3, 0] rfl ?_
  refine g_iload_n C dX11_nearestSum_6 rfl 3 rfl ?_
  refine g_iconst (v := 1) C dX11_nearestSum_7 (by decide) ?_
  refine g_isub C dX11_nearestSum_8 ?_
  obtain ⟨v4, ev4, hf⟩ := ol_e hf
  refine g_nm ev4 ?_
  refine g_istore (lv2 := [(0, .ref (ad 98)), (1, .int x1), (2, .int x2), (3, .int r1), (4, .int v4)]) C dX11_nearestSum_9 (by decide) [1, 2, 3, 4, 0] rfl ?_
  exact g_sub [0, 1, 2, 3, 4] rfl (fX11_nearestSum_h11_ok C 400 σ2 x1 x2 r1 v4 hf)
theorem c_X11_nearestSum (l : Launch) (dC : Nat → ClassId) (dI : Nat → Nat → Nat) (ad : Nat → Nat) (cy : Nat → ClassId) (x1 : Int32) (x2 : Int32) : ConI l yX11_nearestSum cX11_nearestSum 8 (some .int) rm_X11_nearestSum dC dI ad cy [.ref (ad 98), .int x1, .int x2] (fun σ => fX11_nearestSum σ x1 x2) := con_i (own := RX11) (by decide) rfl (Nat.le_of_ble_eq_true rfl) (fun _ _ _ _ _ _ _ _ σ _ _ C hf => fX11_nearestSum_ok C σ x1 x2 hf)
theorem cal_X11_nearestSum : CalV yX11_nearestSum RX11 cX11_nearestSum 8 (some .int) 2 := ⟨hI_X11_nearestSum, hS_X11_nearestSum, hIni_X11, hC_X11_nearestSum, by decide +kernel⟩
abbrev rm_X11_nearestStroke : Room := { frames := 3, cells := 0, slots := 0, locals := 68 }
def fX11_nearestStroke_b87 (sf_5 : S0 → Int32 → Int32 → Int32 → Option (Int32 × S0)) (sf_30 : S0 → Int32 → Int32 → Int32 → Int32 → Int32 → Int32 → Option (Int32 × S0)) (σ : S0) (x1 : Int32) (x2 : Int32) (x3 : Int32) (x4 : Int32) (x6 : Int32) (t0 : Int32) : Option (Int32 × S0) := ol (x6 + (-1)) (fun v1 => sf_30 σ x1 x2 x3 x4 t0 v1)
set_option maxHeartbeats 1000000 in
set_option maxRecDepth 100000 in
theorem fX11_nearestStroke_b87_ok {p : Program} {l : Launch} {e : Env} {s : State} {m : MethodId} {args : Array Value} {below : List Frame} {meth : Method} {c : Code} {dC : Nat → ClassId} {dI : Nat → Nat → Nat} {ad : Nat → Nat} {cy : Nat → ClassId} {sz : Nat} (C : Cx p s m args meth c RX11 cX11_nearestStroke 8 (some .int) dC dI ad cy sz) {rr : Int32} {ρ : S0} (sf_5 : S0 → Int32 → Int32 → Int32 → Option (Int32 × S0)) (hs_5 : ∀ (σ : S0) (x1 : Int32) (x2 : Int32) (x3 : Int32) , sf_5 σ x1 x2 x3 = some (rr, ρ) → Gw p l e rm_X11_nearestStroke s m args below meth c (MQ below (QcI dC dI ad cy sz rr ρ) args s 0 0 (AW ad sz)) dC dI ad cy 8 sz 0 0 5 [(0, .ref (ad 98)), (1, .int x1), (2, .int x2), (3, .int x3)] [] σ) (sf_30 : S0 → Int32 → Int32 → Int32 → Int32 → Int32 → Int32 → Option (Int32 × S0)) (hs_30 : ∀ (σ : S0) (x1 : Int32) (x2 : Int32) (x3 : Int32) (x4 : Int32) (x5 : Int32) (x6 : Int32) , sf_30 σ x1 x2 x3 x4 x5 x6 = some (rr, ρ) → Gw p l e rm_X11_nearestStroke s m args below meth c (MQ below (QcI dC dI ad cy sz rr ρ) args s 0 0 (AW ad sz)) dC dI ad cy 8 sz 0 0 30 [(0, .ref (ad 98)), (1, .int x1), (2, .int x2), (3, .int x3), (4, .int x4), (5, .int x5), (6, .int x6)] [] σ) (σ : S0) (x1 : Int32) (x2 : Int32) (x3 : Int32) (x4 : Int32) (x6 : Int32) (t0 : Int32)  (hf : fX11_nearestStroke_b87 sf_5 sf_30 σ x1 x2 x3 x4 x6 t0 = some (rr, ρ)) : Gw p l e rm_X11_nearestStroke s m args below meth c (MQ below (QcI dC dI ad cy sz rr ρ) args s 0 0 (AW ad sz)) dC dI ad cy 8 sz 0 0 87 [(0, .ref (ad 98)), (1, .int x1), (2, .int x2), (3, .int x3), (4, .int x4), (6, .int x6)] [.int t0] σ := by
  unfold fX11_nearestStroke_b87 at hf
  refine g_istore (lv2 := [(0, .ref (ad 98)), (1, .int x1), (2, .int x2), (3, .int x3), (4, .int x4), (5, .int t0), (6, .int x6)]) C dX11_nearestStroke_87 (by decide) [1, 2, 3, 4, 5, 0, 6] rfl ?_
  obtain ⟨v1, ev1, hf⟩ := ol_e hf
  refine g_iinc (j := 6) (w := (-1)) (lv2 := [(0, .ref (ad 98)), (1, .int x1), (2, .int x2), (3, .int x3), (4, .int x4), (5, .int t0), (6, .int v1)]) C dX11_nearestStroke_89 rfl (by decide) ev1 (by decide) [1, 2, 3, 4, 5, 6, 0] rfl ?_
  refine g_goto (tgt := 30) C dX11_nearestStroke_92 (by decide) ?_
  exact g_sub [0, 1, 2, 3, 4, 5, 6] rfl (hs_30 σ x1 x2 x3 x4 t0 v1 hf)
def fX11_nearestStroke_b73 (sf_5 : S0 → Int32 → Int32 → Int32 → Option (Int32 × S0)) (sf_30 : S0 → Int32 → Int32 → Int32 → Int32 → Int32 → Int32 → Option (Int32 × S0)) (σ : S0) (x1 : Int32) (x2 : Int32) (x3 : Int32) (x4 : Int32) (x5 : Int32) (x6 : Int32) (t0 : Int32) : Option (Int32 × S0) := if t0 = 0 then (fX11_nearestStroke_b87 sf_5 sf_30 σ x1 x2 x3 x4 x6 x5) else (fX11_nearestStroke_b87 sf_5 sf_30 σ x1 x2 x3 x4 x6 x6)
set_option maxHeartbeats 1000000 in
set_option maxRecDepth 100000 in
theorem fX11_nearestStroke_b73_ok {p : Program} {l : Launch} {e : Env} {s : State} {m : MethodId} {args : Array Value} {below : List Frame} {meth : Method} {c : Code} {dC : Nat → ClassId} {dI : Nat → Nat → Nat} {ad : Nat → Nat} {cy : Nat → ClassId} {sz : Nat} (C : Cx p s m args meth c RX11 cX11_nearestStroke 8 (some .int) dC dI ad cy sz) {rr : Int32} {ρ : S0} (sf_5 : S0 → Int32 → Int32 → Int32 → Option (Int32 × S0)) (hs_5 : ∀ (σ : S0) (x1 : Int32) (x2 : Int32) (x3 : Int32) , sf_5 σ x1 x2 x3 = some (rr, ρ) → Gw p l e rm_X11_nearestStroke s m args below meth c (MQ below (QcI dC dI ad cy sz rr ρ) args s 0 0 (AW ad sz)) dC dI ad cy 8 sz 0 0 5 [(0, .ref (ad 98)), (1, .int x1), (2, .int x2), (3, .int x3)] [] σ) (sf_30 : S0 → Int32 → Int32 → Int32 → Int32 → Int32 → Int32 → Option (Int32 × S0)) (hs_30 : ∀ (σ : S0) (x1 : Int32) (x2 : Int32) (x3 : Int32) (x4 : Int32) (x5 : Int32) (x6 : Int32) , sf_30 σ x1 x2 x3 x4 x5 x6 = some (rr, ρ) → Gw p l e rm_X11_nearestStroke s m args below meth c (MQ below (QcI dC dI ad cy sz rr ρ) args s 0 0 (AW ad sz)) dC dI ad cy 8 sz 0 0 30 [(0, .ref (ad 98)), (1, .int x1), (2, .int x2), (3, .int x3), (4, .int x4), (5, .int x5), (6, .int x6)] [] σ) (σ : S0) (x1 : Int32) (x2 : Int32) (x3 : Int32) (x4 : Int32) (x5 : Int32) (x6 : Int32) (t0 : Int32)  (hf : fX11_nearestStroke_b73 sf_5 sf_30 σ x1 x2 x3 x4 x5 x6 t0 = some (rr, ρ)) : Gw p l e rm_X11_nearestStroke s m args below meth c (MQ below (QcI dC dI ad cy sz rr ρ) args s 0 0 (AW ad sz)) dC dI ad cy 8 sz 0 0 73 [(0, .ref (ad 98)), (1, .int x1), (2, .int x2), (3, .int x3), (4, .int x4), (5, .int x5), (6, .int x6)] [.int t0] σ := by
  unfold fX11_nearestStroke_b73 at hf
  refine g_istore (lv2 := [(0, .ref (ad 98)), (1, .int x1), (2, .int x2), (3, .int x3), (4, .int x4), (5, .int x5), (6, .int x6), (7, .int t0)]) C dX11_nearestStroke_73 (by decide) [1, 2, 3, 4, 5, 6, 7, 0] rfl ?_
  refine g_iload C dX11_nearestStroke_75 7 rfl ?_
  rcases oi_e hf with ⟨c1, hf⟩ | ⟨c1, hf⟩
  · refine g_if_eq_t (tgt := 85) C dX11_nearestStroke_77 (by decide) c1 ?_
    refine g_iload C dX11_nearestStroke_85 5 rfl ?_
    exact g_sub [0, 1, 2, 3, 4, 6] rfl (fX11_nearestStroke_b87_ok C sf_5 hs_5 sf_30 hs_30 σ x1 x2 x3 x4 x6 x5 hf)
  · refine g_if_eq_f (tgt := 85) C dX11_nearestStroke_77 (by decide) c1 ?_
    refine g_iload C dX11_nearestStroke_80 6 rfl ?_
    refine g_goto (tgt := 87) C dX11_nearestStroke_82 (by decide) ?_
    exact g_sub [0, 1, 2, 3, 4, 6] rfl (fX11_nearestStroke_b87_ok C sf_5 hs_5 sf_30 hs_30 σ x1 x2 x3 x4 x6 x6 hf)
def fX11_nearestStroke_b72 (sf_5 : S0 → Int32 → Int32 → Int32 → Option (Int32 × S0)) (sf_30 : S0 → Int32 → Int32 → Int32 → Int32 → Int32 → Int32 → Option (Int32 × S0)) (σ : S0) (x1 : Int32) (x2 : Int32) (x3 : Int32) (x4 : Int32) (x5 : Int32) (x6 : Int32) : Option (Int32 × S0) := fX11_nearestStroke_b73 sf_5 sf_30 σ x1 x2 x3 x4 x5 x6 0
set_option maxHeartbeats 1000000 in
set_option maxRecDepth 100000 in
theorem fX11_nearestStroke_b72_ok {p : Program} {l : Launch} {e : Env} {s : State} {m : MethodId} {args : Array Value} {below : List Frame} {meth : Method} {c : Code} {dC : Nat → ClassId} {dI : Nat → Nat → Nat} {ad : Nat → Nat} {cy : Nat → ClassId} {sz : Nat} (C : Cx p s m args meth c RX11 cX11_nearestStroke 8 (some .int) dC dI ad cy sz) {rr : Int32} {ρ : S0} (sf_5 : S0 → Int32 → Int32 → Int32 → Option (Int32 × S0)) (hs_5 : ∀ (σ : S0) (x1 : Int32) (x2 : Int32) (x3 : Int32) , sf_5 σ x1 x2 x3 = some (rr, ρ) → Gw p l e rm_X11_nearestStroke s m args below meth c (MQ below (QcI dC dI ad cy sz rr ρ) args s 0 0 (AW ad sz)) dC dI ad cy 8 sz 0 0 5 [(0, .ref (ad 98)), (1, .int x1), (2, .int x2), (3, .int x3)] [] σ) (sf_30 : S0 → Int32 → Int32 → Int32 → Int32 → Int32 → Int32 → Option (Int32 × S0)) (hs_30 : ∀ (σ : S0) (x1 : Int32) (x2 : Int32) (x3 : Int32) (x4 : Int32) (x5 : Int32) (x6 : Int32) , sf_30 σ x1 x2 x3 x4 x5 x6 = some (rr, ρ) → Gw p l e rm_X11_nearestStroke s m args below meth c (MQ below (QcI dC dI ad cy sz rr ρ) args s 0 0 (AW ad sz)) dC dI ad cy 8 sz 0 0 30 [(0, .ref (ad 98)), (1, .int x1), (2, .int x2), (3, .int x3), (4, .int x4), (5, .int x5), (6, .int x6)] [] σ) (σ : S0) (x1 : Int32) (x2 : Int32) (x3 : Int32) (x4 : Int32) (x5 : Int32) (x6 : Int32)  (hf : fX11_nearestStroke_b72 sf_5 sf_30 σ x1 x2 x3 x4 x5 x6 = some (rr, ρ)) : Gw p l e rm_X11_nearestStroke s m args below meth c (MQ below (QcI dC dI ad cy sz rr ρ) args s 0 0 (AW ad sz)) dC dI ad cy 8 sz 0 0 72 [(0, .ref (ad 98)), (1, .int x1), (2, .int x2), (3, .int x3), (4, .int x4), (5, .int x5), (6, .int x6)] [] σ := by
  unfold fX11_nearestStroke_b72 at hf
  refine g_iconst (v := 0) C dX11_nearestStroke_72 (by decide) ?_
  exact g_sub [0, 1, 2, 3, 4, 5, 6] rfl (fX11_nearestStroke_b73_ok C sf_5 hs_5 sf_30 hs_30 σ x1 x2 x3 x4 x5 x6 0 hf)
def fX11_nearestStroke_b51 (sf_5 : S0 → Int32 → Int32 → Int32 → Option (Int32 × S0)) (sf_30 : S0 → Int32 → Int32 → Int32 → Int32 → Int32 → Int32 → Option (Int32 × S0)) (σ : S0) (x1 : Int32) (x2 : Int32) (x3 : Int32) (x4 : Int32) (x5 : Int32) (x6 : Int32) : Option (Int32 × S0) := ol ((12 * x3) + x6) (fun v1 => og (¬ (v1 < 0 ∨ 156 ≤ v1.toNatClampNeg)) (ol (σ 107 v1.toNatClampNeg) (fun v3 => if ¬ v3 = x4 then (fX11_nearestStroke_b72 sf_5 sf_30 σ x1 x2 x3 x4 x5 x6) else (fX11_nearestStroke_b73 sf_5 sf_30 σ x1 x2 x3 x4 x5 x6 1))))
set_option maxHeartbeats 1000000 in
set_option maxRecDepth 100000 in
theorem fX11_nearestStroke_b51_ok {p : Program} {l : Launch} {e : Env} {s : State} {m : MethodId} {args : Array Value} {below : List Frame} {meth : Method} {c : Code} {dC : Nat → ClassId} {dI : Nat → Nat → Nat} {ad : Nat → Nat} {cy : Nat → ClassId} {sz : Nat} (C : Cx p s m args meth c RX11 cX11_nearestStroke 8 (some .int) dC dI ad cy sz) {rr : Int32} {ρ : S0} (sf_5 : S0 → Int32 → Int32 → Int32 → Option (Int32 × S0)) (hs_5 : ∀ (σ : S0) (x1 : Int32) (x2 : Int32) (x3 : Int32) , sf_5 σ x1 x2 x3 = some (rr, ρ) → Gw p l e rm_X11_nearestStroke s m args below meth c (MQ below (QcI dC dI ad cy sz rr ρ) args s 0 0 (AW ad sz)) dC dI ad cy 8 sz 0 0 5 [(0, .ref (ad 98)), (1, .int x1), (2, .int x2), (3, .int x3)] [] σ) (sf_30 : S0 → Int32 → Int32 → Int32 → Int32 → Int32 → Int32 → Option (Int32 × S0)) (hs_30 : ∀ (σ : S0) (x1 : Int32) (x2 : Int32) (x3 : Int32) (x4 : Int32) (x5 : Int32) (x6 : Int32) , sf_30 σ x1 x2 x3 x4 x5 x6 = some (rr, ρ) → Gw p l e rm_X11_nearestStroke s m args below meth c (MQ below (QcI dC dI ad cy sz rr ρ) args s 0 0 (AW ad sz)) dC dI ad cy 8 sz 0 0 30 [(0, .ref (ad 98)), (1, .int x1), (2, .int x2), (3, .int x3), (4, .int x4), (5, .int x5), (6, .int x6)] [] σ) (σ : S0) (x1 : Int32) (x2 : Int32) (x3 : Int32) (x4 : Int32) (x5 : Int32) (x6 : Int32)  (hf : fX11_nearestStroke_b51 sf_5 sf_30 σ x1 x2 x3 x4 x5 x6 = some (rr, ρ)) : Gw p l e rm_X11_nearestStroke s m args below meth c (MQ below (QcI dC dI ad cy sz rr ρ) args s 0 0 (AW ad sz)) dC dI ad cy 8 sz 0 0 51 [(0, .ref (ad 98)), (1, .int x1), (2, .int x2), (3, .int x3), (4, .int x4), (5, .int x5), (6, .int x6)] [] σ := by
  unfold fX11_nearestStroke_b51 at hf
  refine g_aload_n C dX11_nearestStroke_51 rfl 0 rfl ?_
  refine g_get C (a_98 ad cy _) rfl hin_X11 34 (by decide) hF_X11_35 rfl rfl dX11_nearestStroke_52 ?_
  refine g_bipush (v := 12) C dX11_nearestStroke_55 (by decide) ?_
  refine g_iload_n C dX11_nearestStroke_57 rfl 3 rfl ?_
  refine g_imul C dX11_nearestStroke_58 ?_
  refine g_iload C dX11_nearestStroke_59 6 rfl ?_
  refine g_iadd C dX11_nearestStroke_61 ?_
  obtain ⟨v1, ev1, hf⟩ := ol_e hf
  refine g_nm ev1 ?_
  obtain ⟨h2, hf⟩ := og_e hf
  refine g_iald C (a_107 ad cy _) h2 dX11_nearestStroke_62 ?_
  obtain ⟨v3, ev3, hf⟩ := ol_e hf
  refine g_nm ev3 ?_
  refine g_iload C dX11_nearestStroke_63 4 rfl ?_
  rcases oi_e hf with ⟨c4, hf⟩ | ⟨c4, hf⟩
  · refine g_icmp_ne_t (tgt := 72) C dX11_nearestStroke_65 (by decide) c4 ?_
    exact g_sub [0, 1, 2, 3, 4, 5, 6] rfl (fX11_nearestStroke_b72_ok C sf_5 hs_5 sf_30 hs_30 σ x1 x2 x3 x4 x5 x6 hf)
  · refine g_icmp_ne_f (tgt := 72) C dX11_nearestStroke_65 (by decide) (Decidable.of_not_not c4) ?_
    refine g_iconst (v := 1) C dX11_nearestStroke_68 (by decide) ?_
    refine g_goto (tgt := 73) C dX11_nearestStroke_69 (by decide) ?_
    exact g_sub [0, 1, 2, 3, 4, 5, 6] rfl (fX11_nearestStroke_b73_ok C sf_5 hs_5 sf_30 hs_30 σ x1 x2 x3 x4 x5 x6 1 hf)
def fX11_nearestStroke_b30 (sf_5 : S0 → Int32 → Int32 → Int32 → Option (Int32 × S0)) (sf_30 : S0 → Int32 → Int32 → Int32 → Int32 → Int32 → Int32 → Option (Int32 × S0)) (σ : S0) (x1 : Int32) (x2 : Int32) (x3 : Int32) (x4 : Int32) (x5 : Int32) (x6 : Int32) : Option (Int32 × S0) := if x6 < 0 then (ol (x3 + 1) (fun v2 => sf_5 σ x1 x5 v2)) else (if x2 = ((-4)) then (fX11_nearestStroke_b51 sf_5 sf_30 σ x1 x2 x3 x4 x5 x6) else (obp (fX11_canFollow σ x2 x6) (fun r4 σ5 => if r4 = 0 then (fX11_nearestStroke_b72 sf_5 sf_30 σ5 x1 x2 x3 x4 x5 x6) else (fX11_nearestStroke_b51 sf_5 sf_30 σ5 x1 x2 x3 x4 x5 x6))))
set_option maxHeartbeats 1000000 in
set_option maxRecDepth 100000 in
theorem fX11_nearestStroke_b30_ok {p : Program} {l : Launch} {e : Env} {s : State} {m : MethodId} {args : Array Value} {below : List Frame} {meth : Method} {c : Code} {dC : Nat → ClassId} {dI : Nat → Nat → Nat} {ad : Nat → Nat} {cy : Nat → ClassId} {sz : Nat} (C : Cx p s m args meth c RX11 cX11_nearestStroke 8 (some .int) dC dI ad cy sz) {rr : Int32} {ρ : S0} (sf_5 : S0 → Int32 → Int32 → Int32 → Option (Int32 × S0)) (hs_5 : ∀ (σ : S0) (x1 : Int32) (x2 : Int32) (x3 : Int32) , sf_5 σ x1 x2 x3 = some (rr, ρ) → Gw p l e rm_X11_nearestStroke s m args below meth c (MQ below (QcI dC dI ad cy sz rr ρ) args s 0 0 (AW ad sz)) dC dI ad cy 8 sz 0 0 5 [(0, .ref (ad 98)), (1, .int x1), (2, .int x2), (3, .int x3)] [] σ) (sf_30 : S0 → Int32 → Int32 → Int32 → Int32 → Int32 → Int32 → Option (Int32 × S0)) (hs_30 : ∀ (σ : S0) (x1 : Int32) (x2 : Int32) (x3 : Int32) (x4 : Int32) (x5 : Int32) (x6 : Int32) , sf_30 σ x1 x2 x3 x4 x5 x6 = some (rr, ρ) → Gw p l e rm_X11_nearestStroke s m args below meth c (MQ below (QcI dC dI ad cy sz rr ρ) args s 0 0 (AW ad sz)) dC dI ad cy 8 sz 0 0 30 [(0, .ref (ad 98)), (1, .int x1), (2, .int x2), (3, .int x3), (4, .int x4), (5, .int x5), (6, .int x6)] [] σ) (σ : S0) (x1 : Int32) (x2 : Int32) (x3 : Int32) (x4 : Int32) (x5 : Int32) (x6 : Int32)  (hf : fX11_nearestStroke_b30 sf_5 sf_30 σ x1 x2 x3 x4 x5 x6 = some (rr, ρ)) : Gw p l e rm_X11_nearestStroke s m args below meth c (MQ below (QcI dC dI ad cy sz rr ρ) args s 0 0 (AW ad sz)) dC dI ad cy 8 sz 0 0 30 [(0, .ref (ad 98)), (1, .int x1), (2, .int x2), (3, .int x3), (4, .int x4), (5, .int x5), (6, .int x6)] [] σ := by
  unfold fX11_nearestStroke_b30 at hf
  refine g_iload C dX11_nearestStroke_30 6 rfl ?_
  rcases oi_e hf with ⟨c1, hf⟩ | ⟨c1, hf⟩
  · refine g_if_lt_t (tgt := 95) C dX11_nearestStroke_32 (by decide) c1 ?_
    refine g_iload C dX11_nearestStroke_95 5 rfl ?_
    refine g_istore_n (lv2 := [(0, .ref (ad 98)), (1, .int x1), (2, .int x5), (3, .int x3), (4, .int x4), (5, .int x5), (6, .int x6)]) C dX11_nearestStroke_97 rfl (by decide) [1, 2, 0, 3, 4, 5, 6] rfl ?_
    obtain ⟨v2, ev2, hf⟩ := ol_e hf
    refine g_iinc (j := 3) (w := 1) (lv2 := [(0, .ref (ad 98)), (1, .int x1), (2, .int x5), (3, .int v2), (4, .int x4), (5, .int x5), (6, .int x6)]) C dX11_nearestStroke_98 rfl (by decide) ev2 (by decide) [1, 2, 3, 0, 4, 5, 6] rfl ?_
    refine g_goto (tgt := 5) C dX11_nearestStroke_101 (by decide) ?_
    exact g_sub [0, 1, 2, 3] rfl (hs_5 σ x1 x5 v2 hf)
  · refine g_if_lt_f (tgt := 95) C dX11_nearestStroke_32 (by decide) c1 ?_
    refine g_iload_n C dX11_nearestStroke_35 rfl 2 rfl ?_
    refine g_bipush (v := (-4)) C dX11_nearestStroke_36 (by decide) ?_
    rcases oi_e hf with ⟨c3, hf⟩ | ⟨c3, hf⟩
    · refine g_icmp_eq_t (tgt := 51) C dX11_nearestStroke_38 (by decide) c3 ?_
      exact g_sub [0, 1, 2, 3, 4, 5, 6] rfl (fX11_nearestStroke_b51_ok C sf_5 hs_5 sf_30 hs_30 σ x1 x2 x3 x4 x5 x6 hf)
    · refine g_icmp_eq_f (tgt := 51) C dX11_nearestStroke_38 (by decide) c3 ?_
      refine g_aload_n C dX11_nearestStroke_41 rfl 0 rfl ?_
      refine g_iload_n C dX11_nearestStroke_42 rfl 2 rfl ?_
      refine g_iload C dX11_nearestStroke_43 6 rfl ?_
      obtain ⟨r4, σ5, h6, hf⟩ := obp_e hf
      refine g_callVi (As := [.int x2, .int x6]) (rest := []) C (a_98 ad cy _) rfl (c_X11_canFollow l dC dI ad cy x2 x6) h6 hM_X11_279 cal_X11_canFollow ⟨Nat.zero_le _, Nat.zero_le _⟩ ⟨rfl, rfl⟩ ⟨Nat.le_of_ble_eq_true rfl, Nat.le_of_ble_eq_true rfl⟩ rfl rfl (Nat.le_of_ble_eq_true rfl) dX11_nearestStroke_45 ?_
      rcases oi_e hf with ⟨c7, hf⟩ | ⟨c7, hf⟩
      · refine g_if_eq_t (tgt := 72) C dX11_nearestStroke_48 (by decide) c7 ?_
        exact g_sub [0, 1, 2, 3, 4, 5, 6] rfl (fX11_nearestStroke_b72_ok C sf_5 hs_5 sf_30 hs_30 σ5 x1 x2 x3 x4 x5 x6 hf)
      · refine g_if_eq_f (tgt := 72) C dX11_nearestStroke_48 (by decide) c7 ?_
        exact g_sub [0, 1, 2, 3, 4, 5, 6] rfl (fX11_nearestStroke_b51_ok C sf_5 hs_5 sf_30 hs_30 σ5 x1 x2 x3 x4 x5 x6 hf)
def fX11_nearestStroke_h30 (sf_5 : S0 → Int32 → Int32 → Int32 → Option (Int32 × S0)) : Nat → S0 → Int32 → Int32 → Int32 → Int32 → Int32 → Int32 → Option (Int32 × S0)
  | 0 => fun _ _ _ _ _ _ _ => none
  | n + 1 => fun σ x1 x2 x3 x4 x5 x6 => fX11_nearestStroke_b30 sf_5 (fX11_nearestStroke_h30 sf_5 n) σ x1 x2 x3 x4 x5 x6
set_option maxHeartbeats 1000000 in
set_option maxRecDepth 100000 in
theorem fX11_nearestStroke_h30_ok {p : Program} {l : Launch} {e : Env} {s : State} {m : MethodId} {args : Array Value} {below : List Frame} {meth : Method} {c : Code} {dC : Nat → ClassId} {dI : Nat → Nat → Nat} {ad : Nat → Nat} {cy : Nat → ClassId} {sz : Nat} (C : Cx p s m args meth c RX11 cX11_nearestStroke 8 (some .int) dC dI ad cy sz) {rr : Int32} {ρ : S0} (sf_5 : S0 → Int32 → Int32 → Int32 → Option (Int32 × S0)) (hs_5 : ∀ (σ : S0) (x1 : Int32) (x2 : Int32) (x3 : Int32) , sf_5 σ x1 x2 x3 = some (rr, ρ) → Gw p l e rm_X11_nearestStroke s m args below meth c (MQ below (QcI dC dI ad cy sz rr ρ) args s 0 0 (AW ad sz)) dC dI ad cy 8 sz 0 0 5 [(0, .ref (ad 98)), (1, .int x1), (2, .int x2), (3, .int x3)] [] σ) : ∀ (n : Nat) (σ : S0) (x1 : Int32) (x2 : Int32) (x3 : Int32) (x4 : Int32) (x5 : Int32) (x6 : Int32)  (_hf : fX11_nearestStroke_h30 sf_5 n σ x1 x2 x3 x4 x5 x6 = some (rr, ρ)), Gw p l e rm_X11_nearestStroke s m args below meth c (MQ below (QcI dC dI ad cy sz rr ρ) args s 0 0 (AW ad sz)) dC dI ad cy 8 sz 0 0 30 [(0, .ref (ad 98)), (1, .int x1), (2, .int x2), (3, .int x3), (4, .int x4), (5, .int x5), (6, .int x6)] [] σ
  | 0, _, _, _, _, _, _, _, hf => by cases hf
  | n + 1, σ, x1, x2, x3, x4, x5, x6, hf => fX11_nearestStroke_b30_ok C sf_5 hs_5 (fX11_nearestStroke_h30 sf_5 n) (fX11_nearestStroke_h30_ok C sf_5 hs_5 n) σ x1 x2 x3 x4 x5 x6 hf
def fX11_nearestStroke_b5 (sf_5 : S0 → Int32 → Int32 → Int32 → Option (Int32 × S0)) (σ : S0) (x1 : Int32) (x2 : Int32) (x3 : Int32) : Option (Int32 × S0) := if x1 < x3 then (some (x2, σ)) else (obp (fX11_restOf σ x3 x2) (fun r2 σ3 => ol ((σ3 98 4) - 1) (fun v5 => fX11_nearestStroke_h30 sf_5 400 σ3 x1 x2 x3 r2 ((-4)) v5)))
set_option maxHeartbeats 1000000 in
set_option maxRecDepth 100000 in
theorem fX11_nearestStroke_b5_ok {p : Program} {l : Launch} {e : Env} {s : State} {m : MethodId} {args : Array Value} {below : List Frame} {meth : Method} {c : Code} {dC : Nat → ClassId} {dI : Nat → Nat → Nat} {ad : Nat → Nat} {cy : Nat → ClassId} {sz : Nat} (C : Cx p s m args meth c RX11 cX11_nearestStroke 8 (some .int) dC dI ad cy sz) {rr : Int32} {ρ : S0} (sf_5 : S0 → Int32 → Int32 → Int32 → Option (Int32 × S0)) (hs_5 : ∀ (σ : S0) (x1 : Int32) (x2 : Int32) (x3 : Int32) , sf_5 σ x1 x2 x3 = some (rr, ρ) → Gw p l e rm_X11_nearestStroke s m args below meth c (MQ below (QcI dC dI ad cy sz rr ρ) args s 0 0 (AW ad sz)) dC dI ad cy 8 sz 0 0 5 [(0, .ref (ad 98)), (1, .int x1), (2, .int x2), (3, .int x3)] [] σ) (σ : S0) (x1 : Int32) (x2 : Int32) (x3 : Int32)  (hf : fX11_nearestStroke_b5 sf_5 σ x1 x2 x3 = some (rr, ρ)) : Gw p l e rm_X11_nearestStroke s m args below meth c (MQ below (QcI dC dI ad cy sz rr ρ) args s 0 0 (AW ad sz)) dC dI ad cy 8 sz 0 0 5 [(0, .ref (ad 98)), (1, .int x1), (2, .int x2), (3, .int x3)] [] σ := by
  unfold fX11_nearestStroke_b5 at hf
  refine g_iload_n C dX11_nearestStroke_5 rfl 3 rfl ?_
  refine g_iload_n C dX11_nearestStroke_6 rfl 1 rfl ?_
  rcases oi_e hf with ⟨c1, hf⟩ | ⟨c1, hf⟩
  · refine g_icmp_gt_t (tgt := 104) C dX11_nearestStroke_7 (by decide) c1 ?_
    refine g_iload_n C dX11_nearestStroke_104 rfl 2 rfl ?_
    obtain ⟨rfl, rfl⟩ := os_e hf
    exact g_iret C rfl dX11_nearestStroke_105
  · refine g_icmp_gt_f (tgt := 104) C dX11_nearestStroke_7 (by decide) c1 ?_
    refine g_aload_n C dX11_nearestStroke_10 rfl 0 rfl ?_
    refine g_iload_n C dX11_nearestStroke_11 rfl 3 rfl ?_
    refine g_iload_n C dX11_nearestStroke_12 rfl 2 rfl ?_
    obtain ⟨r2, σ3, h4, hf⟩ := obp_e hf
    refine g_callVi (As := [.int x3, .int x2]) (rest := []) C (a_98 ad cy _) rfl (c_X11_restOf l dC dI ad cy x3 x2) h4 hM_X11_282 cal_X11_restOf ⟨Nat.zero_le _, Nat.zero_le _⟩ ⟨rfl, rfl⟩ ⟨Nat.le_of_ble_eq_true rfl, Nat.le_of_ble_eq_true rfl⟩ rfl rfl (Nat.le_of_ble_eq_true rfl) dX11_nearestStroke_13 ?_
    refine g_istore (lv2 := [(0, .ref (ad 98)), (1, .int x1), (2, .int x2), (3, .int x3), (4, .int r2)]) C dX11_nearestStroke_16 (by decide) [1, 2, 3, 4, 0] rfl ?_
    refine g_bipush (v := (-4)) C dX11_nearestStroke_18 (by decide) ?_
    refine g_istore (lv2 := [(0, .ref (ad 98)), (1, .int x1), (2, .int x2), (3, .int x3), (4, .int r2), (5, .int ((-4)))]) C dX11_nearestStroke_20 (by decide) [1, 2, 3, 4, 5, 0] rfl ?_
    refine g_aload_n C dX11_nearestStroke_22 rfl 0 rfl ?_
    refine g_get C (a_98 ad cy _) rfl hin_X11 4 (by decide) hF_X11_81 rfl rfl dX11_nearestStroke_23 ?_
    refine g_iconst (v := 1) C dX11_nearestStroke_26 (by decide) ?_
    refine g_isub C dX11_nearestStroke_27 ?_
    obtain ⟨v5, ev5, hf⟩ := ol_e hf
    refine g_nm ev5 ?_
    refine g_istore (lv2 := [(0, .ref (ad 98)), (1, .int x1), (2, .int x2), (3, .int x3), (4, .int r2), (5, .int ((-4))), (6, .int v5)]) C dX11_nearestStroke_28 (by decide) [1, 2, 3, 4, 5, 6, 0] rfl ?_
    exact g_sub [0, 1, 2, 3, 4, 5, 6] rfl (fX11_nearestStroke_h30_ok C sf_5 hs_5 400 σ3 x1 x2 x3 r2 ((-4)) v5 hf)
def fX11_nearestStroke_h5  : Nat → S0 → Int32 → Int32 → Int32 → Option (Int32 × S0)
  | 0 => fun _ _ _ _ => none
  | n + 1 => fun σ x1 x2 x3 => fX11_nearestStroke_b5  (fX11_nearestStroke_h5  n) σ x1 x2 x3
set_option maxHeartbeats 1000000 in
set_option maxRecDepth 100000 in
theorem fX11_nearestStroke_h5_ok {p : Program} {l : Launch} {e : Env} {s : State} {m : MethodId} {args : Array Value} {below : List Frame} {meth : Method} {c : Code} {dC : Nat → ClassId} {dI : Nat → Nat → Nat} {ad : Nat → Nat} {cy : Nat → ClassId} {sz : Nat} (C : Cx p s m args meth c RX11 cX11_nearestStroke 8 (some .int) dC dI ad cy sz) {rr : Int32} {ρ : S0}  : ∀ (n : Nat) (σ : S0) (x1 : Int32) (x2 : Int32) (x3 : Int32)  (_hf : fX11_nearestStroke_h5  n σ x1 x2 x3 = some (rr, ρ)), Gw p l e rm_X11_nearestStroke s m args below meth c (MQ below (QcI dC dI ad cy sz rr ρ) args s 0 0 (AW ad sz)) dC dI ad cy 8 sz 0 0 5 [(0, .ref (ad 98)), (1, .int x1), (2, .int x2), (3, .int x3)] [] σ
  | 0, _, _, _, _, hf => by cases hf
  | n + 1, σ, x1, x2, x3, hf => fX11_nearestStroke_b5_ok C  (fX11_nearestStroke_h5  n) (fX11_nearestStroke_h5_ok C  n) σ x1 x2 x3 hf
def fX11_nearestStroke (σ : S0) (x1 : Int32) : Option (Int32 × S0) := fX11_nearestStroke_h5 400 σ x1 ((-4)) 0
set_option maxHeartbeats 1000000 in
set_option maxRecDepth 100000 in
theorem fX11_nearestStroke_ok {p : Program} {l : Launch} {e : Env} {s : State} {m : MethodId} {args : Array Value} {below : List Frame} {meth : Method} {c : Code} {dC : Nat → ClassId} {dI : Nat → Nat → Nat} {ad : Nat → Nat} {cy : Nat → ClassId} {sz : Nat} (C : Cx p s m args meth c RX11 cX11_nearestStroke 8 (some .int) dC dI ad cy sz) {rr : Int32} {ρ : S0} (σ : S0) (x1 : Int32)  (hf : fX11_nearestStroke σ x1 = some (rr, ρ)) : Gw p l e rm_X11_nearestStroke s m args below meth c (MQ below (QcI dC dI ad cy sz rr ρ) args s 0 0 (AW ad sz)) dC dI ad cy 8 sz 0 0 0 [(0, .ref (ad 98)), (1, .int x1)] [] σ := by
  unfold fX11_nearestStroke at hf
  refine g_bipush (v := (-4)) C dX11_nearestStroke_0 (by decide) ?_
  refine g_istore_n (lv2 := [(0, .ref (ad 98)), (1, .int x1), (2, .int ((-4)))]) C dX11_nearestStroke_2 rfl (by decide) [1, 2, 0] rfl ?_
  refine g_iconst (v := 0) C dX11_nearestStroke_3 (by decide) ?_
  refine g_istore_n (lv2 := [(0, .ref (ad 98)), (1, .int x1), (2, .int ((-4))), (3, .int 0)]) C dX11_nearestStroke_4 rfl (by decide) [1, 2, 3, 0] rfl ?_
  exact g_sub [0, 1, 2, 3] rfl (fX11_nearestStroke_h5_ok C 400 σ x1 ((-4)) 0 hf)
theorem c_X11_nearestStroke (l : Launch) (dC : Nat → ClassId) (dI : Nat → Nat → Nat) (ad : Nat → Nat) (cy : Nat → ClassId) (x1 : Int32) : ConI l yX11_nearestStroke cX11_nearestStroke 8 (some .int) rm_X11_nearestStroke dC dI ad cy [.ref (ad 98), .int x1] (fun σ => fX11_nearestStroke σ x1) := con_i (own := RX11) (by decide) rfl (Nat.le_of_ble_eq_true rfl) (fun _ _ _ _ _ _ _ _ σ _ _ C hf => fX11_nearestStroke_ok C σ x1 hf)
theorem cal_X11_nearestStroke : CalV yX11_nearestStroke RX11 cX11_nearestStroke 8 (some .int) 1 := ⟨hI_X11_nearestStroke, hS_X11_nearestStroke, hIni_X11, hC_X11_nearestStroke, by decide +kernel⟩
abbrev rm_X11_nearest : Room := { frames := 4, cells := 0, slots := 0, locals := 95 }
def fX11_nearest_b42  (σ : S0) (x1 : Int32) (x2 : Int32) (x3 : Int32) : Option (Int32 × S0) := obp (fX11_nearestSum σ x1 x2) (fun r1 σ2 => if ¬ r1 = 99999 then (if ¬ x3 = 0 then (obp (fX11_nearestStroke σ2 (x3 - 10)) (fun r6 σ7 => some (r6, σ7))) else (some (r1, σ2))) else (some ((-4), σ2)))
set_option maxHeartbeats 1000000 in
set_option maxRecDepth 100000 in
theorem fX11_nearest_b42_ok {p : Program} {l : Launch} {e : Env} {s : State} {m : MethodId} {args : Array Value} {below : List Frame} {meth : Method} {c : Code} {dC : Nat → ClassId} {dI : Nat → Nat → Nat} {ad : Nat → Nat} {cy : Nat → ClassId} {sz : Nat} (C : Cx p s m args meth c RX11 cX11_nearest 5 (some .int) dC dI ad cy sz) {rr : Int32} {ρ : S0}  (σ : S0) (x1 : Int32) (x2 : Int32) (x3 : Int32)  (hf : fX11_nearest_b42 σ x1 x2 x3 = some (rr, ρ)) : Gw p l e rm_X11_nearest s m args below meth c (MQ below (QcI dC dI ad cy sz rr ρ) args s 0 0 (AW ad sz)) dC dI ad cy 5 sz 0 0 42 [(0, .ref (ad 98)), (1, .int x1), (2, .int x2), (3, .int x3)] [] σ := by
  unfold fX11_nearest_b42 at hf
  refine g_aload_n C dX11_nearest_42 rfl 0 rfl ?_
  refine g_iload_n C dX11_nearest_43 rfl 1 rfl ?_
  refine g_iload_n C dX11_nearest_44 rfl 2 rfl ?_
  obtain ⟨r1, σ2, h3, hf⟩ := obp_e hf
  refine g_callVi (As := [.int x1, .int x2]) (rest := []) C (a_98 ad cy _) rfl (c_X11_nearestSum l dC dI ad cy x1 x2) h3 hM_X11_288 cal_X11_nearestSum ⟨Nat.zero_le _, Nat.zero_le _⟩ ⟨rfl, rfl⟩ ⟨Nat.le_of_ble_eq_true rfl, Nat.le_of_ble_eq_true rfl⟩ rfl rfl (Nat.le_of_ble_eq_true rfl) dX11_nearest_45 ?_
  refine g_istore (lv2 := [(0, .ref (ad 98)), (1, .int x1), (2, .int x2), (3, .int x3), (4, .int r1)]) C dX11_nearest_48 (by decide) [1, 2, 3, 4, 0] rfl ?_
  refine g_iload C dX11_nearest_50 4 rfl ?_
  refine g_ldcw (v := 99999) C dX11_nearest_52 hK_X11_262 ?_
  rcases oi_e hf with ⟨c4, hf⟩ | ⟨c4, hf⟩
  · refine g_icmp_ne_t (tgt := 63) C dX11_nearest_55 (by decide) c4 ?_
    refine g_iload_n C dX11_nearest_63 rfl 3 rfl ?_
    rcases oi_e hf with ⟨c5, hf⟩ | ⟨c5, hf⟩
    · refine g_if_ne_t (tgt := 72) C dX11_nearest_64 (by decide) c5 ?_
      refine g_aload_n C dX11_nearest_72 rfl 0 rfl ?_
      refine g_iload_n C dX11_nearest_73 rfl 3 rfl ?_
      refine g_bipush (v := 10) C dX11_nearest_74 (by decide) ?_
      refine g_isub C dX11_nearest_76 ?_
      obtain ⟨r6, σ7, h8, hf⟩ := obp_e hf
      refine g_callVi (As := [.int (x3 - 10)]) (rest := []) C (a_98 ad cy _) rfl (c_X11_nearestStroke l dC dI ad cy (x3 - 10)) h8 hM_X11_291 cal_X11_nearestStroke ⟨Nat.zero_le _, Nat.zero_le _⟩ ⟨rfl, rfl⟩ ⟨Nat.le_of_ble_eq_true rfl, Nat.le_of_ble_eq_true rfl⟩ rfl rfl (Nat.le_of_ble_eq_true rfl) dX11_nearest_77 ?_
      obtain ⟨rfl, rfl⟩ := os_e hf
      exact g_iret C rfl dX11_nearest_80
    · refine g_if_ne_f (tgt := 72) C dX11_nearest_64 (by decide) (Decidable.of_not_not c5) ?_
      refine g_iload C dX11_nearest_67 4 rfl ?_
      refine g_goto (tgt := 80) C dX11_nearest_69 (by decide) ?_
      obtain ⟨rfl, rfl⟩ := os_e hf
      exact g_iret C rfl dX11_nearest_80
  · refine g_icmp_ne_f (tgt := 63) C dX11_nearest_55 (by decide) (Decidable.of_not_not c4) ?_
    refine g_bipush (v := (-4)) C dX11_nearest_58 (by decide) ?_
    refine g_goto (tgt := 80) C dX11_nearest_60 (by decide) ?_
    obtain ⟨rfl, rfl⟩ := os_e hf
    exact g_iret C rfl dX11_nearest_80
def fX11_nearest (σ : S0) (x1 : Int32) (x2 : Int32) (x3 : Int32) : Option (Int32 × S0) := obp (fX11_isTune σ x1) (fun r1 σ2 => if r1 = 0 then (some ((-1), σ2)) else (obp (fX11_isBell σ2 x2) (fun r5 σ6 => if r5 = 0 then (some ((-1), σ6)) else (if x3 = 0 then (fX11_nearest_b42 σ6 x1 x2 x3) else (obp (fX11_strokes σ6 x1) (fun r10 σ11 => obp (fX11_in σ11 x3.toInt64 ((10 : Int64)) ((9 + r10).toInt64)) (fun r13 σ14 => if ¬ r13 = 0 then (fX11_nearest_b42 σ14 x1 x2 x3) else (some ((-1), σ14)))))))))
set_option maxHeartbeats 1000000 in
set_option maxRecDepth 100000 in
theorem fX11_nearest_ok {p : Program} {l : Launch} {e : Env} {s : State} {m : MethodId} {args : Array Value} {below : List Frame} {meth : Method} {c : Code} {dC : Nat → ClassId} {dI : Nat → Nat → Nat} {ad : Nat → Nat} {cy : Nat → ClassId} {sz : Nat} (C : Cx p s m args meth c RX11 cX11_nearest 5 (some .int) dC dI ad cy sz) {rr : Int32} {ρ : S0} (σ : S0) (x1 : Int32) (x2 : Int32) (x3 : Int32)  (hf : fX11_nearest σ x1 x2 x3 = some (rr, ρ)) : Gw p l e rm_X11_nearest s m args below meth c (MQ below (QcI dC dI ad cy sz rr ρ) args s 0 0 (AW ad sz)) dC dI ad cy 5 sz 0 0 0 [(0, .ref (ad 98)), (1, .int x1), (2, .int x2), (3, .int x3)] [] σ := by
  unfold fX11_nearest at hf
  refine g_aload_n C dX11_nearest_0 rfl 0 rfl ?_
  refine g_iload_n C dX11_nearest_1 rfl 1 rfl ?_
  obtain ⟨r1, σ2, h3, hf⟩ := obp_e hf
  refine g_callVi (As := [.int x1]) (rest := []) C (a_98 ad cy _) rfl (c_X11_isTune l dC dI ad cy x1) h3 hM_X11_175 cal_X11_isTune ⟨Nat.zero_le _, Nat.zero_le _⟩ ⟨rfl, rfl⟩ ⟨Nat.le_of_ble_eq_true rfl, Nat.le_of_ble_eq_true rfl⟩ rfl rfl (Nat.le_of_ble_eq_true rfl) dX11_nearest_2 ?_
  rcases oi_e hf with ⟨c4, hf⟩ | ⟨c4, hf⟩
  · refine g_if_eq_t (tgt := 40) C dX11_nearest_5 (by decide) c4 ?_
    refine g_iconst (v := (-1)) C dX11_nearest_40 (by decide) ?_
    obtain ⟨rfl, rfl⟩ := os_e hf
    exact g_iret C rfl dX11_nearest_41
  · refine g_if_eq_f (tgt := 40) C dX11_nearest_5 (by decide) c4 ?_
    refine g_aload_n C dX11_nearest_8 rfl 0 rfl ?_
    refine g_iload_n C dX11_nearest_9 rfl 2 rfl ?_
    obtain ⟨r5, σ6, h7, hf⟩ := obp_e hf
    refine g_callVi (As := [.int x2]) (rest := []) C (a_98 ad cy _) rfl (c_X11_isBell l dC dI ad cy x2) h7 hM_X11_166 cal_X11_isBell ⟨Nat.zero_le _, Nat.zero_le _⟩ ⟨rfl, rfl⟩ ⟨Nat.le_of_ble_eq_true rfl, Nat.le_of_ble_eq_true rfl⟩ rfl rfl (Nat.le_of_ble_eq_true rfl) dX11_nearest_10 ?_
    rcases oi_e hf with ⟨c8, hf⟩ | ⟨c8, hf⟩
    · refine g_if_eq_t (tgt := 40) C dX11_nearest_13 (by decide) c8 ?_
      refine g_iconst (v := (-1)) C dX11_nearest_40 (by decide) ?_
      obtain ⟨rfl, rfl⟩ := os_e hf
      exact g_iret C rfl dX11_nearest_41
    · refine g_if_eq_f (tgt := 40) C dX11_nearest_13 (by decide) c8 ?_
      refine g_iload_n C dX11_nearest_16 rfl 3 rfl ?_
      rcases oi_e hf with ⟨c9, hf⟩ | ⟨c9, hf⟩
      · refine g_if_eq_t (tgt := 42) C dX11_nearest_17 (by decide) c9 ?_
        exact g_sub [0, 1, 2, 3] rfl (fX11_nearest_b42_ok C σ6 x1 x2 x3 hf)
      · refine g_if_eq_f (tgt := 42) C dX11_nearest_17 (by decide) c9 ?_
        refine g_iload_n C dX11_nearest_20 rfl 3 rfl ?_
        refine g_i2l C dX11_nearest_21 ?_
        refine g_ldc2 (v := 10) C dX11_nearest_22 hK_X11_178 ?_
        refine g_bipush (v := 9) C dX11_nearest_25 (by decide) ?_
        refine g_aload_n C dX11_nearest_27 rfl 0 rfl ?_
        refine g_iload_n C dX11_nearest_28 rfl 1 rfl ?_
        obtain ⟨r10, σ11, h12, hf⟩ := obp_e hf
        refine g_callVi (As := [.int x1]) (rest := [.int 9, .long 10, .long x3.toInt64]) C (a_98 ad cy _) rfl (c_X11_strokes l dC dI ad cy x1) h12 hM_X11_180 cal_X11_strokes ⟨Nat.zero_le _, Nat.zero_le _⟩ ⟨rfl, rfl⟩ ⟨Nat.le_of_ble_eq_true rfl, Nat.le_of_ble_eq_true rfl⟩ rfl rfl (Nat.le_of_ble_eq_true rfl) dX11_nearest_29 ?_
        refine g_iadd C dX11_nearest_32 ?_
        refine g_i2l C dX11_nearest_33 ?_
        obtain ⟨r13, σ14, h15, hf⟩ := obp_e hf
        refine g_callSi (As := [.long x3.toInt64, .long 10, .long ((9 + r10).toInt64)]) (rest := []) C (c_X11_in l dC dI ad cy x3.toInt64 ((10 : Int64)) ((9 + r10).toInt64)) h15 hM_X11_92 cal_X11_in ⟨Nat.zero_le _, Nat.zero_le _⟩ ⟨rfl, rfl⟩ ⟨Nat.le_of_ble_eq_true rfl, Nat.le_of_ble_eq_true rfl⟩ rfl rfl (Nat.le_of_ble_eq_true rfl) dX11_nearest_34 ?_
        rcases oi_e hf with ⟨c16, hf⟩ | ⟨c16, hf⟩
        · refine g_if_ne_t (tgt := 42) C dX11_nearest_37 (by decide) c16 ?_
          exact g_sub [0, 1, 2, 3] rfl (fX11_nearest_b42_ok C σ14 x1 x2 x3 hf)
        · refine g_if_ne_f (tgt := 42) C dX11_nearest_37 (by decide) (Decidable.of_not_not c16) ?_
          refine g_iconst (v := (-1)) C dX11_nearest_40 (by decide) ?_
          obtain ⟨rfl, rfl⟩ := os_e hf
          exact g_iret C rfl dX11_nearest_41
theorem c_X11_nearest (l : Launch) (dC : Nat → ClassId) (dI : Nat → Nat → Nat) (ad : Nat → Nat) (cy : Nat → ClassId) (x1 : Int32) (x2 : Int32) (x3 : Int32) : ConI l yX11_nearest cX11_nearest 5 (some .int) rm_X11_nearest dC dI ad cy [.ref (ad 98), .int x1, .int x2, .int x3] (fun σ => fX11_nearest σ x1 x2 x3) := con_i (own := RX11) (by decide) rfl (Nat.le_of_ble_eq_true rfl) (fun _ _ _ _ _ _ _ _ σ _ _ C hf => fX11_nearest_ok C σ x1 x2 x3 hf)
theorem cal_X11_nearest : CalV yX11_nearest RX11 cX11_nearest 5 (some .int) 3 := ⟨hI_X11_nearest, hS_X11_nearest, hIni_X11, hC_X11_nearest, by decide +kernel⟩
abbrev rm_X11_dear : Room := { frames := 4, cells := 0, slots := 0, locals := 95 }
def fX11_dear_b78 (sf_18 : S0 → Int32 → Int32 → Int32 → Int32 → Option (Int32 × S0)) (σ : S0) (x1 : Int32) (x2 : Int32) (x4 : Int32) (t0 : Int32) : Option (Int32 × S0) := ol (x4 + 1) (fun v1 => sf_18 σ x1 x2 t0 v1)
set_option maxHeartbeats 1000000 in
set_option maxRecDepth 100000 in
theorem fX11_dear_b78_ok {p : Program} {l : Launch} {e : Env} {s : State} {m : MethodId} {args : Array Value} {below : List Frame} {meth : Method} {c : Code} {dC : Nat → ClassId} {dI : Nat → Nat → Nat} {ad : Nat → Nat} {cy : Nat → ClassId} {sz : Nat} (C : Cx p s m args meth c RX11 cX11_dear 7 (some .int) dC dI ad cy sz) {rr : Int32} {ρ : S0} (sf_18 : S0 → Int32 → Int32 → Int32 → Int32 → Option (Int32 × S0)) (hs_18 : ∀ (σ : S0) (x1 : Int32) (x2 : Int32) (x3 : Int32) (x4 : Int32) , sf_18 σ x1 x2 x3 x4 = some (rr, ρ) → Gw p l e rm_X11_dear s m args below meth c (MQ below (QcI dC dI ad cy sz rr ρ) args s 0 0 (AW ad sz)) dC dI ad cy 7 sz 0 0 18 [(0, .ref (ad 98)), (1, .int x1), (2, .int x2), (3, .int x3), (4, .int x4)] [] σ) (σ : S0) (x1 : Int32) (x2 : Int32) (x4 : Int32) (t0 : Int32)  (hf : fX11_dear_b78 sf_18 σ x1 x2 x4 t0 = some (rr, ρ)) : Gw p l e rm_X11_dear s m args below meth c (MQ below (QcI dC dI ad cy sz rr ρ) args s 0 0 (AW ad sz)) dC dI ad cy 7 sz 0 0 78 [(0, .ref (ad 98)), (1, .int x1), (2, .int x2), (4, .int x4)] [.int t0] σ := by
  unfold fX11_dear_b78 at hf
  refine g_istore_n (lv2 := [(0, .ref (ad 98)), (1, .int x1), (2, .int x2), (3, .int t0), (4, .int x4)]) C dX11_dear_78 rfl (by decide) [1, 2, 3, 0, 4] rfl ?_
  obtain ⟨v1, ev1, hf⟩ := ol_e hf
  refine g_iinc (j := 4) (w := 1) (lv2 := [(0, .ref (ad 98)), (1, .int x1), (2, .int x2), (3, .int t0), (4, .int v1)]) C dX11_dear_79 rfl (by decide) ev1 (by decide) [1, 2, 3, 4, 0] rfl ?_
  refine g_goto (tgt := 18) C dX11_dear_82 (by decide) ?_
  exact g_sub [0, 1, 2, 3, 4] rfl (hs_18 σ x1 x2 t0 v1 hf)
def fX11_dear_b66 (sf_18 : S0 → Int32 → Int32 → Int32 → Int32 → Option (Int32 × S0)) (σ : S0) (x1 : Int32) (x3 : Int32) (x4 : Int32) (x5 : Int32) (x6 : Int32) (t0 : Int32) : Option (Int32 × S0) := if x6 = 0 then (fX11_dear_b78 sf_18 σ x1 t0 x4 x3) else (fX11_dear_b78 sf_18 σ x1 t0 x4 x5)
set_option maxHeartbeats 1000000 in
set_option maxRecDepth 100000 in
theorem fX11_dear_b66_ok {p : Program} {l : Launch} {e : Env} {s : State} {m : MethodId} {args : Array Value} {below : List Frame} {meth : Method} {c : Code} {dC : Nat → ClassId} {dI : Nat → Nat → Nat} {ad : Nat → Nat} {cy : Nat → ClassId} {sz : Nat} (C : Cx p s m args meth c RX11 cX11_dear 7 (some .int) dC dI ad cy sz) {rr : Int32} {ρ : S0} (sf_18 : S0 → Int32 → Int32 → Int32 → Int32 → Option (Int32 × S0)) (hs_18 : ∀ (σ : S0) (x1 : Int32) (x2 : Int32) (x3 : Int32) (x4 : Int32) , sf_18 σ x1 x2 x3 x4 = some (rr, ρ) → Gw p l e rm_X11_dear s m args below meth c (MQ below (QcI dC dI ad cy sz rr ρ) args s 0 0 (AW ad sz)) dC dI ad cy 7 sz 0 0 18 [(0, .ref (ad 98)), (1, .int x1), (2, .int x2), (3, .int x3), (4, .int x4)] [] σ) (σ : S0) (x1 : Int32) (x3 : Int32) (x4 : Int32) (x5 : Int32) (x6 : Int32) (t0 : Int32)  (hf : fX11_dear_b66 sf_18 σ x1 x3 x4 x5 x6 t0 = some (rr, ρ)) : Gw p l e rm_X11_dear s m args below meth c (MQ below (QcI dC dI ad cy sz rr ρ) args s 0 0 (AW ad sz)) dC dI ad cy 7 sz 0 0 66 [(0, .ref (ad 98)), (1, .int x1), (3, .int x3), (4, .int x4), (5, .int x5), (6, .int x6)] [.int t0] σ := by
  unfold fX11_dear_b66 at hf
  refine g_istore_n (lv2 := [(0, .ref (ad 98)), (1, .int x1), (2, .int t0), (3, .int x3), (4, .int x4), (5, .int x5), (6, .int x6)]) C dX11_dear_66 rfl (by decide) [1, 2, 0, 3, 4, 5, 6] rfl ?_
  refine g_iload C dX11_dear_67 6 rfl ?_
  rcases oi_e hf with ⟨c1, hf⟩ | ⟨c1, hf⟩
  · refine g_if_eq_t (tgt := 77) C dX11_dear_69 (by decide) c1 ?_
    refine g_iload_n C dX11_dear_77 rfl 3 rfl ?_
    exact g_sub [0, 1, 2, 4] rfl (fX11_dear_b78_ok C sf_18 hs_18 σ x1 t0 x4 x3 hf)
  · refine g_if_eq_f (tgt := 77) C dX11_dear_69 (by decide) c1 ?_
    refine g_iload C dX11_dear_72 5 rfl ?_
    refine g_goto (tgt := 78) C dX11_dear_74 (by decide) ?_
    exact g_sub [0, 1, 2, 4] rfl (fX11_dear_b78_ok C sf_18 hs_18 σ x1 t0 x4 x5 hf)
def fX11_dear_b53 (sf_18 : S0 → Int32 → Int32 → Int32 → Int32 → Option (Int32 × S0)) (σ : S0) (x1 : Int32) (x2 : Int32) (x3 : Int32) (x4 : Int32) (x5 : Int32) (t0 : Int32) : Option (Int32 × S0) := if t0 = 0 then (fX11_dear_b66 sf_18 σ x1 x3 x4 x5 t0 x2) else (fX11_dear_b66 sf_18 σ x1 x3 x4 x5 t0 x4)
set_option maxHeartbeats 1000000 in
set_option maxRecDepth 100000 in
theorem fX11_dear_b53_ok {p : Program} {l : Launch} {e : Env} {s : State} {m : MethodId} {args : Array Value} {below : List Frame} {meth : Method} {c : Code} {dC : Nat → ClassId} {dI : Nat → Nat → Nat} {ad : Nat → Nat} {cy : Nat → ClassId} {sz : Nat} (C : Cx p s m args meth c RX11 cX11_dear 7 (some .int) dC dI ad cy sz) {rr : Int32} {ρ : S0} (sf_18 : S0 → Int32 → Int32 → Int32 → Int32 → Option (Int32 × S0)) (hs_18 : ∀ (σ : S0) (x1 : Int32) (x2 : Int32) (x3 : Int32) (x4 : Int32) , sf_18 σ x1 x2 x3 x4 = some (rr, ρ) → Gw p l e rm_X11_dear s m args below meth c (MQ below (QcI dC dI ad cy sz rr ρ) args s 0 0 (AW ad sz)) dC dI ad cy 7 sz 0 0 18 [(0, .ref (ad 98)), (1, .int x1), (2, .int x2), (3, .int x3), (4, .int x4)] [] σ) (σ : S0) (x1 : Int32) (x2 : Int32) (x3 : Int32) (x4 : Int32) (x5 : Int32) (t0 : Int32)  (hf : fX11_dear_b53 sf_18 σ x1 x2 x3 x4 x5 t0 = some (rr, ρ)) : Gw p l e rm_X11_dear s m args below meth c (MQ below (QcI dC dI ad cy sz rr ρ) args s 0 0 (AW ad sz)) dC dI ad cy 7 sz 0 0 53 [(0, .ref (ad 98)), (1, .int x1), (2, .int x2), (3, .int x3), (4, .int x4), (5, .int x5)] [.int t0] σ := by
  unfold fX11_dear_b53 at hf
  refine g_istore (lv2 := [(0, .ref (ad 98)), (1, .int x1), (2, .int x2), (3, .int x3), (4, .int x4), (5, .int x5), (6, .int t0)]) C dX11_dear_53 (by decide) [1, 2, 3, 4, 5, 6, 0] rfl ?_
  refine g_iload C dX11_dear_55 6 rfl ?_
  rcases oi_e hf with ⟨c1, hf⟩ | ⟨c1, hf⟩
  · refine g_if_eq_t (tgt := 65) C dX11_dear_57 (by decide) c1 ?_
    refine g_iload_n C dX11_dear_65 rfl 2 rfl ?_
    exact g_sub [0, 1, 3, 4, 5, 6] rfl (fX11_dear_b66_ok C sf_18 hs_18 σ x1 x3 x4 x5 t0 x2 hf)
  · refine g_if_eq_f (tgt := 65) C dX11_dear_57 (by decide) c1 ?_
    refine g_iload C dX11_dear_60 4 rfl ?_
    refine g_goto (tgt := 66) C dX11_dear_62 (by decide) ?_
    exact g_sub [0, 1, 3, 4, 5, 6] rfl (fX11_dear_b66_ok C sf_18 hs_18 σ x1 x3 x4 x5 t0 x4 hf)
def fX11_dear_b48 (sf_18 : S0 → Int32 → Int32 → Int32 → Int32 → Option (Int32 × S0)) (σ : S0) (x1 : Int32) (x2 : Int32) (x3 : Int32) (x4 : Int32) (x5 : Int32) : Option (Int32 × S0) := fX11_dear_b53 sf_18 σ x1 x2 x3 x4 x5 1
set_option maxHeartbeats 1000000 in
set_option maxRecDepth 100000 in
theorem fX11_dear_b48_ok {p : Program} {l : Launch} {e : Env} {s : State} {m : MethodId} {args : Array Value} {below : List Frame} {meth : Method} {c : Code} {dC : Nat → ClassId} {dI : Nat → Nat → Nat} {ad : Nat → Nat} {cy : Nat → ClassId} {sz : Nat} (C : Cx p s m args meth c RX11 cX11_dear 7 (some .int) dC dI ad cy sz) {rr : Int32} {ρ : S0} (sf_18 : S0 → Int32 → Int32 → Int32 → Int32 → Option (Int32 × S0)) (hs_18 : ∀ (σ : S0) (x1 : Int32) (x2 : Int32) (x3 : Int32) (x4 : Int32) , sf_18 σ x1 x2 x3 x4 = some (rr, ρ) → Gw p l e rm_X11_dear s m args below meth c (MQ below (QcI dC dI ad cy sz rr ρ) args s 0 0 (AW ad sz)) dC dI ad cy 7 sz 0 0 18 [(0, .ref (ad 98)), (1, .int x1), (2, .int x2), (3, .int x3), (4, .int x4)] [] σ) (σ : S0) (x1 : Int32) (x2 : Int32) (x3 : Int32) (x4 : Int32) (x5 : Int32)  (hf : fX11_dear_b48 sf_18 σ x1 x2 x3 x4 x5 = some (rr, ρ)) : Gw p l e rm_X11_dear s m args below meth c (MQ below (QcI dC dI ad cy sz rr ρ) args s 0 0 (AW ad sz)) dC dI ad cy 7 sz 0 0 48 [(0, .ref (ad 98)), (1, .int x1), (2, .int x2), (3, .int x3), (4, .int x4), (5, .int x5)] [] σ := by
  unfold fX11_dear_b48 at hf
  refine g_iconst (v := 1) C dX11_dear_48 (by decide) ?_
  refine g_goto (tgt := 53) C dX11_dear_49 (by decide) ?_
  exact g_sub [0, 1, 2, 3, 4, 5] rfl (fX11_dear_b53_ok C sf_18 hs_18 σ x1 x2 x3 x4 x5 1 hf)
def fX11_dear_b18 (sf_18 : S0 → Int32 → Int32 → Int32 → Int32 → Option (Int32 × S0)) (σ : S0) (x1 : Int32) (x2 : Int32) (x3 : Int32) (x4 : Int32) : Option (Int32 × S0) := if (σ 98 4) ≤ x4 then (some (x2, σ)) else (obp (fX11_nearestSum σ x1 x4) (fun r2 σ3 => if x2 = ((-4)) then (fX11_dear_b48 sf_18 σ3 x1 x2 x3 x4 r2) else (if r2 ≤ x3 then (fX11_dear_b53 sf_18 σ3 x1 x2 x3 x4 r2 0) else (fX11_dear_b48 sf_18 σ3 x1 x2 x3 x4 r2))))
set_option maxHeartbeats 1000000 in
set_option maxRecDepth 100000 in
theorem fX11_dear_b18_ok {p : Program} {l : Launch} {e : Env} {s : State} {m : MethodId} {args : Array Value} {below : List Frame} {meth : Method} {c : Code} {dC : Nat → ClassId} {dI : Nat → Nat → Nat} {ad : Nat → Nat} {cy : Nat → ClassId} {sz : Nat} (C : Cx p s m args meth c RX11 cX11_dear 7 (some .int) dC dI ad cy sz) {rr : Int32} {ρ : S0} (sf_18 : S0 → Int32 → Int32 → Int32 → Int32 → Option (Int32 × S0)) (hs_18 : ∀ (σ : S0) (x1 : Int32) (x2 : Int32) (x3 : Int32) (x4 : Int32) , sf_18 σ x1 x2 x3 x4 = some (rr, ρ) → Gw p l e rm_X11_dear s m args below meth c (MQ below (QcI dC dI ad cy sz rr ρ) args s 0 0 (AW ad sz)) dC dI ad cy 7 sz 0 0 18 [(0, .ref (ad 98)), (1, .int x1), (2, .int x2), (3, .int x3), (4, .int x4)] [] σ) (σ : S0) (x1 : Int32) (x2 : Int32) (x3 : Int32) (x4 : Int32)  (hf : fX11_dear_b18 sf_18 σ x1 x2 x3 x4 = some (rr, ρ)) : Gw p l e rm_X11_dear s m args below meth c (MQ below (QcI dC dI ad cy sz rr ρ) args s 0 0 (AW ad sz)) dC dI ad cy 7 sz 0 0 18 [(0, .ref (ad 98)), (1, .int x1), (2, .int x2), (3, .int x3), (4, .int x4)] [] σ := by
  unfold fX11_dear_b18 at hf
  refine g_iload C dX11_dear_18 4 rfl ?_
  refine g_aload_n C dX11_dear_20 rfl 0 rfl ?_
  refine g_get C (a_98 ad cy _) rfl hin_X11 4 (by decide) hF_X11_81 rfl rfl dX11_dear_21 ?_
  rcases oi_e hf with ⟨c1, hf⟩ | ⟨c1, hf⟩
  · refine g_icmp_ge_t (tgt := 85) C dX11_dear_24 (by decide) c1 ?_
    refine g_iload_n C dX11_dear_85 rfl 2 rfl ?_
    obtain ⟨rfl, rfl⟩ := os_e hf
    exact g_iret C rfl dX11_dear_86
  · refine g_icmp_ge_f (tgt := 85) C dX11_dear_24 (by decide) c1 ?_
    refine g_aload_n C dX11_dear_27 rfl 0 rfl ?_
    refine g_iload_n C dX11_dear_28 rfl 1 rfl ?_
    refine g_iload C dX11_dear_29 4 rfl ?_
    obtain ⟨r2, σ3, h4, hf⟩ := obp_e hf
    refine g_callVi (As := [.int x1, .int x4]) (rest := []) C (a_98 ad cy _) rfl (c_X11_nearestSum l dC dI ad cy x1 x4) h4 hM_X11_288 cal_X11_nearestSum ⟨Nat.zero_le _, Nat.zero_le _⟩ ⟨rfl, rfl⟩ ⟨Nat.le_of_ble_eq_true rfl, Nat.le_of_ble_eq_true rfl⟩ rfl rfl (Nat.le_of_ble_eq_true rfl) dX11_dear_31 ?_
    refine g_istore (lv2 := [(0, .ref (ad 98)), (1, .int x1), (2, .int x2), (3, .int x3), (4, .int x4), (5, .int r2)]) C dX11_dear_34 (by decide) [1, 2, 3, 4, 5, 0] rfl ?_
    refine g_iload_n C dX11_dear_36 rfl 2 rfl ?_
    refine g_bipush (v := (-4)) C dX11_dear_37 (by decide) ?_
    rcases oi_e hf with ⟨c5, hf⟩ | ⟨c5, hf⟩
    · refine g_icmp_eq_t (tgt := 48) C dX11_dear_39 (by decide) c5 ?_
      exact g_sub [0, 1, 2, 3, 4, 5] rfl (fX11_dear_b48_ok C sf_18 hs_18 σ3 x1 x2 x3 x4 r2 hf)
    · refine g_icmp_eq_f (tgt := 48) C dX11_dear_39 (by decide) c5 ?_
      refine g_iload C dX11_dear_42 5 rfl ?_
      refine g_iload_n C dX11_dear_44 rfl 3 rfl ?_
      rcases oi_e hf with ⟨c6, hf⟩ | ⟨c6, hf⟩
      · refine g_icmp_le_t (tgt := 52) C dX11_dear_45 (by decide) c6 ?_
        refine g_iconst (v := 0) C dX11_dear_52 (by decide) ?_
        exact g_sub [0, 1, 2, 3, 4, 5] rfl (fX11_dear_b53_ok C sf_18 hs_18 σ3 x1 x2 x3 x4 r2 0 hf)
      · refine g_icmp_le_f (tgt := 52) C dX11_dear_45 (by decide) c6 ?_
        exact g_sub [0, 1, 2, 3, 4, 5] rfl (fX11_dear_b48_ok C sf_18 hs_18 σ3 x1 x2 x3 x4 r2 hf)
def fX11_dear_h18  : Nat → S0 → Int32 → Int32 → Int32 → Int32 → Option (Int32 × S0)
  | 0 => fun _ _ _ _ _ => none
  | n + 1 => fun σ x1 x2 x3 x4 => fX11_dear_b18  (fX11_dear_h18  n) σ x1 x2 x3 x4
set_option maxHeartbeats 1000000 in
set_option maxRecDepth 100000 in
theorem fX11_dear_h18_ok {p : Program} {l : Launch} {e : Env} {s : State} {m : MethodId} {args : Array Value} {below : List Frame} {meth : Method} {c : Code} {dC : Nat → ClassId} {dI : Nat → Nat → Nat} {ad : Nat → Nat} {cy : Nat → ClassId} {sz : Nat} (C : Cx p s m args meth c RX11 cX11_dear 7 (some .int) dC dI ad cy sz) {rr : Int32} {ρ : S0}  : ∀ (n : Nat) (σ : S0) (x1 : Int32) (x2 : Int32) (x3 : Int32) (x4 : Int32)  (_hf : fX11_dear_h18  n σ x1 x2 x3 x4 = some (rr, ρ)), Gw p l e rm_X11_dear s m args below meth c (MQ below (QcI dC dI ad cy sz rr ρ) args s 0 0 (AW ad sz)) dC dI ad cy 7 sz 0 0 18 [(0, .ref (ad 98)), (1, .int x1), (2, .int x2), (3, .int x3), (4, .int x4)] [] σ
  | 0, _, _, _, _, _, hf => by cases hf
  | n + 1, σ, x1, x2, x3, x4, hf => fX11_dear_b18_ok C  (fX11_dear_h18  n) (fX11_dear_h18_ok C  n) σ x1 x2 x3 x4 hf
def fX11_dear (σ : S0) (x1 : Int32) : Option (Int32 × S0) := obp (fX11_isTune σ x1) (fun r1 σ2 => if ¬ r1 = 0 then (fX11_dear_h18 400 σ2 x1 ((-4)) 0 0) else (some ((-1), σ2)))
set_option maxHeartbeats 1000000 in
set_option maxRecDepth 100000 in
theorem fX11_dear_ok {p : Program} {l : Launch} {e : Env} {s : State} {m : MethodId} {args : Array Value} {below : List Frame} {meth : Method} {c : Code} {dC : Nat → ClassId} {dI : Nat → Nat → Nat} {ad : Nat → Nat} {cy : Nat → ClassId} {sz : Nat} (C : Cx p s m args meth c RX11 cX11_dear 7 (some .int) dC dI ad cy sz) {rr : Int32} {ρ : S0} (σ : S0) (x1 : Int32)  (hf : fX11_dear σ x1 = some (rr, ρ)) : Gw p l e rm_X11_dear s m args below meth c (MQ below (QcI dC dI ad cy sz rr ρ) args s 0 0 (AW ad sz)) dC dI ad cy 7 sz 0 0 0 [(0, .ref (ad 98)), (1, .int x1)] [] σ := by
  unfold fX11_dear at hf
  refine g_aload_n C dX11_dear_0 rfl 0 rfl ?_
  refine g_iload_n C dX11_dear_1 rfl 1 rfl ?_
  obtain ⟨r1, σ2, h3, hf⟩ := obp_e hf
  refine g_callVi (As := [.int x1]) (rest := []) C (a_98 ad cy _) rfl (c_X11_isTune l dC dI ad cy x1) h3 hM_X11_175 cal_X11_isTune ⟨Nat.zero_le _, Nat.zero_le _⟩ ⟨rfl, rfl⟩ ⟨Nat.le_of_ble_eq_true rfl, Nat.le_of_ble_eq_true rfl⟩ rfl rfl (Nat.le_of_ble_eq_true rfl) dX11_dear_2 ?_
  rcases oi_e hf with ⟨c4, hf⟩ | ⟨c4, hf⟩
  · refine g_if_ne_t (tgt := 10) C dX11_dear_5 (by decide) c4 ?_
    refine g_bipush (v := (-4)) C dX11_dear_10 (by decide) ?_
    refine g_istore_n (lv2 := [(0, .ref (ad 98)), (1, .int x1), (2, .int ((-4)))]) C dX11_dear_12 rfl (by decide) [1, 2, 0] rfl ?_
    refine g_iconst (v := 0) C dX11_dear_13 (by decide) ?_
    refine g_istore_n (lv2 := [(0, .ref (ad 98)), (1, .int x1), (2, .int ((-4))), (3, .int 0)]) C dX11_dear_14 rfl (by decide) [1, 2, 3, 0] rfl ?_
    refine g_iconst (v := 0) C dX11_dear_15 (by decide) ?_
    refine g_istore (lv2 := [(0, .ref (ad 98)), (1, .int x1), (2, .int ((-4))), (3, .int 0), (4, .int 0)]) C dX11_dear_16 (by decide) [1, 2, 3, 4, 0] rfl ?_
    exact g_sub [0, 1, 2, 3, 4] rfl (fX11_dear_h18_ok C 400 σ2 x1 ((-4)) 0 0 hf)
  · refine g_if_ne_f (tgt := 10) C dX11_dear_5 (by decide) (Decidable.of_not_not c4) ?_
    refine g_iconst (v := (-1)) C dX11_dear_8 (by decide) ?_
    obtain ⟨rfl, rfl⟩ := os_e hf
    exact g_iret C rfl dX11_dear_9
theorem c_X11_dear (l : Launch) (dC : Nat → ClassId) (dI : Nat → Nat → Nat) (ad : Nat → Nat) (cy : Nat → ClassId) (x1 : Int32) : ConI l yX11_dear cX11_dear 7 (some .int) rm_X11_dear dC dI ad cy [.ref (ad 98), .int x1] (fun σ => fX11_dear σ x1) := con_i (own := RX11) (by decide) rfl (Nat.le_of_ble_eq_true rfl) (fun _ _ _ _ _ _ _ _ σ _ _ C hf => fX11_dear_ok C σ x1 hf)
theorem cal_X11_dear : CalV yX11_dear RX11 cX11_dear 7 (some .int) 1 := ⟨hI_X11_dear, hS_X11_dear, hIni_X11, hC_X11_dear, by decide +kernel⟩
abbrev rm_X11_storm : Room := { frames := 2, cells := 0, slots := 0, locals := 46 }
def fX11_storm_b82 (sf_31 : S0 → Int32 → Int32 → Int32 → Int32 → Int32 → Int32 → Option (Int32 × S0)) (σ : S0) (x1 : Int32) (x2 : Int32) (x3 : Int32) (x4 : Int32) (x6 : Int32) (t0 : Int32) (t1 : Int32) : Option (Int32 × S0) := obp (fX11_flag σ t0) (fun r1 σ2 => ol (t1 + r1) (fun v4 => ol (x6 + 1) (fun v5 => sf_31 σ2 x1 x2 x3 x4 v4 v5)))
set_option maxHeartbeats 1000000 in
set_option maxRecDepth 100000 in
theorem fX11_storm_b82_ok {p : Program} {l : Launch} {e : Env} {s : State} {m : MethodId} {args : Array Value} {below : List Frame} {meth : Method} {c : Code} {dC : Nat → ClassId} {dI : Nat → Nat → Nat} {ad : Nat → Nat} {cy : Nat → ClassId} {sz : Nat} (C : Cx p s m args meth c RX11 cX11_storm 7 (some .int) dC dI ad cy sz) {rr : Int32} {ρ : S0} (sf_31 : S0 → Int32 → Int32 → Int32 → Int32 → Int32 → Int32 → Option (Int32 × S0)) (hs_31 : ∀ (σ : S0) (x1 : Int32) (x2 : Int32) (x3 : Int32) (x4 : Int32) (x5 : Int32) (x6 : Int32) , sf_31 σ x1 x2 x3 x4 x5 x6 = some (rr, ρ) → Gw p l e rm_X11_storm s m args below meth c (MQ below (QcI dC dI ad cy sz rr ρ) args s 0 0 (AW ad sz)) dC dI ad cy 7 sz 0 0 31 [(0, .ref (ad 98)), (1, .int x1), (2, .int x2), (3, .int x3), (4, .int x4), (5, .int x5), (6, .int x6)] [] σ) (σ : S0) (x1 : Int32) (x2 : Int32) (x3 : Int32) (x4 : Int32) (x6 : Int32) (t0 : Int32) (t1 : Int32)  (hf : fX11_storm_b82 sf_31 σ x1 x2 x3 x4 x6 t0 t1 = some (rr, ρ)) : Gw p l e rm_X11_storm s m args below meth c (MQ below (QcI dC dI ad cy sz rr ρ) args s 0 0 (AW ad sz)) dC dI ad cy 7 sz 0 0 82 [(0, .ref (ad 98)), (1, .int x1), (2, .int x2), (3, .int x3), (4, .int x4), (6, .int x6)] [.int t0, .int t1] σ := by
  unfold fX11_storm_b82 at hf
  obtain ⟨r1, σ2, h3, hf⟩ := obp_e hf
  refine g_callSi (As := [.int t0]) (rest := [.int t1]) C (c_X11_flag l dC dI ad cy t0) h3 hM_X11_191 cal_X11_flag ⟨Nat.zero_le _, Nat.zero_le _⟩ ⟨rfl, rfl⟩ ⟨Nat.le_of_ble_eq_true rfl, Nat.le_of_ble_eq_true rfl⟩ rfl rfl (Nat.le_of_ble_eq_true rfl) dX11_storm_82 ?_
  refine g_iadd C dX11_storm_85 ?_
  obtain ⟨v4, ev4, hf⟩ := ol_e hf
  refine g_nm ev4 ?_
  refine g_istore (lv2 := [(0, .ref (ad 98)), (1, .int x1), (2, .int x2), (3, .int x3), (4, .int x4), (5, .int v4), (6, .int x6)]) C dX11_storm_86 (by decide) [1, 2, 3, 4, 5, 0, 6] rfl ?_
  obtain ⟨v5, ev5, hf⟩ := ol_e hf
  refine g_iinc (j := 6) (w := 1) (lv2 := [(0, .ref (ad 98)), (1, .int x1), (2, .int x2), (3, .int x3), (4, .int x4), (5, .int v4), (6, .int v5)]) C dX11_storm_88 rfl (by decide) ev5 (by decide) [1, 2, 3, 4, 5, 6, 0] rfl ?_
  refine g_goto (tgt := 31) C dX11_storm_91 (by decide) ?_
  exact g_sub [0, 1, 2, 3, 4, 5, 6] rfl (hs_31 σ2 x1 x2 x3 x4 v4 v5 hf)
def fX11_storm_b31 (sf_31 : S0 → Int32 → Int32 → Int32 → Int32 → Int32 → Int32 → Option (Int32 × S0)) (σ : S0) (x1 : Int32) (x2 : Int32) (x3 : Int32) (x4 : Int32) (x5 : Int32) (x6 : Int32) : Option (Int32 × S0) := if (σ 98 4) ≤ x6 then (if ¬ x2 = 0 then (some ((((σ 98 4) * x3) - (x4 * x5)) + 100000, σ)) else (some (x3, σ))) else (obp (fX11_getsOf σ x1 x6) (fun r3 σ4 => ol (x3 + r3) (fun v6 => obp (fX11_of σ4 x6 ((1 : Int32))) (fun r7 σ8 => ol (x4 + (2 * r7)) (fun v10 => obp (fX11_of σ8 x6 ((0 : Int32))) (fun r11 σ12 => if ¬ r11 = x1 then (fX11_storm_b82 sf_31 σ12 x1 x2 v6 v10 x6 0 x5) else (fX11_storm_b82 sf_31 σ12 x1 x2 v6 v10 x6 1 x5)))))))
set_option maxHeartbeats 1000000 in
set_option maxRecDepth 100000 in
theorem fX11_storm_b31_ok {p : Program} {l : Launch} {e : Env} {s : State} {m : MethodId} {args : Array Value} {below : List Frame} {meth : Method} {c : Code} {dC : Nat → ClassId} {dI : Nat → Nat → Nat} {ad : Nat → Nat} {cy : Nat → ClassId} {sz : Nat} (C : Cx p s m args meth c RX11 cX11_storm 7 (some .int) dC dI ad cy sz) {rr : Int32} {ρ : S0} (sf_31 : S0 → Int32 → Int32 → Int32 → Int32 → Int32 → Int32 → Option (Int32 × S0)) (hs_31 : ∀ (σ : S0) (x1 : Int32) (x2 : Int32) (x3 : Int32) (x4 : Int32) (x5 : Int32) (x6 : Int32) , sf_31 σ x1 x2 x3 x4 x5 x6 = some (rr, ρ) → Gw p l e rm_X11_storm s m args below meth c (MQ below (QcI dC dI ad cy sz rr ρ) args s 0 0 (AW ad sz)) dC dI ad cy 7 sz 0 0 31 [(0, .ref (ad 98)), (1, .int x1), (2, .int x2), (3, .int x3), (4, .int x4), (5, .int x5), (6, .int x6)] [] σ) (σ : S0) (x1 : Int32) (x2 : Int32) (x3 : Int32) (x4 : Int32) (x5 : Int32) (x6 : Int32)  (hf : fX11_storm_b31 sf_31 σ x1 x2 x3 x4 x5 x6 = some (rr, ρ)) : Gw p l e rm_X11_storm s m args below meth c (MQ below (QcI dC dI ad cy sz rr ρ) args s 0 0 (AW ad sz)) dC dI ad cy 7 sz 0 0 31 [(0, .ref (ad 98)), (1, .int x1), (2, .int x2), (3, .int x3), (4, .int x4), (5, .int x5), (6, .int x6)] [] σ := by
  unfold fX11_storm_b31 at hf
  refine g_iload C dX11_storm_31 6 rfl ?_
  refine g_aload_n C dX11_storm_33 rfl 0 rfl ?_
  refine g_get C (a_98 ad cy _) rfl hin_X11 4 (by decide) hF_X11_81 rfl rfl dX11_storm_34 ?_
  rcases oi_e hf with ⟨c1, hf⟩ | ⟨c1, hf⟩
  · refine g_icmp_ge_t (tgt := 94) C dX11_storm_37 (by decide) c1 ?_
    refine g_iload_n C dX11_storm_94 rfl 2 rfl ?_
    rcases oi_e hf with ⟨c2, hf⟩ | ⟨c2, hf⟩
    · refine g_if_ne_t (tgt := 102) C dX11_storm_95 (by decide) c2 ?_
      refine g_aload_n C dX11_storm_102 rfl 0 rfl ?_
      refine g_get C (a_98 ad cy _) rfl hin_X11 4 (by decide) hF_X11_81 rfl rfl dX11_storm_103 ?_
      refine g_iload_n C dX11_storm_106 rfl 3 rfl ?_
      refine g_imul C dX11_storm_107 ?_
      refine g_iload C dX11_storm_108 4 rfl ?_
      refine g_iload C dX11_storm_110 5 rfl ?_
      refine g_imul C dX11_storm_112 ?_
      refine g_isub C dX11_storm_113 ?_
      refine g_ldcw (v := 100000) C dX11_storm_114 hK_X11_294 ?_
      refine g_iadd C dX11_storm_117 ?_
      obtain ⟨rfl, rfl⟩ := os_e hf
      exact g_iret C rfl dX11_storm_118
    · refine g_if_ne_f (tgt := 102) C dX11_storm_95 (by decide) (Decidable.of_not_not c2) ?_
      refine g_iload_n C dX11_storm_98 rfl 3 rfl ?_
      refine g_goto (tgt := 118) C dX11_storm_99 (by decide) ?_
      obtain ⟨rfl, rfl⟩ := os_e hf
      exact g_iret C rfl dX11_storm_118
  · refine g_icmp_ge_f (tgt := 94) C dX11_storm_37 (by decide) c1 ?_
    refine g_iload_n C dX11_storm_40 rfl 3 rfl ?_
    refine g_aload_n C dX11_storm_41 rfl 0 rfl ?_
    refine g_iload_n C dX11_storm_42 rfl 1 rfl ?_
    refine g_iload C dX11_storm_43 6 rfl ?_
    obtain ⟨r3, σ4, h5, hf⟩ := obp_e hf
    refine g_callVi (As := [.int x1, .int x6]) (rest := [.int x3]) C (a_98 ad cy _) rfl (c_X11_getsOf l dC dI ad cy x1 x6) h5 hM_X11_226 cal_X11_getsOf ⟨Nat.zero_le _, Nat.zero_le _⟩ ⟨rfl, rfl⟩ ⟨Nat.le_of_ble_eq_true rfl, Nat.le_of_ble_eq_true rfl⟩ rfl rfl (Nat.le_of_ble_eq_true rfl) dX11_storm_45 ?_
    refine g_iadd C dX11_storm_48 ?_
    obtain ⟨v6, ev6, hf⟩ := ol_e hf
    refine g_nm ev6 ?_
    refine g_istore_n (lv2 := [(0, .ref (ad 98)), (1, .int x1), (2, .int x2), (3, .int v6), (4, .int x4), (5, .int x5), (6, .int x6)]) C dX11_storm_49 rfl (by decide) [1, 2, 3, 0, 4, 5, 6] rfl ?_
    refine g_iload C dX11_storm_50 4 rfl ?_
    refine g_iconst (v := 2) C dX11_storm_52 (by decide) ?_
    refine g_aload_n C dX11_storm_53 rfl 0 rfl ?_
    refine g_iload C dX11_storm_54 6 rfl ?_
    refine g_iconst (v := 1) C dX11_storm_56 (by decide) ?_
    obtain ⟨r7, σ8, h9, hf⟩ := obp_e hf
    refine g_callVi (As := [.int x6, .int 1]) (rest := [.int 2, .int x4]) C (a_98 ad cy _) rfl (c_X11_of l dC dI ad cy x6 ((1 : Int32))) h9 hM_X11_172 cal_X11_of ⟨Nat.zero_le _, Nat.zero_le _⟩ ⟨rfl, rfl⟩ ⟨Nat.le_of_ble_eq_true rfl, Nat.le_of_ble_eq_true rfl⟩ rfl rfl (Nat.le_of_ble_eq_true rfl) dX11_storm_57 ?_
    refine g_imul C dX11_storm_60 ?_
    refine g_iadd C dX11_storm_61 ?_
    obtain ⟨v10, ev10, hf⟩ := ol_e hf
    refine g_nm ev10 ?_
    refine g_istore (lv2 := [(0, .ref (ad 98)), (1, .int x1), (2, .int x2), (3, .int v6), (4, .int v10), (5, .int x5), (6, .int x6)]) C dX11_storm_62 (by decide) [1, 2, 3, 4, 0, 5, 6] rfl ?_
    refine g_iload C dX11_storm_64 5 rfl ?_
    refine g_aload_n C dX11_storm_66 rfl 0 rfl ?_
    refine g_iload C dX11_storm_67 6 rfl ?_
    refine g_iconst (v := 0) C dX11_storm_69 (by decide) ?_
    obtain ⟨r11, σ12, h13, hf⟩ := obp_e hf
    refine g_callVi (As := [.int x6, .int 0]) (rest := [.int x5]) C (a_98 ad cy _) rfl (c_X11_of l dC dI ad cy x6 ((0 : Int32))) h13 hM_X11_172 cal_X11_of ⟨Nat.zero_le _, Nat.zero_le _⟩ ⟨rfl, rfl⟩ ⟨Nat.le_of_ble_eq_true rfl, Nat.le_of_ble_eq_true rfl⟩ rfl rfl (Nat.le_of_ble_eq_true rfl) dX11_storm_70 ?_
    refine g_iload_n C dX11_storm_73 rfl 1 rfl ?_
    rcases oi_e hf with ⟨c14, hf⟩ | ⟨c14, hf⟩
    · refine g_icmp_ne_t (tgt := 81) C dX11_storm_74 (by decide) c14 ?_
      refine g_iconst (v := 0) C dX11_storm_81 (by decide) ?_
      exact g_sub [0, 1, 2, 3, 4, 6] rfl (fX11_storm_b82_ok C sf_31 hs_31 σ12 x1 x2 v6 v10 x6 0 x5 hf)
    · refine g_icmp_ne_f (tgt := 81) C dX11_storm_74 (by decide) (Decidable.of_not_not c14) ?_
      refine g_iconst (v := 1) C dX11_storm_77 (by decide) ?_
      refine g_goto (tgt := 82) C dX11_storm_78 (by decide) ?_
      exact g_sub [0, 1, 2, 3, 4, 6] rfl (fX11_storm_b82_ok C sf_31 hs_31 σ12 x1 x2 v6 v10 x6 1 x5 hf)
def fX11_storm_h31  : Nat → S0 → Int32 → Int32 → Int32 → Int32 → Int32 → Int32 → Option (Int32 × S0)
  | 0 => fun _ _ _ _ _ _ _ => none
  | n + 1 => fun σ x1 x2 x3 x4 x5 x6 => fX11_storm_b31  (fX11_storm_h31  n) σ x1 x2 x3 x4 x5 x6
set_option maxHeartbeats 1000000 in
set_option maxRecDepth 100000 in
theorem fX11_storm_h31_ok {p : Program} {l : Launch} {e : Env} {s : State} {m : MethodId} {args : Array Value} {below : List Frame} {meth : Method} {c : Code} {dC : Nat → ClassId} {dI : Nat → Nat → Nat} {ad : Nat → Nat} {cy : Nat → ClassId} {sz : Nat} (C : Cx p s m args meth c RX11 cX11_storm 7 (some .int) dC dI ad cy sz) {rr : Int32} {ρ : S0}  : ∀ (n : Nat) (σ : S0) (x1 : Int32) (x2 : Int32) (x3 : Int32) (x4 : Int32) (x5 : Int32) (x6 : Int32)  (_hf : fX11_storm_h31  n σ x1 x2 x3 x4 x5 x6 = some (rr, ρ)), Gw p l e rm_X11_storm s m args below meth c (MQ below (QcI dC dI ad cy sz rr ρ) args s 0 0 (AW ad sz)) dC dI ad cy 7 sz 0 0 31 [(0, .ref (ad 98)), (1, .int x1), (2, .int x2), (3, .int x3), (4, .int x4), (5, .int x5), (6, .int x6)] [] σ
  | 0, _, _, _, _, _, _, _, hf => by cases hf
  | n + 1, σ, x1, x2, x3, x4, x5, x6, hf => fX11_storm_b31_ok C  (fX11_storm_h31  n) (fX11_storm_h31_ok C  n) σ x1 x2 x3 x4 x5 x6 hf
def fX11_storm (σ : S0) (x1 : Int32) (x2 : Int32) : Option (Int32 × S0) := obp (fX11_isHouse σ x1) (fun r1 σ2 => if r1 = 0 then (some ((-1), σ2)) else (obp (fX11_in σ2 x2.toInt64 ((0 : Int64)) ((1 : Int64))) (fun r5 σ6 => if ¬ r5 = 0 then (fX11_storm_h31 400 σ6 x1 x2 0 0 0 0) else (some ((-1), σ6)))))
set_option maxHeartbeats 1000000 in
set_option maxRecDepth 100000 in
theorem fX11_storm_ok {p : Program} {l : Launch} {e : Env} {s : State} {m : MethodId} {args : Array Value} {below : List Frame} {meth : Method} {c : Code} {dC : Nat → ClassId} {dI : Nat → Nat → Nat} {ad : Nat → Nat} {cy : Nat → ClassId} {sz : Nat} (C : Cx p s m args meth c RX11 cX11_storm 7 (some .int) dC dI ad cy sz) {rr : Int32} {ρ : S0} (σ : S0) (x1 : Int32) (x2 : Int32)  (hf : fX11_storm σ x1 x2 = some (rr, ρ)) : Gw p l e rm_X11_storm s m args below meth c (MQ below (QcI dC dI ad cy sz rr ρ) args s 0 0 (AW ad sz)) dC dI ad cy 7 sz 0 0 0 [(0, .ref (ad 98)), (1, .int x1), (2, .int x2)] [] σ := by
  unfold fX11_storm at hf
  refine g_aload_n C dX11_storm_0 rfl 0 rfl ?_
  refine g_iload_n C dX11_storm_1 rfl 1 rfl ?_
  obtain ⟨r1, σ2, h3, hf⟩ := obp_e hf
  refine g_callVi (As := [.int x1]) (rest := []) C (a_98 ad cy _) rfl (c_X11_isHouse l dC dI ad cy x1) h3 hM_X11_186 cal_X11_isHouse ⟨Nat.zero_le _, Nat.zero_le _⟩ ⟨rfl, rfl⟩ ⟨Nat.le_of_ble_eq_true rfl, Nat.le_of_ble_eq_true rfl⟩ rfl rfl (Nat.le_of_ble_eq_true rfl) dX11_storm_2 ?_
  rcases oi_e hf with ⟨c4, hf⟩ | ⟨c4, hf⟩
  · refine g_if_eq_t (tgt := 18) C dX11_storm_5 (by decide) c4 ?_
    refine g_iconst (v := (-1)) C dX11_storm_18 (by decide) ?_
    obtain ⟨rfl, rfl⟩ := os_e hf
    exact g_iret C rfl dX11_storm_19
  · refine g_if_eq_f (tgt := 18) C dX11_storm_5 (by decide) c4 ?_
    refine g_iload_n C dX11_storm_8 rfl 2 rfl ?_
    refine g_i2l C dX11_storm_9 ?_
    refine g_lconst (v := 0) C dX11_storm_10 (by decide) ?_
    refine g_lconst (v := 1) C dX11_storm_11 (by decide) ?_
    obtain ⟨r5, σ6, h7, hf⟩ := obp_e hf
    refine g_callSi (As := [.long x2.toInt64, .long 0, .long 1]) (rest := []) C (c_X11_in l dC dI ad cy x2.toInt64 ((0 : Int64)) ((1 : Int64))) h7 hM_X11_92 cal_X11_in ⟨Nat.zero_le _, Nat.zero_le _⟩ ⟨rfl, rfl⟩ ⟨Nat.le_of_ble_eq_true rfl, Nat.le_of_ble_eq_true rfl⟩ rfl rfl (Nat.le_of_ble_eq_true rfl) dX11_storm_12 ?_
    rcases oi_e hf with ⟨c8, hf⟩ | ⟨c8, hf⟩
    · refine g_if_ne_t (tgt := 20) C dX11_storm_15 (by decide) c8 ?_
      refine g_iconst (v := 0) C dX11_storm_20 (by decide) ?_
      refine g_istore_n (lv2 := [(0, .ref (ad 98)), (1, .int x1), (2, .int x2), (3, .int 0)]) C dX11_storm_21 rfl (by decide) [1, 2, 3, 0] rfl ?_
      refine g_iconst (v := 0) C dX11_storm_22 (by decide) ?_
      refine g_istore (lv2 := [(0, .ref (ad 98)), (1, .int x1), (2, .int x2), (3, .int 0), (4, .int 0)]) C dX11_storm_23 (by decide) [1, 2, 3, 4, 0] rfl ?_
      refine g_iconst (v := 0) C dX11_storm_25 (by decide) ?_
      refine g_istore (lv2 := [(0, .ref (ad 98)), (1, .int x1), (2, .int x2), (3, .int 0), (4, .int 0), (5, .int 0)]) C dX11_storm_26 (by decide) [1, 2, 3, 4, 5, 0] rfl ?_
      refine g_iconst (v := 0) C dX11_storm_28 (by decide) ?_
      refine g_istore (lv2 := [(0, .ref (ad 98)), (1, .int x1), (2, .int x2), (3, .int 0), (4, .int 0), (5, .int 0), (6, .int 0)]) C dX11_storm_29 (by decide) [1, 2, 3, 4, 5, 6, 0] rfl ?_
      exact g_sub [0, 1, 2, 3, 4, 5, 6] rfl (fX11_storm_h31_ok C 400 σ6 x1 x2 0 0 0 0 hf)
    · refine g_if_ne_f (tgt := 20) C dX11_storm_15 (by decide) (Decidable.of_not_not c8) ?_
      refine g_iconst (v := (-1)) C dX11_storm_18 (by decide) ?_
      obtain ⟨rfl, rfl⟩ := os_e hf
      exact g_iret C rfl dX11_storm_19
theorem c_X11_storm (l : Launch) (dC : Nat → ClassId) (dI : Nat → Nat → Nat) (ad : Nat → Nat) (cy : Nat → ClassId) (x1 : Int32) (x2 : Int32) : ConI l yX11_storm cX11_storm 7 (some .int) rm_X11_storm dC dI ad cy [.ref (ad 98), .int x1, .int x2] (fun σ => fX11_storm σ x1 x2) := con_i (own := RX11) (by decide) rfl (Nat.le_of_ble_eq_true rfl) (fun _ _ _ _ _ _ _ _ σ _ _ C hf => fX11_storm_ok C σ x1 x2 hf)
theorem cal_X11_storm : CalV yX11_storm RX11 cX11_storm 7 (some .int) 2 := ⟨hI_X11_storm, hS_X11_storm, hIni_X11, hC_X11_storm, by decide +kernel⟩
abbrev rm_X11_wine : Room := { frames := 2, cells := 0, slots := 0, locals := 47 }
def fX11_wine_b170 (sf_105 : S0 → Int32 → Int32 → Int32 → Int32 → Int32 → Int32 → Int32 → Option (Int32 × S0)) (σ : S0) (x1 : Int32) (x2 : Int32) (x3 : Int32) (x4 : Int32) (x6 : Int32) (x7 : Int32) (t0 : Int32) (t1 : Int32) : Option (Int32 × S0) := obp (fX11_flag σ t0) (fun r1 σ2 => ol (t1 + r1) (fun v4 => ol (x7 + 1) (fun v5 => sf_105 σ2 x1 x2 x3 x4 v4 x6 v5)))
set_option maxHeartbeats 1000000 in
set_option maxRecDepth 100000 in
theorem fX11_wine_b170_ok {p : Program} {l : Launch} {e : Env} {s : State} {m : MethodId} {args : Array Value} {below : List Frame} {meth : Method} {c : Code} {dC : Nat → ClassId} {dI : Nat → Nat → Nat} {ad : Nat → Nat} {cy : Nat → ClassId} {sz : Nat} (C : Cx p s m args meth c RX11 cX11_wine 9 (some .int) dC dI ad cy sz) {rr : Int32} {ρ : S0} (sf_105 : S0 → Int32 → Int32 → Int32 → Int32 → Int32 → Int32 → Int32 → Option (Int32 × S0)) (hs_105 : ∀ (σ : S0) (x1 : Int32) (x2 : Int32) (x3 : Int32) (x4 : Int32) (x5 : Int32) (x6 : Int32) (x7 : Int32) , sf_105 σ x1 x2 x3 x4 x5 x6 x7 = some (rr, ρ) → Gw p l e rm_X11_wine s m args below meth c (MQ below (QcI dC dI ad cy sz rr ρ) args s 0 0 (AW ad sz)) dC dI ad cy 9 sz 0 0 105 [(0, .ref (ad 98)), (1, .int x1), (2, .int x2), (3, .int x3), (4, .int x4), (5, .int x5), (6, .int x6), (7, .int x7)] [] σ) (σ : S0) (x1 : Int32) (x2 : Int32) (x3 : Int32) (x4 : Int32) (x6 : Int32) (x7 : Int32) (t0 : Int32) (t1 : Int32)  (hf : fX11_wine_b170 sf_105 σ x1 x2 x3 x4 x6 x7 t0 t1 = some (rr, ρ)) : Gw p l e rm_X11_wine s m args below meth c (MQ below (QcI dC dI ad cy sz rr ρ) args s 0 0 (AW ad sz)) dC dI ad cy 9 sz 0 0 170 [(0, .ref (ad 98)), (1, .int x1), (2, .int x2), (3, .int x3), (4, .int x4), (6, .int x6), (7, .int x7)] [.int t0, .int t1] σ := by
  unfold fX11_wine_b170 at hf
  obtain ⟨r1, σ2, h3, hf⟩ := obp_e hf
  refine g_callSi (As := [.int t0]) (rest := [.int t1]) C (c_X11_flag l dC dI ad cy t0) h3 hM_X11_191 cal_X11_flag ⟨Nat.zero_le _, Nat.zero_le _⟩ ⟨rfl, rfl⟩ ⟨Nat.le_of_ble_eq_true rfl, Nat.le_of_ble_eq_true rfl⟩ rfl rfl (Nat.le_of_ble_eq_true rfl) dX11_wine_170 ?_
  refine g_iadd C dX11_wine_173 ?_
  obtain ⟨v4, ev4, hf⟩ := ol_e hf
  refine g_nm ev4 ?_
  refine g_istore (lv2 := [(0, .ref (ad 98)), (1, .int x1), (2, .int x2), (3, .int x3), (4, .int x4), (5, .int v4), (6, .int x6), (7, .int x7)]) C dX11_wine_174 (by decide) [1, 2, 3, 4, 5, 0, 6, 7] rfl ?_
  obtain ⟨v5, ev5, hf⟩ := ol_e hf
  refine g_iinc (j := 7) (w := 1) (lv2 := [(0, .ref (ad 98)), (1, .int x1), (2, .int x2), (3, .int x3), (4, .int x4), (5, .int v4), (6, .int x6), (7, .int v5)]) C dX11_wine_176 rfl (by decide) ev5 (by decide) [1, 2, 3, 4, 5, 6, 7, 0] rfl ?_
  refine g_goto (tgt := 105) C dX11_wine_179 (by decide) ?_
  exact g_sub [0, 1, 2, 3, 4, 5, 6, 7] rfl (hs_105 σ2 x1 x2 x3 x4 v4 x6 v5 hf)
def fX11_wine_b165 (sf_105 : S0 → Int32 → Int32 → Int32 → Int32 → Int32 → Int32 → Int32 → Option (Int32 × S0)) (σ : S0) (x1 : Int32) (x2 : Int32) (x3 : Int32) (x4 : Int32) (x6 : Int32) (x7 : Int32) (t0 : Int32) : Option (Int32 × S0) := fX11_wine_b170 sf_105 σ x1 x2 x3 x4 x6 x7 1 t0
set_option maxHeartbeats 1000000 in
set_option maxRecDepth 100000 in
theorem fX11_wine_b165_ok {p : Program} {l : Launch} {e : Env} {s : State} {m : MethodId} {args : Array Value} {below : List Frame} {meth : Method} {c : Code} {dC : Nat → ClassId} {dI : Nat → Nat → Nat} {ad : Nat → Nat} {cy : Nat → ClassId} {sz : Nat} (C : Cx p s m args meth c RX11 cX11_wine 9 (some .int) dC dI ad cy sz) {rr : Int32} {ρ : S0} (sf_105 : S0 → Int32 → Int32 → Int32 → Int32 → Int32 → Int32 → Int32 → Option (Int32 × S0)) (hs_105 : ∀ (σ : S0) (x1 : Int32) (x2 : Int32) (x3 : Int32) (x4 : Int32) (x5 : Int32) (x6 : Int32) (x7 : Int32) , sf_105 σ x1 x2 x3 x4 x5 x6 x7 = some (rr, ρ) → Gw p l e rm_X11_wine s m args below meth c (MQ below (QcI dC dI ad cy sz rr ρ) args s 0 0 (AW ad sz)) dC dI ad cy 9 sz 0 0 105 [(0, .ref (ad 98)), (1, .int x1), (2, .int x2), (3, .int x3), (4, .int x4), (5, .int x5), (6, .int x6), (7, .int x7)] [] σ) (σ : S0) (x1 : Int32) (x2 : Int32) (x3 : Int32) (x4 : Int32) (x6 : Int32) (x7 : Int32) (t0 : Int32)  (hf : fX11_wine_b165 sf_105 σ x1 x2 x3 x4 x6 x7 t0 = some (rr, ρ)) : Gw p l e rm_X11_wine s m args below meth c (MQ below (QcI dC dI ad cy sz rr ρ) args s 0 0 (AW ad sz)) dC dI ad cy 9 sz 0 0 165 [(0, .ref (ad 98)), (1, .int x1), (2, .int x2), (3, .int x3), (4, .int x4), (6, .int x6), (7, .int x7)] [.int t0] σ := by
  unfold fX11_wine_b165 at hf
  refine g_iconst (v := 1) C dX11_wine_165 (by decide) ?_
  refine g_goto (tgt := 170) C dX11_wine_166 (by decide) ?_
  exact g_sub [0, 1, 2, 3, 4, 5, 6] rfl (fX11_wine_b170_ok C sf_105 hs_105 σ x1 x2 x3 x4 x6 x7 1 t0 hf)
def fX11_wine_b169 (sf_105 : S0 → Int32 → Int32 → Int32 → Int32 → Int32 → Int32 → Int32 → Option (Int32 × S0)) (σ : S0) (x1 : Int32) (x2 : Int32) (x3 : Int32) (x4 : Int32) (x6 : Int32) (x7 : Int32) (t0 : Int32) : Option (Int32 × S0) := fX11_wine_b170 sf_105 σ x1 x2 x3 x4 x6 x7 0 t0
set_option maxHeartbeats 1000000 in
set_option maxRecDepth 100000 in
theorem fX11_wine_b169_ok {p : Program} {l : Launch} {e : Env} {s : State} {m : MethodId} {args : Array Value} {below : List Frame} {meth : Method} {c : Code} {dC : Nat → ClassId} {dI : Nat → Nat → Nat} {ad : Nat → Nat} {cy : Nat → ClassId} {sz : Nat} (C : Cx p s m args meth c RX11 cX11_wine 9 (some .int) dC dI ad cy sz) {rr : Int32} {ρ : S0} (sf_105 : S0 → Int32 → Int32 → Int32 → Int32 → Int32 → Int32 → Int32 → Option (Int32 × S0)) (hs_105 : ∀ (σ : S0) (x1 : Int32) (x2 : Int32) (x3 : Int32) (x4 : Int32) (x5 : Int32) (x6 : Int32) (x7 : Int32) , sf_105 σ x1 x2 x3 x4 x5 x6 x7 = some (rr, ρ) → Gw p l e rm_X11_wine s m args below meth c (MQ below (QcI dC dI ad cy sz rr ρ) args s 0 0 (AW ad sz)) dC dI ad cy 9 sz 0 0 105 [(0, .ref (ad 98)), (1, .int x1), (2, .int x2), (3, .int x3), (4, .int x4), (5, .int x5), (6, .int x6), (7, .int x7)] [] σ) (σ : S0) (x1 : Int32) (x2 : Int32) (x3 : Int32) (x4 : Int32) (x6 : Int32) (x7 : Int32) (t0 : Int32)  (hf : fX11_wine_b169 sf_105 σ x1 x2 x3 x4 x6 x7 t0 = some (rr, ρ)) : Gw p l e rm_X11_wine s m args below meth c (MQ below (QcI dC dI ad cy sz rr ρ) args s 0 0 (AW ad sz)) dC dI ad cy 9 sz 0 0 169 [(0, .ref (ad 98)), (1, .int x1), (2, .int x2), (3, .int x3), (4, .int x4), (6, .int x6), (7, .int x7)] [.int t0] σ := by
  unfold fX11_wine_b169 at hf
  refine g_iconst (v := 0) C dX11_wine_169 (by decide) ?_
  exact g_sub [0, 1, 2, 3, 4, 5, 6] rfl (fX11_wine_b170_ok C sf_105 hs_105 σ x1 x2 x3 x4 x6 x7 0 t0 hf)
def fX11_wine_b204  (σ : S0) (t0 : Int32) (t1 : Int32) : Option (Int32 × S0) := obp (fX11_flag σ t0) (fun r1 σ2 => some (t1 + r1, σ2))
set_option maxHeartbeats 1000000 in
set_option maxRecDepth 100000 in
theorem fX11_wine_b204_ok {p : Program} {l : Launch} {e : Env} {s : State} {m : MethodId} {args : Array Value} {below : List Frame} {meth : Method} {c : Code} {dC : Nat → ClassId} {dI : Nat → Nat → Nat} {ad : Nat → Nat} {cy : Nat → ClassId} {sz : Nat} (C : Cx p s m args meth c RX11 cX11_wine 9 (some .int) dC dI ad cy sz) {rr : Int32} {ρ : S0}  (σ : S0) (t0 : Int32) (t1 : Int32)  (hf : fX11_wine_b204 σ t0 t1 = some (rr, ρ)) : Gw p l e rm_X11_wine s m args below meth c (MQ below (QcI dC dI ad cy sz rr ρ) args s 0 0 (AW ad sz)) dC dI ad cy 9 sz 0 0 204 [] [.int t0, .int t1] σ := by
  unfold fX11_wine_b204 at hf
  obtain ⟨r1, σ2, h3, hf⟩ := obp_e hf
  refine g_callSi (As := [.int t0]) (rest := [.int t1]) C (c_X11_flag l dC dI ad cy t0) h3 hM_X11_191 cal_X11_flag ⟨Nat.zero_le _, Nat.zero_le _⟩ ⟨rfl, rfl⟩ ⟨Nat.le_of_ble_eq_true rfl, Nat.le_of_ble_eq_true rfl⟩ rfl rfl (Nat.le_of_ble_eq_true rfl) dX11_wine_204 ?_
  refine g_iadd C dX11_wine_207 ?_
  obtain ⟨rfl, rfl⟩ := os_e hf
  exact g_iret C rfl dX11_wine_208
def fX11_wine_b105 (sf_105 : S0 → Int32 → Int32 → Int32 → Int32 → Int32 → Int32 → Int32 → Option (Int32 × S0)) (σ : S0) (x1 : Int32) (x2 : Int32) (x3 : Int32) (x4 : Int32) (x5 : Int32) (x6 : Int32) (x7 : Int32) : Option (Int32 × S0) := if (σ 98 2) ≤ x7 then (og (¬ (x2 < 0 ∨ 6 ≤ x2.toNatClampNeg)) (ol (σ 105 x2.toNatClampNeg) (fun v3 => og (¬ ((x3 : Int32)) = 0) (ol ((x1 * v3) / x3) (fun v5 => if x4 ≤ x5 then (fX11_wine_b204 σ 0 v5) else (fX11_wine_b204 σ 1 v5)))))) else (og (¬ (x7 < 0 ∨ 6 ≤ x7.toNatClampNeg)) (ol (σ 105 x7.toNatClampNeg) (fun v8 => og (¬ ((x3 : Int32)) = 0) (ol ((x1 * v8) - (x1 * v8) / x3 * x3) (fun v10 => og (¬ (x7 < 0 ∨ 6 ≤ x7.toNatClampNeg)) (ol (σ 105 x7.toNatClampNeg) (fun v12 => og (¬ ((x3 : Int32)) = 0) (ol ((x1 * v12) / x3) (fun v14 => ol (x4 - v14) (fun v15 => if x6 < v10 then (fX11_wine_b165 sf_105 σ x1 x2 x3 v15 x6 x7 x5) else (if ¬ v10 = x6 then (fX11_wine_b169 sf_105 σ x1 x2 x3 v15 x6 x7 x5) else (if x2 ≤ x7 then (fX11_wine_b169 sf_105 σ x1 x2 x3 v15 x6 x7 x5) else (fX11_wine_b165 sf_105 σ x1 x2 x3 v15 x6 x7 x5)))))))))))))
set_option maxHeartbeats 1000000 in
set_option maxRecDepth 100000 in
theorem fX11_wine_b105_ok {p : Program} {l : Launch} {e : Env} {s : State} {m : MethodId} {args : Array Value} {below : List Frame} {meth : Method} {c : Code} {dC : Nat → ClassId} {dI : Nat → Nat → Nat} {ad : Nat → Nat} {cy : Nat → ClassId} {sz : Nat} (C : Cx p s m args meth c RX11 cX11_wine 9 (some .int) dC dI ad cy sz) {rr : Int32} {ρ : S0} (sf_105 : S0 → Int32 → Int32 → Int32 → Int32 → Int32 → Int32 → Int32 → Option (Int32 × S0)) (hs_105 : ∀ (σ : S0) (x1 : Int32) (x2 : Int32) (x3 : Int32) (x4 : Int32) (x5 : Int32) (x6 : Int32) (x7 : Int32) , sf_105 σ x1 x2 x3 x4 x5 x6 x7 = some (rr, ρ) → Gw p l e rm_X11_wine s m args below meth c (MQ below (QcI dC dI ad cy sz rr ρ) args s 0 0 (AW ad sz)) dC dI ad cy 9 sz 0 0 105 [(0, .ref (ad 98)), (1, .int x1), (2, .int x2), (3, .int x3), (4, .int x4), (5, .int x5), (6, .int x6), (7, .int x7)] [] σ) (σ : S0) (x1 : Int32) (x2 : Int32) (x3 : Int32) (x4 : Int32) (x5 : Int32) (x6 : Int32) (x7 : Int32)  (hf : fX11_wine_b105 sf_105 σ x1 x2 x3 x4 x5 x6 x7 = some (rr, ρ)) : Gw p l e rm_X11_wine s m args below meth c (MQ below (QcI dC dI ad cy sz rr ρ) args s 0 0 (AW ad sz)) dC dI ad cy 9 sz 0 0 105 [(0, .ref (ad 98)), (1, .int x1), (2, .int x2), (3, .int x3), (4, .int x4), (5, .int x5), (6, .int x6), (7, .int x7)] [] σ := by
  unfold fX11_wine_b105 at hf
  refine g_iload C dX11_wine_105 7 rfl ?_
  refine g_aload_n C dX11_wine_107 rfl 0 rfl ?_
  refine g_get C (a_98 ad cy _) rfl hin_X11 2 (by decide) hF_X11_75 rfl rfl dX11_wine_108 ?_
  rcases oi_e hf with ⟨c1, hf⟩ | ⟨c1, hf⟩
  · refine g_icmp_ge_t (tgt := 182) C dX11_wine_111 (by decide) c1 ?_
    refine g_iload_n C dX11_wine_182 rfl 1 rfl ?_
    refine g_aload_n C dX11_wine_183 rfl 0 rfl ?_
    refine g_get C (a_98 ad cy _) rfl hin_X11 28 (by decide) hF_X11_29 rfl rfl dX11_wine_184 ?_
    refine g_iload_n C dX11_wine_187 rfl 2 rfl ?_
    obtain ⟨h2, hf⟩ := og_e hf
    refine g_iald C (a_105 ad cy _) h2 dX11_wine_188 ?_
    obtain ⟨v3, ev3, hf⟩ := ol_e hf
    refine g_nm ev3 ?_
    refine g_imul C dX11_wine_189 ?_
    refine g_iload_n C dX11_wine_190 rfl 3 rfl ?_
    obtain ⟨h4, hf⟩ := og_e hf
    refine g_idiv C dX11_wine_191 h4 ?_
    obtain ⟨v5, ev5, hf⟩ := ol_e hf
    refine g_nm ev5 ?_
    refine g_iload C dX11_wine_192 5 rfl ?_
    refine g_iload C dX11_wine_194 4 rfl ?_
    rcases oi_e hf with ⟨c6, hf⟩ | ⟨c6, hf⟩
    · refine g_icmp_ge_t (tgt := 203) C dX11_wine_196 (by decide) c6 ?_
      refine g_iconst (v := 0) C dX11_wine_203 (by decide) ?_
      exact g_sub [] rfl (fX11_wine_b204_ok C σ 0 v5 hf)
    · refine g_icmp_ge_f (tgt := 203) C dX11_wine_196 (by decide) c6 ?_
      refine g_iconst (v := 1) C dX11_wine_199 (by decide) ?_
      refine g_goto (tgt := 204) C dX11_wine_200 (by decide) ?_
      exact g_sub [] rfl (fX11_wine_b204_ok C σ 1 v5 hf)
  · refine g_icmp_ge_f (tgt := 182) C dX11_wine_111 (by decide) c1 ?_
    refine g_iload_n C dX11_wine_114 rfl 1 rfl ?_
    refine g_aload_n C dX11_wine_115 rfl 0 rfl ?_
    refine g_get C (a_98 ad cy _) rfl hin_X11 28 (by decide) hF_X11_29 rfl rfl dX11_wine_116 ?_
    refine g_iload C dX11_wine_119 7 rfl ?_
    obtain ⟨h7, hf⟩ := og_e hf
    refine g_iald C (a_105 ad cy _) h7 dX11_wine_121 ?_
    obtain ⟨v8, ev8, hf⟩ := ol_e hf
    refine g_nm ev8 ?_
    refine g_imul C dX11_wine_122 ?_
    refine g_iload_n C dX11_wine_123 rfl 3 rfl ?_
    obtain ⟨h9, hf⟩ := og_e hf
    refine g_irem C dX11_wine_124 h9 ?_
    obtain ⟨v10, ev10, hf⟩ := ol_e hf
    refine g_nm ev10 ?_
    refine g_istore (lv2 := [(0, .ref (ad 98)), (1, .int x1), (2, .int x2), (3, .int x3), (4, .int x4), (5, .int x5), (6, .int x6), (7, .int x7), (8, .int v10)]) C dX11_wine_125 (by decide) [1, 2, 3, 4, 5, 6, 7, 8, 0] rfl ?_
    refine g_iload C dX11_wine_127 4 rfl ?_
    refine g_iload_n C dX11_wine_129 rfl 1 rfl ?_
    refine g_aload_n C dX11_wine_130 rfl 0 rfl ?_
    refine g_get C (a_98 ad cy _) rfl hin_X11 28 (by decide) hF_X11_29 rfl rfl dX11_wine_131 ?_
    refine g_iload C dX11_wine_134 7 rfl ?_
    obtain ⟨h11, hf⟩ := og_e hf
    refine g_iald C (a_105 ad cy _) h11 dX11_wine_136 ?_
    obtain ⟨v12, ev12, hf⟩ := ol_e hf
    refine g_nm ev12 ?_
    refine g_imul C dX11_wine_137 ?_
    refine g_iload_n C dX11_wine_138 rfl 3 rfl ?_
    obtain ⟨h13, hf⟩ := og_e hf
    refine g_idiv C dX11_wine_139 h13 ?_
    obtain ⟨v14, ev14, hf⟩ := ol_e hf
    refine g_nm ev14 ?_
    refine g_isub C dX11_wine_140 ?_
    obtain ⟨v15, ev15, hf⟩ := ol_e hf
    refine g_nm ev15 ?_
    refine g_istore (lv2 := [(0, .ref (ad 98)), (1, .int x1), (2, .int x2), (3, .int x3), (4, .int v15), (5, .int x5), (6, .int x6), (7, .int x7), (8, .int v10)]) C dX11_wine_141 (by decide) [1, 2, 3, 4, 0, 5, 6, 7, 8] rfl ?_
    refine g_iload C dX11_wine_143 5 rfl ?_
    refine g_iload C dX11_wine_145 8 rfl ?_
    refine g_iload C dX11_wine_147 6 rfl ?_
    rcases oi_e hf with ⟨c16, hf⟩ | ⟨c16, hf⟩
    · refine g_icmp_gt_t (tgt := 165) C dX11_wine_149 (by decide) c16 ?_
      exact g_sub [0, 1, 2, 3, 4, 6, 7] rfl (fX11_wine_b165_ok C sf_105 hs_105 σ x1 x2 x3 v15 x6 x7 x5 hf)
    · refine g_icmp_gt_f (tgt := 165) C dX11_wine_149 (by decide) c16 ?_
      refine g_iload C dX11_wine_152 8 rfl ?_
      refine g_iload C dX11_wine_154 6 rfl ?_
      rcases oi_e hf with ⟨c17, hf⟩ | ⟨c17, hf⟩
      · refine g_icmp_ne_t (tgt := 169) C dX11_wine_156 (by decide) c17 ?_
        exact g_sub [0, 1, 2, 3, 4, 6, 7] rfl (fX11_wine_b169_ok C sf_105 hs_105 σ x1 x2 x3 v15 x6 x7 x5 hf)
      · refine g_icmp_ne_f (tgt := 169) C dX11_wine_156 (by decide) (Decidable.of_not_not c17) ?_
        refine g_iload C dX11_wine_159 7 rfl ?_
        refine g_iload_n C dX11_wine_161 rfl 2 rfl ?_
        rcases oi_e hf with ⟨c18, hf⟩ | ⟨c18, hf⟩
        · refine g_icmp_ge_t (tgt := 169) C dX11_wine_162 (by decide) c18 ?_
          exact g_sub [0, 1, 2, 3, 4, 6, 7] rfl (fX11_wine_b169_ok C sf_105 hs_105 σ x1 x2 x3 v15 x6 x7 x5 hf)
        · refine g_icmp_ge_f (tgt := 169) C dX11_wine_162 (by decide) c18 ?_
          exact g_sub [0, 1, 2, 3, 4, 6, 7] rfl (fX11_wine_b165_ok C sf_105 hs_105 σ x1 x2 x3 v15 x6 x7 x5 hf)
def fX11_wine_h105  : Nat → S0 → Int32 → Int32 → Int32 → Int32 → Int32 → Int32 → Int32 → Option (Int32 × S0)
  | 0 => fun _ _ _ _ _ _ _ _ => none
  | n + 1 => fun σ x1 x2 x3 x4 x5 x6 x7 => fX11_wine_b105  (fX11_wine_h105  n) σ x1 x2 x3 x4 x5 x6 x7
set_option maxHeartbeats 1000000 in
set_option maxRecDepth 100000 in
theorem fX11_wine_h105_ok {p : Program} {l : Launch} {e : Env} {s : State} {m : MethodId} {args : Array Value} {below : List Frame} {meth : Method} {c : Code} {dC : Nat → ClassId} {dI : Nat → Nat → Nat} {ad : Nat → Nat} {cy : Nat → ClassId} {sz : Nat} (C : Cx p s m args meth c RX11 cX11_wine 9 (some .int) dC dI ad cy sz) {rr : Int32} {ρ : S0}  : ∀ (n : Nat) (σ : S0) (x1 : Int32) (x2 : Int32) (x3 : Int32) (x4 : Int32) (x5 : Int32) (x6 : Int32) (x7 : Int32)  (_hf : fX11_wine_h105  n σ x1 x2 x3 x4 x5 x6 x7 = some (rr, ρ)), Gw p l e rm_X11_wine s m args below meth c (MQ below (QcI dC dI ad cy sz rr ρ) args s 0 0 (AW ad sz)) dC dI ad cy 9 sz 0 0 105 [(0, .ref (ad 98)), (1, .int x1), (2, .int x2), (3, .int x3), (4, .int x4), (5, .int x5), (6, .int x6), (7, .int x7)] [] σ
  | 0, _, _, _, _, _, _, _, _, hf => by cases hf
  | n + 1, σ, x1, x2, x3, x4, x5, x6, x7, hf => fX11_wine_b105_ok C  (fX11_wine_h105  n) (fX11_wine_h105_ok C  n) σ x1 x2 x3 x4 x5 x6 x7 hf
def fX11_wine_b52 (sf_52 : S0 → Int32 → Int32 → Int32 → Int32 → Option (Int32 × S0)) (σ : S0) (x1 : Int32) (x2 : Int32) (x3 : Int32) (x4 : Int32) : Option (Int32 × S0) := if (σ 98 2) ≤ x4 then (if ¬ x3 = 0 then (og (¬ (x2 < 0 ∨ 6 ≤ x2.toNatClampNeg)) (ol (σ 105 x2.toNatClampNeg) (fun v4 => og (¬ ((x3 : Int32)) = 0) (ol ((x1 * v4) - (x1 * v4) / x3 * x3) (fun v6 => fX11_wine_h105 400 σ x1 x2 x3 x1 0 v6 0))))) else (some ((-4), σ))) else (og (¬ (x4 < 0 ∨ 6 ≤ x4.toNatClampNeg)) (ol (σ 105 x4.toNatClampNeg) (fun v8 => ol (x3 + v8) (fun v9 => ol (x4 + 1) (fun v10 => sf_52 σ x1 x2 v9 v10)))))
set_option maxHeartbeats 1000000 in
set_option maxRecDepth 100000 in
theorem fX11_wine_b52_ok {p : Program} {l : Launch} {e : Env} {s : State} {m : MethodId} {args : Array Value} {below : List Frame} {meth : Method} {c : Code} {dC : Nat → ClassId} {dI : Nat → Nat → Nat} {ad : Nat → Nat} {cy : Nat → ClassId} {sz : Nat} (C : Cx p s m args meth c RX11 cX11_wine 9 (some .int) dC dI ad cy sz) {rr : Int32} {ρ : S0} (sf_52 : S0 → Int32 → Int32 → Int32 → Int32 → Option (Int32 × S0)) (hs_52 : ∀ (σ : S0) (x1 : Int32) (x2 : Int32) (x3 : Int32) (x4 : Int32) , sf_52 σ x1 x2 x3 x4 = some (rr, ρ) → Gw p l e rm_X11_wine s m args below meth c (MQ below (QcI dC dI ad cy sz rr ρ) args s 0 0 (AW ad sz)) dC dI ad cy 9 sz 0 0 52 [(0, .ref (ad 98)), (1, .int x1), (2, .int x2), (3, .int x3), (4, .int x4)] [] σ) (σ : S0) (x1 : Int32) (x2 : Int32) (x3 : Int32) (x4 : Int32)  (hf : fX11_wine_b52 sf_52 σ x1 x2 x3 x4 = some (rr, ρ)) : Gw p l e rm_X11_wine s m args below meth c (MQ below (QcI dC dI ad cy sz rr ρ) args s 0 0 (AW ad sz)) dC dI ad cy 9 sz 0 0 52 [(0, .ref (ad 98)), (1, .int x1), (2, .int x2), (3, .int x3), (4, .int x4)] [] σ := by
  unfold fX11_wine_b52 at hf
  refine g_iload C dX11_wine_52 4 rfl ?_
  refine g_aload_n C dX11_wine_54 rfl 0 rfl ?_
  refine g_get C (a_98 ad cy _) rfl hin_X11 2 (by decide) hF_X11_75 rfl rfl dX11_wine_55 ?_
  rcases oi_e hf with ⟨c1, hf⟩ | ⟨c1, hf⟩
  · refine g_icmp_ge_t (tgt := 77) C dX11_wine_58 (by decide) c1 ?_
    refine g_iload_n C dX11_wine_77 rfl 3 rfl ?_
    rcases oi_e hf with ⟨c2, hf⟩ | ⟨c2, hf⟩
    · refine g_if_ne_t (tgt := 84) C dX11_wine_78 (by decide) c2 ?_
      refine g_iload_n C dX11_wine_84 rfl 1 rfl ?_
      refine g_istore (lv2 := [(0, .ref (ad 98)), (1, .int x1), (2, .int x2), (3, .int x3), (4, .int x1)]) C dX11_wine_85 (by decide) [1, 2, 3, 4, 0] rfl ?_
      refine g_iconst (v := 0) C dX11_wine_87 (by decide) ?_
      refine g_istore (lv2 := [(0, .ref (ad 98)), (1, .int x1), (2, .int x2), (3, .int x3), (4, .int x1), (5, .int 0)]) C dX11_wine_88 (by decide) [1, 2, 3, 4, 5, 0] rfl ?_
      refine g_iload_n C dX11_wine_90 rfl 1 rfl ?_
      refine g_aload_n C dX11_wine_91 rfl 0 rfl ?_
      refine g_get C (a_98 ad cy _) rfl hin_X11 28 (by decide) hF_X11_29 rfl rfl dX11_wine_92 ?_
      refine g_iload_n C dX11_wine_95 rfl 2 rfl ?_
      obtain ⟨h3, hf⟩ := og_e hf
      refine g_iald C (a_105 ad cy _) h3 dX11_wine_96 ?_
      obtain ⟨v4, ev4, hf⟩ := ol_e hf
      refine g_nm ev4 ?_
      refine g_imul C dX11_wine_97 ?_
      refine g_iload_n C dX11_wine_98 rfl 3 rfl ?_
      obtain ⟨h5, hf⟩ := og_e hf
      refine g_irem C dX11_wine_99 h5 ?_
      obtain ⟨v6, ev6, hf⟩ := ol_e hf
      refine g_nm ev6 ?_
      refine g_istore (lv2 := [(0, .ref (ad 98)), (1, .int x1), (2, .int x2), (3, .int x3), (4, .int x1), (5, .int 0), (6, .int v6)]) C dX11_wine_100 (by decide) [1, 2, 3, 4, 5, 6, 0] rfl ?_
      refine g_iconst (v := 0) C dX11_wine_102 (by decide) ?_
      refine g_istore (lv2 := [(0, .ref (ad 98)), (1, .int x1), (2, .int x2), (3, .int x3), (4, .int x1), (5, .int 0), (6, .int v6), (7, .int 0)]) C dX11_wine_103 (by decide) [1, 2, 3, 4, 5, 6, 7, 0] rfl ?_
      exact g_sub [0, 1, 2, 3, 4, 5, 6, 7] rfl (fX11_wine_h105_ok C 400 σ x1 x2 x3 x1 0 v6 0 hf)
    · refine g_if_ne_f (tgt := 84) C dX11_wine_78 (by decide) (Decidable.of_not_not c2) ?_
      refine g_bipush (v := (-4)) C dX11_wine_81 (by decide) ?_
      obtain ⟨rfl, rfl⟩ := os_e hf
      exact g_iret C rfl dX11_wine_83
  · refine g_icmp_ge_f (tgt := 77) C dX11_wine_58 (by decide) c1 ?_
    refine g_iload_n C dX11_wine_61 rfl 3 rfl ?_
    refine g_aload_n C dX11_wine_62 rfl 0 rfl ?_
    refine g_get C (a_98 ad cy _) rfl hin_X11 28 (by decide) hF_X11_29 rfl rfl dX11_wine_63 ?_
    refine g_iload C dX11_wine_66 4 rfl ?_
    obtain ⟨h7, hf⟩ := og_e hf
    refine g_iald C (a_105 ad cy _) h7 dX11_wine_68 ?_
    obtain ⟨v8, ev8, hf⟩ := ol_e hf
    refine g_nm ev8 ?_
    refine g_iadd C dX11_wine_69 ?_
    obtain ⟨v9, ev9, hf⟩ := ol_e hf
    refine g_nm ev9 ?_
    refine g_istore_n (lv2 := [(0, .ref (ad 98)), (1, .int x1), (2, .int x2), (3, .int v9), (4, .int x4)]) C dX11_wine_70 rfl (by decide) [1, 2, 3, 0, 4] rfl ?_
    obtain ⟨v10, ev10, hf⟩ := ol_e hf
    refine g_iinc (j := 4) (w := 1) (lv2 := [(0, .ref (ad 98)), (1, .int x1), (2, .int x2), (3, .int v9), (4, .int v10)]) C dX11_wine_71 rfl (by decide) ev10 (by decide) [1, 2, 3, 4, 0] rfl ?_
    refine g_goto (tgt := 52) C dX11_wine_74 (by decide) ?_
    exact g_sub [0, 1, 2, 3, 4] rfl (hs_52 σ x1 x2 v9 v10 hf)
def fX11_wine_h52  : Nat → S0 → Int32 → Int32 → Int32 → Int32 → Option (Int32 × S0)
  | 0 => fun _ _ _ _ _ => none
  | n + 1 => fun σ x1 x2 x3 x4 => fX11_wine_b52  (fX11_wine_h52  n) σ x1 x2 x3 x4
set_option maxHeartbeats 1000000 in
set_option maxRecDepth 100000 in
theorem fX11_wine_h52_ok {p : Program} {l : Launch} {e : Env} {s : State} {m : MethodId} {args : Array Value} {below : List Frame} {meth : Method} {c : Code} {dC : Nat → ClassId} {dI : Nat → Nat → Nat} {ad : Nat → Nat} {cy : Nat → ClassId} {sz : Nat} (C : Cx p s m args meth c RX11 cX11_wine 9 (some .int) dC dI ad cy sz) {rr : Int32} {ρ : S0}  : ∀ (n : Nat) (σ : S0) (x1 : Int32) (x2 : Int32) (x3 : Int32) (x4 : Int32)  (_hf : fX11_wine_h52  n σ x1 x2 x3 x4 = some (rr, ρ)), Gw p l e rm_X11_wine s m args below meth c (MQ below (QcI dC dI ad cy sz rr ρ) args s 0 0 (AW ad sz)) dC dI ad cy 9 sz 0 0 52 [(0, .ref (ad 98)), (1, .int x1), (2, .int x2), (3, .int x3), (4, .int x4)] [] σ
  | 0, _, _, _, _, _, hf => by cases hf
  | n + 1, σ, x1, x2, x3, x4, hf => fX11_wine_b52_ok C  (fX11_wine_h52  n) (fX11_wine_h52_ok C  n) σ x1 x2 x3 x4 hf
def fX11_wine_b28 (sf_28 : S0 → Int32 → Int32 → Int32 → Option (Int32 × S0)) (σ : S0) (x1 : Int32) (x2 : Int32) (x3 : Int32) : Option (Int32 × S0) := if (σ 98 5) ≤ x3 then (fX11_wine_h52 400 σ x1 x2 0 0) else (obp (fX11_rings σ x3) (fun r2 σ3 => ol (x3 + 1) (fun v5 => sf_28 σ3 x1 x2 v5)))
set_option maxHeartbeats 1000000 in
set_option maxRecDepth 100000 in
theorem fX11_wine_b28_ok {p : Program} {l : Launch} {e : Env} {s : State} {m : MethodId} {args : Array Value} {below : List Frame} {meth : Method} {c : Code} {dC : Nat → ClassId} {dI : Nat → Nat → Nat} {ad : Nat → Nat} {cy : Nat → ClassId} {sz : Nat} (C : Cx p s m args meth c RX11 cX11_wine 9 (some .int) dC dI ad cy sz) {rr : Int32} {ρ : S0} (sf_28 : S0 → Int32 → Int32 → Int32 → Option (Int32 × S0)) (hs_28 : ∀ (σ : S0) (x1 : Int32) (x2 : Int32) (x3 : Int32) , sf_28 σ x1 x2 x3 = some (rr, ρ) → Gw p l e rm_X11_wine s m args below meth c (MQ below (QcI dC dI ad cy sz rr ρ) args s 0 0 (AW ad sz)) dC dI ad cy 9 sz 0 0 28 [(0, .ref (ad 98)), (1, .int x1), (2, .int x2), (3, .int x3)] [] σ) (σ : S0) (x1 : Int32) (x2 : Int32) (x3 : Int32)  (hf : fX11_wine_b28 sf_28 σ x1 x2 x3 = some (rr, ρ)) : Gw p l e rm_X11_wine s m args below meth c (MQ below (QcI dC dI ad cy sz rr ρ) args s 0 0 (AW ad sz)) dC dI ad cy 9 sz 0 0 28 [(0, .ref (ad 98)), (1, .int x1), (2, .int x2), (3, .int x3)] [] σ := by
  unfold fX11_wine_b28 at hf
  refine g_iload_n C dX11_wine_28 rfl 3 rfl ?_
  refine g_aload_n C dX11_wine_29 rfl 0 rfl ?_
  refine g_get C (a_98 ad cy _) rfl hin_X11 5 (by decide) hF_X11_84 rfl rfl dX11_wine_30 ?_
  rcases oi_e hf with ⟨c1, hf⟩ | ⟨c1, hf⟩
  · refine g_icmp_ge_t (tgt := 47) C dX11_wine_33 (by decide) c1 ?_
    refine g_iconst (v := 0) C dX11_wine_47 (by decide) ?_
    refine g_istore_n (lv2 := [(0, .ref (ad 98)), (1, .int x1), (2, .int x2), (3, .int 0)]) C dX11_wine_48 rfl (by decide) [1, 2, 3, 0] rfl ?_
    refine g_iconst (v := 0) C dX11_wine_49 (by decide) ?_
    refine g_istore (lv2 := [(0, .ref (ad 98)), (1, .int x1), (2, .int x2), (3, .int 0), (4, .int 0)]) C dX11_wine_50 (by decide) [1, 2, 3, 4, 0] rfl ?_
    exact g_sub [0, 1, 2, 3, 4] rfl (fX11_wine_h52_ok C 400 σ x1 x2 0 0 hf)
  · refine g_icmp_ge_f (tgt := 47) C dX11_wine_33 (by decide) c1 ?_
    refine g_aload_n C dX11_wine_36 rfl 0 rfl ?_
    refine g_iload_n C dX11_wine_37 rfl 3 rfl ?_
    obtain ⟨r2, σ3, h4, hf⟩ := obp_e hf
    refine g_callVv (As := [.int x3]) (rest := []) C (a_98 ad cy _) rfl (c_X11_rings l dC dI ad cy x3) h4 hM_X11_216 cal_X11_rings ⟨Nat.zero_le _, Nat.zero_le _⟩ ⟨rfl, rfl⟩ ⟨Nat.le_of_ble_eq_true rfl, Nat.le_of_ble_eq_true rfl⟩ rfl rfl (Nat.le_of_ble_eq_true rfl) dX11_wine_38 ?_
    obtain ⟨v5, ev5, hf⟩ := ol_e hf
    refine g_iinc (j := 3) (w := 1) (lv2 := [(0, .ref (ad 98)), (1, .int x1), (2, .int x2), (3, .int v5)]) C dX11_wine_41 rfl (by decide) ev5 (by decide) [1, 2, 3, 0] rfl ?_
    refine g_goto (tgt := 28) C dX11_wine_44 (by decide) ?_
    exact g_sub [0, 1, 2, 3] rfl (hs_28 σ3 x1 x2 v5 hf)
def fX11_wine_h28  : Nat → S0 → Int32 → Int32 → Int32 → Option (Int32 × S0)
  | 0 => fun _ _ _ _ => none
  | n + 1 => fun σ x1 x2 x3 => fX11_wine_b28  (fX11_wine_h28  n) σ x1 x2 x3
set_option maxHeartbeats 1000000 in
set_option maxRecDepth 100000 in
theorem fX11_wine_h28_ok {p : Program} {l : Launch} {e : Env} {s : State} {m : MethodId} {args : Array Value} {below : List Frame} {meth : Method} {c : Code} {dC : Nat → ClassId} {dI : Nat → Nat → Nat} {ad : Nat → Nat} {cy : Nat → ClassId} {sz : Nat} (C : Cx p s m args meth c RX11 cX11_wine 9 (some .int) dC dI ad cy sz) {rr : Int32} {ρ : S0}  : ∀ (n : Nat) (σ : S0) (x1 : Int32) (x2 : Int32) (x3 : Int32)  (_hf : fX11_wine_h28  n σ x1 x2 x3 = some (rr, ρ)), Gw p l e rm_X11_wine s m args below meth c (MQ below (QcI dC dI ad cy sz rr ρ) args s 0 0 (AW ad sz)) dC dI ad cy 9 sz 0 0 28 [(0, .ref (ad 98)), (1, .int x1), (2, .int x2), (3, .int x3)] [] σ
  | 0, _, _, _, _, hf => by cases hf
  | n + 1, σ, x1, x2, x3, hf => fX11_wine_b28_ok C  (fX11_wine_h28  n) (fX11_wine_h28_ok C  n) σ x1 x2 x3 hf
def fX11_wine (σ : S0) (x1 : Int32) (x2 : Int32) : Option (Int32 × S0) := obp (fX11_in σ x1.toInt64 ((0 : Int64)) ((999 : Int64))) (fun r1 σ2 => if r1 = 0 then (some ((-1), σ2)) else (obp (fX11_isHouse σ2 x2) (fun r5 σ6 => if ¬ r5 = 0 then (obp (fX11_noRung σ6) (fun r9 σ10 => fX11_wine_h28 400 σ10 x1 x2 0)) else (some ((-1), σ6)))))
set_option maxHeartbeats 1000000 in
set_option maxRecDepth 100000 in
theorem fX11_wine_ok {p : Program} {l : Launch} {e : Env} {s : State} {m : MethodId} {args : Array Value} {below : List Frame} {meth : Method} {c : Code} {dC : Nat → ClassId} {dI : Nat → Nat → Nat} {ad : Nat → Nat} {cy : Nat → ClassId} {sz : Nat} (C : Cx p s m args meth c RX11 cX11_wine 9 (some .int) dC dI ad cy sz) {rr : Int32} {ρ : S0} (σ : S0) (x1 : Int32) (x2 : Int32)  (hf : fX11_wine σ x1 x2 = some (rr, ρ)) : Gw p l e rm_X11_wine s m args below meth c (MQ below (QcI dC dI ad cy sz rr ρ) args s 0 0 (AW ad sz)) dC dI ad cy 9 sz 0 0 0 [(0, .ref (ad 98)), (1, .int x1), (2, .int x2)] [] σ := by
  unfold fX11_wine at hf
  refine g_iload_n C dX11_wine_0 rfl 1 rfl ?_
  refine g_i2l C dX11_wine_1 ?_
  refine g_lconst (v := 0) C dX11_wine_2 (by decide) ?_
  refine g_ldc2 (v := 999) C dX11_wine_3 hK_X11_295 ?_
  obtain ⟨r1, σ2, h3, hf⟩ := obp_e hf
  refine g_callSi (As := [.long x1.toInt64, .long 0, .long 999]) (rest := []) C (c_X11_in l dC dI ad cy x1.toInt64 ((0 : Int64)) ((999 : Int64))) h3 hM_X11_92 cal_X11_in ⟨Nat.zero_le _, Nat.zero_le _⟩ ⟨rfl, rfl⟩ ⟨Nat.le_of_ble_eq_true rfl, Nat.le_of_ble_eq_true rfl⟩ rfl rfl (Nat.le_of_ble_eq_true rfl) dX11_wine_6 ?_
  rcases oi_e hf with ⟨c4, hf⟩ | ⟨c4, hf⟩
  · refine g_if_eq_t (tgt := 20) C dX11_wine_9 (by decide) c4 ?_
    refine g_iconst (v := (-1)) C dX11_wine_20 (by decide) ?_
    obtain ⟨rfl, rfl⟩ := os_e hf
    exact g_iret C rfl dX11_wine_21
  · refine g_if_eq_f (tgt := 20) C dX11_wine_9 (by decide) c4 ?_
    refine g_aload_n C dX11_wine_12 rfl 0 rfl ?_
    refine g_iload_n C dX11_wine_13 rfl 2 rfl ?_
    obtain ⟨r5, σ6, h7, hf⟩ := obp_e hf
    refine g_callVi (As := [.int x2]) (rest := []) C (a_98 ad cy _) rfl (c_X11_isHouse l dC dI ad cy x2) h7 hM_X11_186 cal_X11_isHouse ⟨Nat.zero_le _, Nat.zero_le _⟩ ⟨rfl, rfl⟩ ⟨Nat.le_of_ble_eq_true rfl, Nat.le_of_ble_eq_true rfl⟩ rfl rfl (Nat.le_of_ble_eq_true rfl) dX11_wine_14 ?_
    rcases oi_e hf with ⟨c8, hf⟩ | ⟨c8, hf⟩
    · refine g_if_ne_t (tgt := 22) C dX11_wine_17 (by decide) c8 ?_
      refine g_aload_n C dX11_wine_22 rfl 0 rfl ?_
      obtain ⟨r9, σ10, h11, hf⟩ := obp_e hf
      refine g_callVv (As := []) (rest := []) C (a_98 ad cy _) rfl (c_X11_noRung l dC dI ad cy ) h11 hM_X11_256 cal_X11_noRung ⟨Nat.zero_le _, Nat.zero_le _⟩ ⟨rfl, rfl⟩ ⟨Nat.le_of_ble_eq_true rfl, Nat.le_of_ble_eq_true rfl⟩ rfl rfl (Nat.le_of_ble_eq_true rfl) dX11_wine_23 ?_
      refine g_iconst (v := 0) C dX11_wine_26 (by decide) ?_
      refine g_istore_n (lv2 := [(0, .ref (ad 98)), (1, .int x1), (2, .int x2), (3, .int 0)]) C dX11_wine_27 rfl (by decide) [1, 2, 3, 0] rfl ?_
      exact g_sub [0, 1, 2, 3] rfl (fX11_wine_h28_ok C 400 σ10 x1 x2 0 hf)
    · refine g_if_ne_f (tgt := 22) C dX11_wine_17 (by decide) (Decidable.of_not_not c8) ?_
      refine g_iconst (v := (-1)) C dX11_wine_20 (by decide) ?_
      obtain ⟨rfl, rfl⟩ := os_e hf
      exact g_iret C rfl dX11_wine_21
theorem c_X11_wine (l : Launch) (dC : Nat → ClassId) (dI : Nat → Nat → Nat) (ad : Nat → Nat) (cy : Nat → ClassId) (x1 : Int32) (x2 : Int32) : ConI l yX11_wine cX11_wine 9 (some .int) rm_X11_wine dC dI ad cy [.ref (ad 98), .int x1, .int x2] (fun σ => fX11_wine σ x1 x2) := con_i (own := RX11) (by decide) rfl (Nat.le_of_ble_eq_true rfl) (fun _ _ _ _ _ _ _ _ σ _ _ C hf => fX11_wine_ok C σ x1 x2 hf)
theorem cal_X11_wine : CalV yX11_wine RX11 cX11_wine 9 (some .int) 2 := ⟨hI_X11_wine, hS_X11_wine, hIni_X11, hC_X11_wine, by decide +kernel⟩
