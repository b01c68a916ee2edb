section
abbrev rm_X11_cheapest : Room := { frames := 3, cells := 0, slots := 0, locals := 71 }
def fX11_cheapest_b62 (sf_13 : S0 → Int32 → Int32 → Int32 → Int32 → Option (Int32 × S0)) (σ : S0) (x1 : Int32) (x2 : Int32) (x3 : Int32) (x4 : Int32) : Option (Int32 × S0) := ol (x4 + 1) (fun v1 => sf_13 σ x1 x2 x3 v1)
set_option maxHeartbeats 1000000 in
set_option maxRecDepth 100000 in
theorem fX11_cheapest_b62_ok {p : Program} {l : Launch} {e : Env} {s : State} {m : MethodId} {args : Array Value} {below : List Frame} {meth : Method} {c : Code} {dC : Nat → ClassId} {dI : Nat → Nat → Nat} {ad : Nat → Nat} {cy : Nat → ClassId} {sz : Nat} (C : Cx p s m args meth c RX11 cX11_cheapest 5 (some .int) dC dI ad cy sz) {rr : Int32} {ρ : S0} (sf_13 : S0 → Int32 → Int32 → Int32 → Int32 → Option (Int32 × S0)) (hs_13 : ∀ (σ : S0) (x1 : Int32) (x2 : Int32) (x3 : Int32) (x4 : Int32) , sf_13 σ x1 x2 x3 x4 = some (rr, ρ) → Gw p l e rm_X11_cheapest s m args below meth c (MQ below (QcI dC dI ad cy sz rr ρ) args s 0 0 (AW ad sz)) dC dI ad cy 5 sz 0 0 13 [(0, .ref (ad 98)), (1, .int x1), (2, .int x2), (3, .int x3), (4, .int x4)] [] σ) (σ : S0) (x1 : Int32) (x2 : Int32) (x3 : Int32) (x4 : Int32)  (hf : fX11_cheapest_b62 sf_13 σ x1 x2 x3 x4 = some (rr, ρ)) : Gw p l e rm_X11_cheapest s m args below meth c (MQ below (QcI dC dI ad cy sz rr ρ) args s 0 0 (AW ad sz)) dC dI ad cy 5 sz 0 0 62 [(0, .ref (ad 98)), (1, .int x1), (2, .int x2), (3, .int x3), (4, .int x4)] [] σ := by
  unfold fX11_cheapest_b62 at hf
  obtain ⟨v1, ev1, hf⟩ := ol_e hf
  refine g_iinc (j := 4) (w := 1) (lv2 := [(0, .ref (ad 98)), (1, .int x1), (2, .int x2), (3, .int x3), (4, .int v1)]) C dX11_cheapest_62 rfl (by decide) ev1 (by decide) [1, 2, 3, 4, 0] rfl ?_
  refine g_goto (tgt := 13) C dX11_cheapest_65 (by decide) ?_
  exact g_sub [0, 1, 2, 3, 4] rfl (hs_13 σ x1 x2 x3 v1 hf)
def fX11_cheapest_b13 (sf_13 : S0 → Int32 → Int32 → Int32 → Int32 → Option (Int32 × S0)) (σ : S0) (x1 : Int32) (x2 : Int32) (x3 : Int32) (x4 : Int32) : Option (Int32 × S0) := if ((1 : Int32) <<< ((σ 98 5) &&& 31)) ≤ x4 then (some (x3, σ)) else (obp (fX11_bitsOf σ x4) (fun r2 σ3 => if ¬ r2 = x1 then (fX11_cheapest_b62 sf_13 σ3 x1 x2 x3 x4) else (obp (fX11_isFair σ3 x4 x2) (fun r6 σ7 => if r6 = 0 then (fX11_cheapest_b62 sf_13 σ7 x1 x2 x3 x4) else (if x3 ≤ (σ7 98 32) then (fX11_cheapest_b62 sf_13 σ7 x1 x2 x3 x4) else (ol (σ7 98 32) (fun v11 => ol (su σ7 98 33 x4) (fun σ12 => fX11_cheapest_b62 sf_13 σ12 x1 x2 v11 x4))))))))
set_option maxHeartbeats 1000000 in
set_option maxRecDepth 100000 in
theorem fX11_cheapest_b13_ok {p : Program} {l : Launch} {e : Env} {s : State} {m : MethodId} {args : Array Value} {below : List Frame} {meth : Method} {c : Code} {dC : Nat → ClassId} {dI : Nat → Nat → Nat} {ad : Nat → Nat} {cy : Nat → ClassId} {sz : Nat} (C : Cx p s m args meth c RX11 cX11_cheapest 5 (some .int) dC dI ad cy sz) {rr : Int32} {ρ : S0} (sf_13 : S0 → Int32 → Int32 → Int32 → Int32 → Option (Int32 × S0)) (hs_13 : ∀ (σ : S0) (x1 : Int32) (x2 : Int32) (x3 : Int32) (x4 : Int32) , sf_13 σ x1 x2 x3 x4 = some (rr, ρ) → Gw p l e rm_X11_cheapest s m args below meth c (MQ below (QcI dC dI ad cy sz rr ρ) args s 0 0 (AW ad sz)) dC dI ad cy 5 sz 0 0 13 [(0, .ref (ad 98)), (1, .int x1), (2, .int x2), (3, .int x3), (4, .int x4)] [] σ) (σ : S0) (x1 : Int32) (x2 : Int32) (x3 : Int32) (x4 : Int32)  (hf : fX11_cheapest_b13 sf_13 σ x1 x2 x3 x4 = some (rr, ρ)) : Gw p l e rm_X11_cheapest s m args below meth c (MQ below (QcI dC dI ad cy sz rr ρ) args s 0 0 (AW ad sz)) dC dI ad cy 5 sz 0 0 13 [(0, .ref (ad 98)), (1, .int x1), (2, .int x2), (3, .int x3), (4, .int x4)] [] σ := by
  unfold fX11_cheapest_b13 at hf
  refine g_iload C dX11_cheapest_13 4 rfl ?_
  refine g_iconst (v := 1) C dX11_cheapest_15 (by decide) ?_
  refine g_aload_n C dX11_cheapest_16 rfl 0 rfl ?_
  refine g_get C (a_98 ad cy _) rfl hin_X11 5 (by decide) hF_X11_84 rfl rfl dX11_cheapest_17 ?_
  refine g_ishl C dX11_cheapest_20 ?_
  rcases oi_e hf with ⟨c1, hf⟩ | ⟨c1, hf⟩
  · refine g_icmp_ge_t (tgt := 68) C dX11_cheapest_21 (by decide) c1 ?_
    refine g_iload_n C dX11_cheapest_68 rfl 3 rfl ?_
    obtain ⟨rfl, rfl⟩ := os_e hf
    exact g_iret C rfl dX11_cheapest_69
  · refine g_icmp_ge_f (tgt := 68) C dX11_cheapest_21 (by decide) c1 ?_
    refine g_iload C dX11_cheapest_24 4 rfl ?_
    obtain ⟨r2, σ3, h4, hf⟩ := obp_e hf
    refine g_callSi (As := [.int x4]) (rest := []) C (c_X11_bitsOf l dC dI ad cy x4) h4 hM_X11_266 cal_X11_bitsOf ⟨Nat.zero_le _, Nat.zero_le _⟩ ⟨rfl, rfl⟩ ⟨Nat.le_of_ble_eq_true rfl, Nat.le_of_ble_eq_true rfl⟩ rfl rfl (Nat.le_of_ble_eq_true rfl) dX11_cheapest_26 ?_
    refine g_iload_n C dX11_cheapest_29 rfl 1 rfl ?_
    rcases oi_e hf with ⟨c5, hf⟩ | ⟨c5, hf⟩
    · refine g_icmp_ne_t (tgt := 62) C dX11_cheapest_30 (by decide) c5 ?_
      exact g_sub [0, 1, 2, 3, 4] rfl (fX11_cheapest_b62_ok C sf_13 hs_13 σ3 x1 x2 x3 x4 hf)
    · refine g_icmp_ne_f (tgt := 62) C dX11_cheapest_30 (by decide) (Decidable.of_not_not c5) ?_
      refine g_aload_n C dX11_cheapest_33 rfl 0 rfl ?_
      refine g_iload C dX11_cheapest_34 4 rfl ?_
      refine g_iload_n C dX11_cheapest_36 rfl 2 rfl ?_
      obtain ⟨r6, σ7, h8, hf⟩ := obp_e hf
      refine g_callVi (As := [.int x4, .int x2]) (rest := []) C (a_98 ad cy _) rfl (c_X11_isFair l dC dI ad cy x4 x2) h8 hM_X11_269 cal_X11_isFair ⟨Nat.zero_le _, Nat.zero_le _⟩ ⟨rfl, rfl⟩ ⟨Nat.le_of_ble_eq_true rfl, Nat.le_of_ble_eq_true rfl⟩ rfl rfl (Nat.le_of_ble_eq_true rfl) dX11_cheapest_37 ?_
      rcases oi_e hf with ⟨c9, hf⟩ | ⟨c9, hf⟩
      · refine g_if_eq_t (tgt := 62) C dX11_cheapest_40 (by decide) c9 ?_
        exact g_sub [0, 1, 2, 3, 4] rfl (fX11_cheapest_b62_ok C sf_13 hs_13 σ7 x1 x2 x3 x4 hf)
      · refine g_if_eq_f (tgt := 62) C dX11_cheapest_40 (by decide) c9 ?_
        refine g_aload_n C dX11_cheapest_43 rfl 0 rfl ?_
        refine g_get C (a_98 ad cy _) rfl hin_X11 32 (by decide) hF_X11_259 rfl rfl dX11_cheapest_44 ?_
        refine g_iload_n C dX11_cheapest_47 rfl 3 rfl ?_
        rcases oi_e hf with ⟨c10, hf⟩ | ⟨c10, hf⟩
        · refine g_icmp_ge_t (tgt := 62) C dX11_cheapest_48 (by decide) c10 ?_
          exact g_sub [0, 1, 2, 3, 4] rfl (fX11_cheapest_b62_ok C sf_13 hs_13 σ7 x1 x2 x3 x4 hf)
        · refine g_icmp_ge_f (tgt := 62) C dX11_cheapest_48 (by decide) c10 ?_
          refine g_aload_n C dX11_cheapest_51 rfl 0 rfl ?_
          refine g_get C (a_98 ad cy _) rfl hin_X11 32 (by decide) hF_X11_259 rfl rfl dX11_cheapest_52 ?_
          obtain ⟨v11, ev11, hf⟩ := ol_e hf
          refine g_nm ev11 ?_
          refine g_istore_n (lv2 := [(0, .ref (ad 98)), (1, .int x1), (2, .int x2), (3, .int v11), (4, .int x4)]) C dX11_cheapest_55 rfl (by decide) [1, 2, 3, 0, 4] rfl ?_
          refine g_aload_n C dX11_cheapest_56 rfl 0 rfl ?_
          refine g_iload C dX11_cheapest_57 4 rfl ?_
          obtain ⟨σ12, eσ12, hf⟩ := ol_e hf
          refine g_put (ty := .int) C (a_98 ad cy _) rfl hin_X11 tyX11 tyX11_ok nmX11 33 (by decide) hF_X11_263 rfl rfl (by decide +kernel) rfl rfl (Nat.le_of_ble_eq_true rfl) (p_98_33 ad cy _ _) eσ12 dX11_cheapest_59 ?_
          exact g_sub [0, 1, 2, 3, 4] rfl (fX11_cheapest_b62_ok C sf_13 hs_13 σ12 x1 x2 v11 x4 hf)
def fX11_cheapest_h13  : Nat → S0 → Int32 → Int32 → Int32 → Int32 → Option (Int32 × S0)
  | 0 => fun _ _ _ _ _ => none
  | n + 1 => fun σ x1 x2 x3 x4 => fX11_cheapest_b13  (fX11_cheapest_h13  n) σ x1 x2 x3 x4
set_option maxHeartbeats 1000000 in
set_option maxRecDepth 100000 in
theorem fX11_cheapest_h13_ok {p : Program} {l : Launch} {e : Env} {s : State} {m : MethodId} {args : Array Value} {below : List Frame} {meth : Method} {c : Code} {dC : Nat → ClassId} {dI : Nat → Nat → Nat} {ad : Nat → Nat} {cy : Nat → ClassId} {sz : Nat} (C : Cx p s m args meth c RX11 cX11_cheapest 5 (some .int) dC dI ad cy sz) {rr : Int32} {ρ : S0}  : ∀ (n : Nat) (σ : S0) (x1 : Int32) (x2 : Int32) (x3 : Int32) (x4 : Int32)  (_hf : fX11_cheapest_h13  n σ x1 x2 x3 x4 = some (rr, ρ)), Gw p l e rm_X11_cheapest s m args below meth c (MQ below (QcI dC dI ad cy sz rr ρ) args s 0 0 (AW ad sz)) dC dI ad cy 5 sz 0 0 13 [(0, .ref (ad 98)), (1, .int x1), (2, .int x2), (3, .int x3), (4, .int x4)] [] σ
  | 0, _, _, _, _, _, hf => by cases hf
  | n + 1, σ, x1, x2, x3, x4, hf => fX11_cheapest_b13_ok C  (fX11_cheapest_h13  n) (fX11_cheapest_h13_ok C  n) σ x1 x2 x3 x4 hf
def fX11_cheapest (σ : S0) (x1 : Int32) (x2 : Int32) : Option (Int32 × S0) := ol (su σ 98 33 ((-4))) (fun σ1 => fX11_cheapest_h13 400 σ1 x1 x2 99999 0)
set_option maxHeartbeats 1000000 in
set_option maxRecDepth 100000 in
theorem fX11_cheapest_ok {p : Program} {l : Launch} {e : Env} {s : State} {m : MethodId} {args : Array Value} {below : List Frame} {meth : Method} {c : Code} {dC : Nat → ClassId} {dI : Nat → Nat → Nat} {ad : Nat → Nat} {cy : Nat → ClassId} {sz : Nat} (C : Cx p s m args meth c RX11 cX11_cheapest 5 (some .int) dC dI ad cy sz) {rr : Int32} {ρ : S0} (σ : S0) (x1 : Int32) (x2 : Int32)  (hf : fX11_cheapest σ x1 x2 = some (rr, ρ)) : Gw p l e rm_X11_cheapest s m args below meth c (MQ below (QcI dC dI ad cy sz rr ρ) args s 0 0 (AW ad sz)) dC dI ad cy 5 sz 0 0 0 [(0, .ref (ad 98)), (1, .int x1), (2, .int x2)] [] σ := by
  unfold fX11_cheapest at hf
  refine g_ldcw (v := 99999) C dX11_cheapest_0 hK_X11_262 ?_
  refine g_istore_n (lv2 := [(0, .ref (ad 98)), (1, .int x1), (2, .int x2), (3, .int 99999)]) C dX11_cheapest_3 rfl (by decide) [1, 2, 3, 0] rfl ?_
  refine g_aload_n C dX11_cheapest_4 rfl 0 rfl ?_
  refine g_bipush (v := (-4)) C dX11_cheapest_5 (by decide) ?_
  obtain ⟨σ1, eσ1, hf⟩ := ol_e hf
  refine g_put (ty := .int) C (a_98 ad cy _) rfl hin_X11 tyX11 tyX11_ok nmX11 33 (by decide) hF_X11_263 rfl rfl (by decide +kernel) rfl rfl (Nat.le_of_ble_eq_true rfl) (p_98_33 ad cy _ _) eσ1 dX11_cheapest_7 ?_
  refine g_iconst (v := 0) C dX11_cheapest_10 (by decide) ?_
  refine g_istore (lv2 := [(0, .ref (ad 98)), (1, .int x1), (2, .int x2), (3, .int 99999), (4, .int 0)]) C dX11_cheapest_11 (by decide) [1, 2, 3, 4, 0] rfl ?_
  exact g_sub [0, 1, 2, 3, 4] rfl (fX11_cheapest_h13_ok C 400 σ1 x1 x2 99999 0 hf)
theorem c_X11_cheapest (l : Launch) (dC : Nat → ClassId) (dI : Nat → Nat → Nat) (ad : Nat → Nat) (cy : Nat → ClassId) (x1 : Int32) (x2 : Int32) : ConI l yX11_cheapest cX11_cheapest 5 (some .int) rm_X11_cheapest dC dI ad cy [.ref (ad 98), .int x1, .int x2] (fun σ => fX11_cheapest σ x1 x2) := con_i (own := RX11) (by decide) rfl (Nat.le_of_ble_eq_true rfl) (fun _ _ _ _ _ _ _ _ σ _ _ C hf => fX11_cheapest_ok C σ x1 x2 hf)
theorem cal_X11_cheapest : CalV yX11_cheapest RX11 cX11_cheapest 5 (some .int) 2 := ⟨hI_X11_cheapest, hS_X11_cheapest, hIni_X11, hC_X11_cheapest, by decide +kernel⟩
abbrev rm_X11_feast : Room := { frames := 4, cells := 0, slots := 0, locals := 95 }
def fX11_feast (σ : S0) (x1 : Int32) (x2 : Int32) : Option (Int32 × S0) := obp (fX11_in σ x1.toInt64 ((1 : Int64)) ((6 : Int64))) (fun r1 σ2 => if r1 = 0 then (some ((-1), σ2)) else (obp (fX11_in σ2 x2.toInt64 ((0 : Int64)) ((1 : Int64))) (fun r5 σ6 => if ¬ r5 = 0 then (obp (fX11_cheapest σ6 x1 ((99999 : Int32))) (fun r9 σ10 => if ¬ (σ10 98 33) = ((-4)) then (if ¬ x2 = 0 then (some (σ10 98 33, σ10)) else (some (r9, σ10))) else (some ((-4), σ10)))) else (some ((-1), σ6)))))
set_option maxHeartbeats 1000000 in
set_option maxRecDepth 100000 in
theorem fX11_feast_ok {p : Program} {l : Launch} {e : Env} {s : State} {m : MethodId} {args : Array Value} {below : List Frame} {meth : Method} {c : Code} {dC : Nat → ClassId} {dI : Nat → Nat → Nat} {ad : Nat → Nat} {cy : Nat → ClassId} {sz : Nat} (C : Cx p s m args meth c RX11 cX11_feast 4 (some .int) dC dI ad cy sz) {rr : Int32} {ρ : S0} (σ : S0) (x1 : Int32) (x2 : Int32)  (hf : fX11_feast σ x1 x2 = some (rr, ρ)) : Gw p l e rm_X11_feast s m args below meth c (MQ below (QcI dC dI ad cy sz rr ρ) args s 0 0 (AW ad sz)) dC dI ad cy 4 sz 0 0 0 [(0, .ref (ad 98)), (1, .int x1), (2, .int x2)] [] σ := by
  unfold fX11_feast at hf
  refine g_iload_n C dX11_feast_0 rfl 1 rfl ?_
  refine g_i2l C dX11_feast_1 ?_
  refine g_lconst (v := 1) C dX11_feast_2 (by decide) ?_
  refine g_ldc2 (v := 6) C dX11_feast_3 hK_X11_272 ?_
  obtain ⟨r1, σ2, h3, hf⟩ := obp_e hf
  refine g_callSi (As := [.long x1.toInt64, .long 1, .long 6]) (rest := []) C (c_X11_in l dC dI ad cy x1.toInt64 ((1 : Int64)) ((6 : Int64))) h3 hM_X11_92 cal_X11_in ⟨Nat.zero_le _, Nat.zero_le _⟩ ⟨rfl, rfl⟩ ⟨Nat.le_of_ble_eq_true rfl, Nat.le_of_ble_eq_true rfl⟩ rfl rfl (Nat.le_of_ble_eq_true rfl) dX11_feast_6 ?_
  rcases oi_e hf with ⟨c4, hf⟩ | ⟨c4, hf⟩
  · refine g_if_eq_t (tgt := 22) C dX11_feast_9 (by decide) c4 ?_
    refine g_iconst (v := (-1)) C dX11_feast_22 (by decide) ?_
    obtain ⟨rfl, rfl⟩ := os_e hf
    exact g_iret C rfl dX11_feast_23
  · refine g_if_eq_f (tgt := 22) C dX11_feast_9 (by decide) c4 ?_
    refine g_iload_n C dX11_feast_12 rfl 2 rfl ?_
    refine g_i2l C dX11_feast_13 ?_
    refine g_lconst (v := 0) C dX11_feast_14 (by decide) ?_
    refine g_lconst (v := 1) C dX11_feast_15 (by decide) ?_
    obtain ⟨r5, σ6, h7, hf⟩ := obp_e hf
    refine g_callSi (As := [.long x2.toInt64, .long 0, .long 1]) (rest := []) C (c_X11_in l dC dI ad cy x2.toInt64 ((0 : Int64)) ((1 : Int64))) h7 hM_X11_92 cal_X11_in ⟨Nat.zero_le _, Nat.zero_le _⟩ ⟨rfl, rfl⟩ ⟨Nat.le_of_ble_eq_true rfl, Nat.le_of_ble_eq_true rfl⟩ rfl rfl (Nat.le_of_ble_eq_true rfl) dX11_feast_16 ?_
    rcases oi_e hf with ⟨c8, hf⟩ | ⟨c8, hf⟩
    · refine g_if_ne_t (tgt := 24) C dX11_feast_19 (by decide) c8 ?_
      refine g_aload_n C dX11_feast_24 rfl 0 rfl ?_
      refine g_iload_n C dX11_feast_25 rfl 1 rfl ?_
      refine g_ldcw (v := 99999) C dX11_feast_26 hK_X11_262 ?_
      obtain ⟨r9, σ10, h11, hf⟩ := obp_e hf
      refine g_callVi (As := [.int x1, .int 99999]) (rest := []) C (a_98 ad cy _) rfl (c_X11_cheapest l dC dI ad cy x1 ((99999 : Int32))) h11 hM_X11_274 cal_X11_cheapest ⟨Nat.zero_le _, Nat.zero_le _⟩ ⟨rfl, rfl⟩ ⟨Nat.le_of_ble_eq_true rfl, Nat.le_of_ble_eq_true rfl⟩ rfl rfl (Nat.le_of_ble_eq_true rfl) dX11_feast_29 ?_
      refine g_istore_n (lv2 := [(0, .ref (ad 98)), (1, .int x1), (2, .int x2), (3, .int r9)]) C dX11_feast_32 rfl (by decide) [1, 2, 3, 0] rfl ?_
      refine g_aload_n C dX11_feast_33 rfl 0 rfl ?_
      refine g_get C (a_98 ad cy _) rfl hin_X11 33 (by decide) hF_X11_263 rfl rfl dX11_feast_34 ?_
      refine g_bipush (v := (-4)) C dX11_feast_37 (by decide) ?_
      rcases oi_e hf with ⟨c12, hf⟩ | ⟨c12, hf⟩
      · refine g_icmp_ne_t (tgt := 47) C dX11_feast_39 (by decide) c12 ?_
        refine g_iload_n C dX11_feast_47 rfl 2 rfl ?_
        rcases oi_e hf with ⟨c13, hf⟩ | ⟨c13, hf⟩
        · refine g_if_ne_t (tgt := 55) C dX11_feast_48 (by decide) c13 ?_
          refine g_aload_n C dX11_feast_55 rfl 0 rfl ?_
          refine g_get C (a_98 ad cy _) rfl hin_X11 33 (by decide) hF_X11_263 rfl rfl dX11_feast_56 ?_
          obtain ⟨rfl, rfl⟩ := os_e hf
          exact g_iret C rfl dX11_feast_59
        · refine g_if_ne_f (tgt := 55) C dX11_feast_48 (by decide) (Decidable.of_not_not c13) ?_
          refine g_iload_n C dX11_feast_51 rfl 3 rfl ?_
          refine g_goto (tgt := 59) C dX11_feast_52 (by decide) ?_
          obtain ⟨rfl, rfl⟩ := os_e hf
          exact g_iret C rfl dX11_feast_59
      · refine g_icmp_ne_f (tgt := 47) C dX11_feast_39 (by decide) (Decidable.of_not_not c12) ?_
        refine g_bipush (v := (-4)) C dX11_feast_42 (by decide) ?_
        refine g_goto (tgt := 59) C dX11_feast_44 (by decide) ?_
        obtain ⟨rfl, rfl⟩ := os_e hf
        exact g_iret C rfl dX11_feast_59
    · refine g_if_ne_f (tgt := 24) C dX11_feast_19 (by decide) (Decidable.of_not_not c8) ?_
      refine g_iconst (v := (-1)) C dX11_feast_22 (by decide) ?_
      obtain ⟨rfl, rfl⟩ := os_e hf
      exact g_iret C rfl dX11_feast_23
theorem c_X11_feast (l : Launch) (dC : Nat → ClassId) (dI : Nat → Nat → Nat) (ad : Nat → Nat) (cy : Nat → ClassId) (x1 : Int32) (x2 : Int32) : ConI l yX11_feast cX11_feast 4 (some .int) rm_X11_feast dC dI ad cy [.ref (ad 98), .int x1, .int x2] (fun σ => fX11_feast σ x1 x2) := con_i (own := RX11) (by decide) rfl (Nat.le_of_ble_eq_true rfl) (fun _ _ _ _ _ _ _ _ σ _ _ C hf => fX11_feast_ok C σ x1 x2 hf)
theorem cal_X11_feast : CalV yX11_feast RX11 cX11_feast 4 (some .int) 2 := ⟨hI_X11_feast, hS_X11_feast, hIni_X11, hC_X11_feast, by decide +kernel⟩
abbrev rm_X11_fair : Room := { frames := 4, cells := 0, slots := 0, locals := 95 }
def fX11_fair (σ : S0) (x1 : Int32) (x2 : Int32) (x3 : Int32) : Option (Int32 × S0) := obp (fX11_in σ x1.toInt64 ((1 : Int64)) ((6 : Int64))) (fun r1 σ2 => if r1 = 0 then (some ((-1), σ2)) else (obp (fX11_in σ2 x2.toInt64 ((0 : Int64)) ((72 : Int64))) (fun r5 σ6 => if r5 = 0 then (some ((-1), σ6)) else (obp (fX11_in σ6 x3.toInt64 ((0 : Int64)) ((1 : Int64))) (fun r9 σ10 => if ¬ r9 = 0 then (obp (fX11_cheapest σ10 x1 x2) (fun r13 σ14 => if ¬ (σ14 98 33) = ((-4)) then (if ¬ x3 = 0 then (some (σ14 98 33, σ14)) else (some (r13, σ14))) else (some ((-4), σ14)))) else (some ((-1), σ10)))))))
set_option maxHeartbeats 1000000 in
set_option maxRecDepth 100000 in
theorem fX11_fair_ok {p : Program} {l : Launch} {e : Env} {s : State} {m : MethodId} {args : Array Value} {below : List Frame} {meth : Method} {c : Code} {dC : Nat → ClassId} {dI : Nat → Nat → Nat} {ad : Nat → Nat} {cy : Nat → ClassId} {sz : Nat} (C : Cx p s m args meth c RX11 cX11_fair 5 (some .int) dC dI ad cy sz) {rr : Int32} {ρ : S0} (σ : S0) (x1 : Int32) (x2 : Int32) (x3 : Int32)  (hf : fX11_fair σ x1 x2 x3 = some (rr, ρ)) : Gw p l e rm_X11_fair s m args below meth c (MQ below (QcI dC dI ad cy sz rr ρ) args s 0 0 (AW ad sz)) dC dI ad cy 5 sz 0 0 0 [(0, .ref (ad 98)), (1, .int x1), (2, .int x2), (3, .int x3)] [] σ := by
  unfold fX11_fair at hf
  refine g_iload_n C dX11_fair_0 rfl 1 rfl ?_
  refine g_i2l C dX11_fair_1 ?_
  refine g_lconst (v := 1) C dX11_fair_2 (by decide) ?_
  refine g_ldc2 (v := 6) C dX11_fair_3 hK_X11_272 ?_
  obtain ⟨r1, σ2, h3, hf⟩ := obp_e hf
  refine g_callSi (As := [.long x1.toInt64, .long 1, .long 6]) (rest := []) C (c_X11_in l dC dI ad cy x1.toInt64 ((1 : Int64)) ((6 : Int64))) h3 hM_X11_92 cal_X11_in ⟨Nat.zero_le _, Nat.zero_le _⟩ ⟨rfl, rfl⟩ ⟨Nat.le_of_ble_eq_true rfl, Nat.le_of_ble_eq_true rfl⟩ rfl rfl (Nat.le_of_ble_eq_true rfl) dX11_fair_6 ?_
  rcases oi_e hf with ⟨c4, hf⟩ | ⟨c4, hf⟩
  · refine g_if_eq_t (tgt := 34) C dX11_fair_9 (by decide) c4 ?_
    refine g_iconst (v := (-1)) C dX11_fair_34 (by decide) ?_
    obtain ⟨rfl, rfl⟩ := os_e hf
    exact g_iret C rfl dX11_fair_35
  · refine g_if_eq_f (tgt := 34) C dX11_fair_9 (by decide) c4 ?_
    refine g_iload_n C dX11_fair_12 rfl 2 rfl ?_
    refine g_i2l C dX11_fair_13 ?_
    refine g_lconst (v := 0) C dX11_fair_14 (by decide) ?_
    refine g_ldc2 (v := 72) C dX11_fair_15 hK_X11_277 ?_
    obtain ⟨r5, σ6, h7, hf⟩ := obp_e hf
    refine g_callSi (As := [.long x2.toInt64, .long 0, .long 72]) (rest := []) C (c_X11_in l dC dI ad cy x2.toInt64 ((0 : Int64)) ((72 : Int64))) h7 hM_X11_92 cal_X11_in ⟨Nat.zero_le _, Nat.zero_le _⟩ ⟨rfl, rfl⟩ ⟨Nat.le_of_ble_eq_true rfl, Nat.le_of_ble_eq_true rfl⟩ rfl rfl (Nat.le_of_ble_eq_true rfl) dX11_fair_18 ?_
    rcases oi_e hf with ⟨c8, hf⟩ | ⟨c8, hf⟩
    · refine g_if_eq_t (tgt := 34) C dX11_fair_21 (by decide) c8 ?_
      refine g_iconst (v := (-1)) C dX11_fair_34 (by decide) ?_
      obtain ⟨rfl, rfl⟩ := os_e hf
      exact g_iret C rfl dX11_fair_35
    · refine g_if_eq_f (tgt := 34) C dX11_fair_21 (by decide) c8 ?_
      refine g_iload_n C dX11_fair_24 rfl 3 rfl ?_
      refine g_i2l C dX11_fair_25 ?_
      refine g_lconst (v := 0) C dX11_fair_26 (by decide) ?_
      refine g_lconst (v := 1) C dX11_fair_27 (by decide) ?_
      obtain ⟨r9, σ10, h11, hf⟩ := obp_e hf
      refine g_callSi (As := [.long x3.toInt64, .long 0, .long 1]) (rest := []) C (c_X11_in l dC dI ad cy x3.toInt64 ((0 : Int64)) ((1 : Int64))) h11 hM_X11_92 cal_X11_in ⟨Nat.zero_le _, Nat.zero_le _⟩ ⟨rfl, rfl⟩ ⟨Nat.le_of_ble_eq_true rfl, Nat.le_of_ble_eq_true rfl⟩ rfl rfl (Nat.le_of_ble_eq_true rfl) dX11_fair_28 ?_
      rcases oi_e hf with ⟨c12, hf⟩ | ⟨c12, hf⟩
      · refine g_if_ne_t (tgt := 36) C dX11_fair_31 (by decide) c12 ?_
        refine g_aload_n C dX11_fair_36 rfl 0 rfl ?_
        refine g_iload_n C dX11_fair_37 rfl 1 rfl ?_
        refine g_iload_n C dX11_fair_38 rfl 2 rfl ?_
        obtain ⟨r13, σ14, h15, hf⟩ := obp_e hf
        refine g_callVi (As := [.int x1, .int x2]) (rest := []) C (a_98 ad cy _) rfl (c_X11_cheapest l dC dI ad cy x1 x2) h15 hM_X11_274 cal_X11_cheapest ⟨Nat.zero_le _, Nat.zero_le _⟩ ⟨rfl, rfl⟩ ⟨Nat.le_of_ble_eq_true rfl, Nat.le_of_ble_eq_true rfl⟩ rfl rfl (Nat.le_of_ble_eq_true rfl) dX11_fair_39 ?_
        refine g_istore (lv2 := [(0, .ref (ad 98)), (1, .int x1), (2, .int x2), (3, .int x3), (4, .int r13)]) C dX11_fair_42 (by decide) [1, 2, 3, 4, 0] rfl ?_
        refine g_aload_n C dX11_fair_44 rfl 0 rfl ?_
        refine g_get C (a_98 ad cy _) rfl hin_X11 33 (by decide) hF_X11_263 rfl rfl dX11_fair_45 ?_
        refine g_bipush (v := (-4)) C dX11_fair_48 (by decide) ?_
        rcases oi_e hf with ⟨c16, hf⟩ | ⟨c16, hf⟩
        · refine g_icmp_ne_t (tgt := 58) C dX11_fair_50 (by decide) c16 ?_
          refine g_iload_n C dX11_fair_58 rfl 3 rfl ?_
          rcases oi_e hf with ⟨c17, hf⟩ | ⟨c17, hf⟩
          · refine g_if_ne_t (tgt := 67) C dX11_fair_59 (by decide) c17 ?_
            refine g_aload_n C dX11_fair_67 rfl 0 rfl ?_
            refine g_get C (a_98 ad cy _) rfl hin_X11 33 (by decide) hF_X11_263 rfl rfl dX11_fair_68 ?_
            obtain ⟨rfl, rfl⟩ := os_e hf
            exact g_iret C rfl dX11_fair_71
          · refine g_if_ne_f (tgt := 67) C dX11_fair_59 (by decide) (Decidable.of_not_not c17) ?_
            refine g_iload C dX11_fair_62 4 rfl ?_
            refine g_goto (tgt := 71) C dX11_fair_64 (by decide) ?_
            obtain ⟨rfl, rfl⟩ := os_e hf
            exact g_iret C rfl dX11_fair_71
        · refine g_icmp_ne_f (tgt := 58) C dX11_fair_50 (by decide) (Decidable.of_not_not c16) ?_
          refine g_bipush (v := (-4)) C dX11_fair_53 (by decide) ?_
          refine g_goto (tgt := 71) C dX11_fair_55 (by decide) ?_
          obtain ⟨rfl, rfl⟩ := os_e hf
          exact g_iret C rfl dX11_fair_71
      · refine g_if_ne_f (tgt := 36) C dX11_fair_31 (by decide) (Decidable.of_not_not c12) ?_
        refine g_iconst (v := (-1)) C dX11_fair_34 (by decide) ?_
        obtain ⟨rfl, rfl⟩ := os_e hf
        exact g_iret C rfl dX11_fair_35
theorem c_X11_fair (l : Launch) (dC : Nat → ClassId) (dI : Nat → Nat → Nat) (ad : Nat → Nat) (cy : Nat → ClassId) (x1 : Int32) (x2 : Int32) (x3 : Int32) : ConI l yX11_fair cX11_fair 5 (some .int) rm_X11_fair dC dI ad cy [.ref (ad 98), .int x1, .int x2, .int x3] (fun σ => fX11_fair σ x1 x2 x3) := con_i (own := RX11) (by decide) rfl (Nat.le_of_ble_eq_true rfl) (fun _ _ _ _ _ _ _ _ σ _ _ C hf => fX11_fair_ok C σ x1 x2 x3 hf)
theorem cal_X11_fair : CalV yX11_fair RX11 cX11_fair 5 (some .int) 3 := ⟨hI_X11_fair, hS_X11_fair, hIni_X11, hC_X11_fair, by decide +kernel⟩
abbrev rm_X11_canFollow : Room := { frames := 1, cells := 0, slots := 0, locals := 22 }
def fX11_canFollow (σ : S0) (x1 : Int32) (x2 : Int32) : Option (Int32 × S0) := obp (fX11_of σ x1 ((0 : Int32))) (fun r1 σ2 => obp (fX11_of σ2 x2 ((0 : Int32))) (fun r4 σ5 => obp (fX11_isFeud σ5 r1 r4) (fun r7 σ8 => if ¬ r7 = 0 then (some (0, σ8)) else (some (1, σ8)))))
set_option maxHeartbeats 1000000 in
set_option maxRecDepth 100000 in
theorem fX11_canFollow_ok {p : Program} {l : Launch} {e : Env} {s : State} {m : MethodId} {args : Array Value} {below : List Frame} {meth : Method} {c : Code} {dC : Nat → ClassId} {dI : Nat → Nat → Nat} {ad : Nat → Nat} {cy : Nat → ClassId} {sz : Nat} (C : Cx p s m args meth c RX11 cX11_canFollow 3 (some .boolean) dC dI ad cy sz) {rr : Int32} {ρ : S0} (σ : S0) (x1 : Int32) (x2 : Int32)  (hf : fX11_canFollow σ x1 x2 = some (rr, ρ)) : Gw p l e rm_X11_canFollow s m args below meth c (MQ below (QcI dC dI ad cy sz rr ρ) args s 0 0 (AW ad sz)) dC dI ad cy 3 sz 0 0 0 [(0, .ref (ad 98)), (1, .int x1), (2, .int x2)] [] σ := by
  unfold fX11_canFollow at hf
  refine g_aload_n C dX11_canFollow_0 rfl 0 rfl ?_
  refine g_aload_n C dX11_canFollow_1 rfl 0 rfl ?_
  refine g_iload_n C dX11_canFollow_2 rfl 1 rfl ?_
  refine g_iconst (v := 0) C dX11_canFollow_3 (by decide) ?_
  obtain ⟨r1, σ2, h3, hf⟩ := obp_e hf
  refine g_callVi (As := [.int x1, .int 0]) (rest := [.ref (ad 98)]) C (a_98 ad cy _) rfl (c_X11_of l dC dI ad cy x1 ((0 : Int32))) h3 hM_X11_172 cal_X11_of ⟨Nat.zero_le _, Nat.zero_le _⟩ ⟨rfl, rfl⟩ ⟨Nat.le_of_ble_eq_true rfl, Nat.le_of_ble_eq_true rfl⟩ rfl rfl (Nat.le_of_ble_eq_true rfl) dX11_canFollow_4 ?_
  refine g_aload_n C dX11_canFollow_7 rfl 0 rfl ?_
  refine g_iload_n C dX11_canFollow_8 rfl 2 rfl ?_
  refine g_iconst (v := 0) C dX11_canFollow_9 (by decide) ?_
  obtain ⟨r4, σ5, h6, hf⟩ := obp_e hf
  refine g_callVi (As := [.int x2, .int 0]) (rest := [.int r1, .ref (ad 98)]) C (a_98 ad cy _) rfl (c_X11_of l dC dI ad cy x2 ((0 : Int32))) h6 hM_X11_172 cal_X11_of ⟨Nat.zero_le _, Nat.zero_le _⟩ ⟨rfl, rfl⟩ ⟨Nat.le_of_ble_eq_true rfl, Nat.le_of_ble_eq_true rfl⟩ rfl rfl (Nat.le_of_ble_eq_true rfl) dX11_canFollow_10 ?_
  obtain ⟨r7, σ8, h9, hf⟩ := obp_e hf
  refine g_callVi (As := [.int r1, .int r4]) (rest := []) C (a_98 ad cy _) rfl (c_X11_isFeud l dC dI ad cy r1 r4) h9 hM_X11_195 cal_X11_isFeud ⟨Nat.zero_le _, Nat.zero_le _⟩ ⟨rfl, rfl⟩ ⟨Nat.le_of_ble_eq_true rfl, Nat.le_of_ble_eq_true rfl⟩ rfl rfl (Nat.le_of_ble_eq_true rfl) dX11_canFollow_13 ?_
  rcases oi_e hf with ⟨c10, hf⟩ | ⟨c10, hf⟩
  · refine g_if_ne_t (tgt := 23) C dX11_canFollow_16 (by decide) c10 ?_
    refine g_iconst (v := 0) C dX11_canFollow_23 (by decide) ?_
    obtain ⟨rfl, rfl⟩ := os_e hf
    exact g_zret C rfl (by decide) dX11_canFollow_24
  · refine g_if_ne_f (tgt := 23) C dX11_canFollow_16 (by decide) (Decidable.of_not_not c10) ?_
    refine g_iconst (v := 1) C dX11_canFollow_19 (by decide) ?_
    refine g_goto (tgt := 24) C dX11_canFollow_20 (by decide) ?_
    obtain ⟨rfl, rfl⟩ := os_e hf
    exact g_zret C rfl (by decide) dX11_canFollow_24
theorem c_X11_canFollow (l : Launch) (dC : Nat → ClassId) (dI : Nat → Nat → Nat) (ad : Nat → Nat) (cy : Nat → ClassId) (x1 : Int32) (x2 : Int32) : ConI l yX11_canFollow cX11_canFollow 3 (some .boolean) rm_X11_canFollow dC dI ad cy [.ref (ad 98), .int x1, .int x2] (fun σ => fX11_canFollow σ x1 x2) := con_i (own := RX11) (by decide) rfl (Nat.le_of_ble_eq_true rfl) (fun _ _ _ _ _ _ _ _ σ _ _ C hf => fX11_canFollow_ok C σ x1 x2 hf)
theorem cal_X11_canFollow : CalV yX11_canFollow RX11 cX11_canFollow 3 (some .boolean) 2 := ⟨hI_X11_canFollow, hS_X11_canFollow, hIni_X11, hC_X11_canFollow, by decide +kernel⟩
abbrev rm_X11_restOf : Room := { frames := 2, cells := 0, slots := 0, locals := 44 }
def fX11_restOf_b65 (sf_7 : S0 → Int32 → Int32 → Int32 → Int32 → Option (Int32 × S0)) (σ : S0) (x1 : Int32) (x2 : Int32) (x3 : Int32) (x4 : Int32) : Option (Int32 × S0) := ol (x4 + 1) (fun v1 => sf_7 σ x1 x2 x3 v1)
set_option maxHeartbeats 1000000 in
set_option maxRecDepth 100000 in
theorem fX11_restOf_b65_ok {p : Program} {l : Launch} {e : Env} {s : State} {m : MethodId} {args : Array Value} {below : List Frame} {meth : Method} {c : Code} {dC : Nat → ClassId} {dI : Nat → Nat → Nat} {ad : Nat → Nat} {cy : Nat → ClassId} {sz : Nat} (C : Cx p s m args meth c RX11 cX11_restOf 5 (some .int) dC dI ad cy sz) {rr : Int32} {ρ : S0} (sf_7 : S0 → Int32 → Int32 → Int32 → Int32 → Option (Int32 × S0)) (hs_7 : ∀ (σ : S0) (x1 : Int32) (x2 : Int32) (x3 : Int32) (x4 : Int32) , sf_7 σ x1 x2 x3 x4 = some (rr, ρ) → Gw p l e rm_X11_restOf s m args below meth c (MQ below (QcI dC dI ad cy sz rr ρ) args s 0 0 (AW ad sz)) dC dI ad cy 5 sz 0 0 7 [(0, .ref (ad 98)), (1, .int x1), (2, .int x2), (3, .int x3), (4, .int x4)] [] σ) (σ : S0) (x1 : Int32) (x2 : Int32) (x3 : Int32) (x4 : Int32)  (hf : fX11_restOf_b65 sf_7 σ x1 x2 x3 x4 = some (rr, ρ)) : Gw p l e rm_X11_restOf s m args below meth c (MQ below (QcI dC dI ad cy sz rr ρ) args s 0 0 (AW ad sz)) dC dI ad cy 5 sz 0 0 65 [(0, .ref (ad 98)), (1, .int x1), (2, .int x2), (3, .int x3), (4, .int x4)] [] σ := by
  unfold fX11_restOf_b65 at hf
  obtain ⟨v1, ev1, hf⟩ := ol_e hf
  refine g_iinc (j := 4) (w := 1) (lv2 := [(0, .ref (ad 98)), (1, .int x1), (2, .int x2), (3, .int x3), (4, .int v1)]) C dX11_restOf_65 rfl (by decide) ev1 (by decide) [1, 2, 3, 4, 0] rfl ?_
  refine g_goto (tgt := 7) C dX11_restOf_68 (by decide) ?_
  exact g_sub [0, 1, 2, 3, 4] rfl (hs_7 σ x1 x2 x3 v1 hf)
def fX11_restOf_b64 (sf_7 : S0 → Int32 → Int32 → Int32 → Int32 → Option (Int32 × S0)) (σ : S0) (x1 : Int32) (x2 : Int32) (x4 : Int32) (t0 : Int32) : Option (Int32 × S0) := fX11_restOf_b65 sf_7 σ x1 x2 t0 x4
set_option maxHeartbeats 1000000 in
set_option maxRecDepth 100000 in
theorem fX11_restOf_b64_ok {p : Program} {l : Launch} {e : Env} {s : State} {m : MethodId} {args : Array Value} {below : List Frame} {meth : Method} {c : Code} {dC : Nat → ClassId} {dI : Nat → Nat → Nat} {ad : Nat → Nat} {cy : Nat → ClassId} {sz : Nat} (C : Cx p s m args meth c RX11 cX11_restOf 5 (some .int) dC dI ad cy sz) {rr : Int32} {ρ : S0} (sf_7 : S0 → Int32 → Int32 → Int32 → Int32 → Option (Int32 × S0)) (hs_7 : ∀ (σ : S0) (x1 : Int32) (x2 : Int32) (x3 : Int32) (x4 : Int32) , sf_7 σ x1 x2 x3 x4 = some (rr, ρ) → Gw p l e rm_X11_restOf s m args below meth c (MQ below (QcI dC dI ad cy sz rr ρ) args s 0 0 (AW ad sz)) dC dI ad cy 5 sz 0 0 7 [(0, .ref (ad 98)), (1, .int x1), (2, .int x2), (3, .int x3), (4, .int x4)] [] σ) (σ : S0) (x1 : Int32) (x2 : Int32) (x4 : Int32) (t0 : Int32)  (hf : fX11_restOf_b64 sf_7 σ x1 x2 x4 t0 = some (rr, ρ)) : Gw p l e rm_X11_restOf s m args below meth c (MQ below (QcI dC dI ad cy sz rr ρ) args s 0 0 (AW ad sz)) dC dI ad cy 5 sz 0 0 64 [(0, .ref (ad 98)), (1, .int x1), (2, .int x2), (4, .int x4)] [.int t0] σ := by
  unfold fX11_restOf_b64 at hf
  refine g_istore_n (lv2 := [(0, .ref (ad 98)), (1, .int x1), (2, .int x2), (3, .int t0), (4, .int x4)]) C dX11_restOf_64 rfl (by decide) [1, 2, 3, 0, 4] rfl ?_
  exact g_sub [0, 1, 2, 3, 4] rfl (fX11_restOf_b65_ok C sf_7 hs_7 σ x1 x2 t0 x4 hf)
def fX11_restOf_b32 (sf_7 : S0 → Int32 → Int32 → Int32 → Int32 → Option (Int32 × S0)) (σ : S0) (x1 : Int32) (x2 : Int32) (x3 : Int32) (x4 : Int32) : Option (Int32 × S0) := ol ((12 * x1) + x4) (fun v1 => og (¬ (v1 < 0 ∨ 156 ≤ v1.toNatClampNeg)) (ol (σ 107 v1.toNatClampNeg) (fun v3 => if x3 ≤ v3 then (fX11_restOf_b64 sf_7 σ x1 x2 x4 x3) else (ol ((12 * x1) + x4) (fun v5 => og (¬ (v5 < 0 ∨ 156 ≤ v5.toNatClampNeg)) (ol (σ 107 v5.toNatClampNeg) (fun v7 => fX11_restOf_b64 sf_7 σ x1 x2 x4 v7)))))))
set_option maxHeartbeats 1000000 in
set_option maxRecDepth 100000 in
theorem fX11_restOf_b32_ok {p : Program} {l : Launch} {e : Env} {s : State} {m : MethodId} {args : Array Value} {below : List Frame} {meth : Method} {c : Code} {dC : Nat → ClassId} {dI : Nat → Nat → Nat} {ad : Nat → Nat} {cy : Nat → ClassId} {sz : Nat} (C : Cx p s m args meth c RX11 cX11_restOf 5 (some .int) dC dI ad cy sz) {rr : Int32} {ρ : S0} (sf_7 : S0 → Int32 → Int32 → Int32 → Int32 → Option (Int32 × S0)) (hs_7 : ∀ (σ : S0) (x1 : Int32) (x2 : Int32) (x3 : Int32) (x4 : Int32) , sf_7 σ x1 x2 x3 x4 = some (rr, ρ) → Gw p l e rm_X11_restOf s m args below meth c (MQ below (QcI dC dI ad cy sz rr ρ) args s 0 0 (AW ad sz)) dC dI ad cy 5 sz 0 0 7 [(0, .ref (ad 98)), (1, .int x1), (2, .int x2), (3, .int x3), (4, .int x4)] [] σ) (σ : S0) (x1 : Int32) (x2 : Int32) (x3 : Int32) (x4 : Int32)  (hf : fX11_restOf_b32 sf_7 σ x1 x2 x3 x4 = some (rr, ρ)) : Gw p l e rm_X11_restOf s m args below meth c (MQ below (QcI dC dI ad cy sz rr ρ) args s 0 0 (AW ad sz)) dC dI ad cy 5 sz 0 0 32 [(0, .ref (ad 98)), (1, .int x1), (2, .int x2), (3, .int x3), (4, .int x4)] [] σ := by
  unfold fX11_restOf_b32 at hf
  refine g_aload_n C dX11_restOf_32 rfl 0 rfl ?_
  refine g_get C (a_98 ad cy _) rfl hin_X11 34 (by decide) hF_X11_35 rfl rfl dX11_restOf_33 ?_
  refine g_bipush (v := 12) C dX11_restOf_36 (by decide) ?_
  refine g_iload_n C dX11_restOf_38 rfl 1 rfl ?_
  refine g_imul C dX11_restOf_39 ?_
  refine g_iload C dX11_restOf_40 4 rfl ?_
  refine g_iadd C dX11_restOf_42 ?_
  obtain ⟨v1, ev1, hf⟩ := ol_e hf
  refine g_nm ev1 ?_
  obtain ⟨h2, hf⟩ := og_e hf
  refine g_iald C (a_107 ad cy _) h2 dX11_restOf_43 ?_
  obtain ⟨v3, ev3, hf⟩ := ol_e hf
  refine g_nm ev3 ?_
  refine g_iload_n C dX11_restOf_44 rfl 3 rfl ?_
  rcases oi_e hf with ⟨c4, hf⟩ | ⟨c4, hf⟩
  · refine g_icmp_ge_t (tgt := 63) C dX11_restOf_45 (by decide) c4 ?_
    refine g_iload_n C dX11_restOf_63 rfl 3 rfl ?_
    exact g_sub [0, 1, 2, 4] rfl (fX11_restOf_b64_ok C sf_7 hs_7 σ x1 x2 x4 x3 hf)
  · refine g_icmp_ge_f (tgt := 63) C dX11_restOf_45 (by decide) c4 ?_
    refine g_aload_n C dX11_restOf_48 rfl 0 rfl ?_
    refine g_get C (a_98 ad cy _) rfl hin_X11 34 (by decide) hF_X11_35 rfl rfl dX11_restOf_49 ?_
    refine g_bipush (v := 12) C dX11_restOf_52 (by decide) ?_
    refine g_iload_n C dX11_restOf_54 rfl 1 rfl ?_
    refine g_imul C dX11_restOf_55 ?_
    refine g_iload C dX11_restOf_56 4 rfl ?_
    refine g_iadd C dX11_restOf_58 ?_
    obtain ⟨v5, ev5, hf⟩ := ol_e hf
    refine g_nm ev5 ?_
    obtain ⟨h6, hf⟩ := og_e hf
    refine g_iald C (a_107 ad cy _) h6 dX11_restOf_59 ?_
    obtain ⟨v7, ev7, hf⟩ := ol_e hf
    refine g_nm ev7 ?_
    refine g_goto (tgt := 64) C dX11_restOf_60 (by decide) ?_
    exact g_sub [0, 1, 2, 4] rfl (fX11_restOf_b64_ok C sf_7 hs_7 σ x1 x2 x4 v7 hf)
def fX11_restOf_b7 (sf_7 : S0 → Int32 → Int32 → Int32 → Int32 → Option (Int32 × S0)) (σ : S0) (x1 : Int32) (x2 : Int32) (x3 : Int32) (x4 : Int32) : Option (Int32 × S0) := if (σ 98 4) ≤ x4 then (some (x3, σ)) else (if x2 = ((-4)) then (fX11_restOf_b32 sf_7 σ x1 x2 x3 x4) else (obp (fX11_canFollow σ x2 x4) (fun r3 σ4 => if r3 = 0 then (fX11_restOf_b65 sf_7 σ4 x1 x2 x3 x4) else (fX11_restOf_b32 sf_7 σ4 x1 x2 x3 x4))))
set_option maxHeartbeats 1000000 in
set_option maxRecDepth 100000 in
theorem fX11_restOf_b7_ok {p : Program} {l : Launch} {e : Env} {s : State} {m : MethodId} {args : Array Value} {below : List Frame} {meth : Method} {c : Code} {dC : Nat → ClassId} {dI : Nat → Nat → Nat} {ad : Nat → Nat} {cy : Nat → ClassId} {sz : Nat} (C : Cx p s m args meth c RX11 cX11_restOf 5 (some .int) dC dI ad cy sz) {rr : Int32} {ρ : S0} (sf_7 : S0 → Int32 → Int32 → Int32 → Int32 → Option (Int32 × S0)) (hs_7 : ∀ (σ : S0) (x1 : Int32) (x2 : Int32) (x3 : Int32) (x4 : Int32) , sf_7 σ x1 x2 x3 x4 = some (rr, ρ) → Gw p l e rm_X11_restOf s m args below meth c (MQ below (QcI dC dI ad cy sz rr ρ) args s 0 0 (AW ad sz)) dC dI ad cy 5 sz 0 0 7 [(0, .ref (ad 98)), (1, .int x1), (2, .int x2), (3, .int x3), (4, .int x4)] [] σ) (σ : S0) (x1 : Int32) (x2 : Int32) (x3 : Int32) (x4 : Int32)  (hf : fX11_restOf_b7 sf_7 σ x1 x2 x3 x4 = some (rr, ρ)) : Gw p l e rm_X11_restOf s m args below meth c (MQ below (QcI dC dI ad cy sz rr ρ) args s 0 0 (AW ad sz)) dC dI ad cy 5 sz 0 0 7 [(0, .ref (ad 98)), (1, .int x1), (2, .int x2), (3, .int x3), (4, .int x4)] [] σ := by
  unfold fX11_restOf_b7 at hf
  refine g_iload C dX11_restOf_7 4 rfl ?_
  refine g_aload_n C dX11_restOf_9 rfl 0 rfl ?_
  refine g_get C (a_98 ad cy _) rfl hin_X11 4 (by decide) hF_X11_81 rfl rfl dX11_restOf_10 ?_
  rcases oi_e hf with ⟨c1, hf⟩ | ⟨c1, hf⟩
  · refine g_icmp_ge_t (tgt := 71) C dX11_restOf_13 (by decide) c1 ?_
    refine g_iload_n C dX11_restOf_71 rfl 3 rfl ?_
    obtain ⟨rfl, rfl⟩ := os_e hf
    exact g_iret C rfl dX11_restOf_72
  · refine g_icmp_ge_f (tgt := 71) C dX11_restOf_13 (by decide) c1 ?_
    refine g_iload_n C dX11_restOf_16 rfl 2 rfl ?_
    refine g_bipush (v := (-4)) C dX11_restOf_17 (by decide) ?_
    rcases oi_e hf with ⟨c2, hf⟩ | ⟨c2, hf⟩
    · refine g_icmp_eq_t (tgt := 32) C dX11_restOf_19 (by decide) c2 ?_
      exact g_sub [0, 1, 2, 3, 4] rfl (fX11_restOf_b32_ok C sf_7 hs_7 σ x1 x2 x3 x4 hf)
    · refine g_icmp_eq_f (tgt := 32) C dX11_restOf_19 (by decide) c2 ?_
      refine g_aload_n C dX11_restOf_22 rfl 0 rfl ?_
      refine g_iload_n C dX11_restOf_23 rfl 2 rfl ?_
      refine g_iload C dX11_restOf_24 4 rfl ?_
      obtain ⟨r3, σ4, h5, hf⟩ := obp_e hf
      refine g_callVi (As := [.int x2, .int x4]) (rest := []) C (a_98 ad cy _) rfl (c_X11_canFollow l dC dI ad cy x2 x4) h5 hM_X11_279 cal_X11_canFollow ⟨Nat.zero_le _, Nat.zero_le _⟩ ⟨rfl, rfl⟩ ⟨Nat.le_of_ble_eq_true rfl, Nat.le_of_ble_eq_true rfl⟩ rfl rfl (Nat.le_of_ble_eq_true rfl) dX11_restOf_26 ?_
      rcases oi_e hf with ⟨c6, hf⟩ | ⟨c6, hf⟩
      · refine g_if_eq_t (tgt := 65) C dX11_restOf_29 (by decide) c6 ?_
        exact g_sub [0, 1, 2, 3, 4] rfl (fX11_restOf_b65_ok C sf_7 hs_7 σ4 x1 x2 x3 x4 hf)
      · refine g_if_eq_f (tgt := 65) C dX11_restOf_29 (by decide) c6 ?_
        exact g_sub [0, 1, 2, 3, 4] rfl (fX11_restOf_b32_ok C sf_7 hs_7 σ4 x1 x2 x3 x4 hf)
def fX11_restOf_h7  : Nat → S0 → Int32 → Int32 → Int32 → Int32 → Option (Int32 × S0)
  | 0 => fun _ _ _ _ _ => none
  | n + 1 => fun σ x1 x2 x3 x4 => fX11_restOf_b7  (fX11_restOf_h7  n) σ x1 x2 x3 x4
set_option maxHeartbeats 1000000 in
set_option maxRecDepth 100000 in
theorem fX11_restOf_h7_ok {p : Program} {l : Launch} {e : Env} {s : State} {m : MethodId} {args : Array Value} {below : List Frame} {meth : Method} {c : Code} {dC : Nat → ClassId} {dI : Nat → Nat → Nat} {ad : Nat → Nat} {cy : Nat → ClassId} {sz : Nat} (C : Cx p s m args meth c RX11 cX11_restOf 5 (some .int) dC dI ad cy sz) {rr : Int32} {ρ : S0}  : ∀ (n : Nat) (σ : S0) (x1 : Int32) (x2 : Int32) (x3 : Int32) (x4 : Int32)  (_hf : fX11_restOf_h7  n σ x1 x2 x3 x4 = some (rr, ρ)), Gw p l e rm_X11_restOf s m args below meth c (MQ below (QcI dC dI ad cy sz rr ρ) args s 0 0 (AW ad sz)) dC dI ad cy 5 sz 0 0 7 [(0, .ref (ad 98)), (1, .int x1), (2, .int x2), (3, .int x3), (4, .int x4)] [] σ
  | 0, _, _, _, _, _, hf => by cases hf
  | n + 1, σ, x1, x2, x3, x4, hf => fX11_restOf_b7_ok C  (fX11_restOf_h7  n) (fX11_restOf_h7_ok C  n) σ x1 x2 x3 x4 hf
def fX11_restOf (σ : S0) (x1 : Int32) (x2 : Int32) : Option (Int32 × S0) := fX11_restOf_h7 400 σ x1 x2 99999 0
set_option maxHeartbeats 1000000 in
set_option maxRecDepth 100000 in
theorem fX11_restOf_ok {p : Program} {l : Launch} {e : Env} {s : State} {m : MethodId} {args : Array Value} {below : List Frame} {meth : Method} {c : Code} {dC : Nat → ClassId} {dI : Nat → Nat → Nat} {ad : Nat → Nat} {cy : Nat → ClassId} {sz : Nat} (C : Cx p s m args meth c RX11 cX11_restOf 5 (some .int) dC dI ad cy sz) {rr : Int32} {ρ : S0} (σ : S0) (x1 : Int32) (x2 : Int32)  (hf : fX11_restOf σ x1 x2 = some (rr, ρ)) : Gw p l e rm_X11_restOf s m args below meth c (MQ below (QcI dC dI ad cy sz rr ρ) args s 0 0 (AW ad sz)) dC dI ad cy 5 sz 0 0 0 [(0, .ref (ad 98)), (1, .int x1), (2, .int x2)] [] σ := by
  unfold fX11_restOf at hf
  refine g_ldcw (v := 99999) C dX11_restOf_0 hK_X11_262 ?_
  refine g_istore_n (lv2 := [(0, .ref (ad 98)), (1, .int x1), (2, .int x2), (3, .int 99999)]) C dX11_restOf_3 rfl (by decide) [1, 2, 3, 0] rfl ?_
  refine g_iconst (v := 0) C dX11_restOf_4 (by decide) ?_
  refine g_istore (lv2 := [(0, .ref (ad 98)), (1, .int x1), (2, .int x2), (3, .int 99999), (4, .int 0)]) C dX11_restOf_5 (by decide) [1, 2, 3, 4, 0] rfl ?_
  exact g_sub [0, 1, 2, 3, 4] rfl (fX11_restOf_h7_ok C 400 σ x1 x2 99999 0 hf)
theorem c_X11_restOf (l : Launch) (dC : Nat → ClassId) (dI : Nat → Nat → Nat) (ad : Nat → Nat) (cy : Nat → ClassId) (x1 : Int32) (x2 : Int32) : ConI l yX11_restOf cX11_restOf 5 (some .int) rm_X11_restOf dC dI ad cy [.ref (ad 98), .int x1, .int x2] (fun σ => fX11_restOf σ x1 x2) := con_i (own := RX11) (by decide) rfl (Nat.le_of_ble_eq_true rfl) (fun _ _ _ _ _ _ _ _ σ _ _ C hf => fX11_restOf_ok C σ x1 x2 hf)
theorem cal_X11_restOf : CalV yX11_restOf RX11 cX11_restOf 5 (some .int) 2 := ⟨hI_X11_restOf, hS_X11_restOf, hIni_X11, hC_X11_restOf, by decide +kernel⟩
abbrev rm_X11_nearestSum : Room := { frames := 3, cells := 0, slots := 0, locals := 68 }
def fX11_nearestSum_b122 (sf_11 : S0 → Int32 → Int32 → Int32 → Int32 → Option (Int32 × S0)) (sf_19 : S0 → Int32 → Int32 → Int32 → Int32 → Int32 → Option (Int32 × S0)) (σ : S0) (x1 : Int32) (x2 : Int32) (x3 : Int32) (x4 : Int32) (x5 : Int32) (t0 : Int32) (t1 : Int32) : Option (Int32 × S0) := og (¬ (t1 < 0 ∨ 156 ≤ t1.toNatClampNeg)) (ol (su σ 107 t1.toNatClampNeg t0) (fun σ2 => ol (x5 + 1) (fun v3 => sf_19 σ2 x1 x2 x3 x4 v3)))
set_option maxHeartbeats 1000000 in
set_option maxRecDepth 100000 in
theorem fX11_nearestSum_b122_ok {p : Program} {l : Launch} {e : Env} {s : State} {m : MethodId} {args : Array Value} {below : List Frame} {meth : Method} {c : Code} {dC : Nat → ClassId} {dI : Nat → Nat → Nat} {ad : Nat → Nat} {cy : Nat → ClassId} {sz : Nat} (C : Cx p s m args meth c RX11 cX11_nearestSum 8 (some .int) dC dI ad cy sz) {rr : Int32} {ρ : S0} (sf_11 : S0 → Int32 → Int32 → Int32 → Int32 → Option (Int32 × S0)) (hs_11 : ∀ (σ : S0) (x1 : Int32) (x2 : Int32) (x3 : Int32) (x4 : Int32) , sf_11 σ x1 x2 x3 x4 = some (rr, ρ) → Gw p l e rm_X11_nearestSum s m args below meth c (MQ below (QcI dC dI ad cy sz rr ρ) args s 0 0 (AW ad sz)) dC dI ad cy 8 sz 0 0 11 [(0, .ref (ad 98)), (1, .int x1), (2, .int x2), (3, .int x3), (4, .int x4)] [] σ) (sf_19 : S0 → Int32 → Int32 → Int32 → Int32 → Int32 → Option (Int32 × S0)) (hs_19 : ∀ (σ : S0) (x1 : Int32) (x2 : Int32) (x3 : Int32) (x4 : Int32) (x5 : Int32) , sf_19 σ x1 x2 x3 x4 x5 = some (rr, ρ) → Gw p l e rm_X11_nearestSum s m args below meth c (MQ below (QcI dC dI ad cy sz rr ρ) args s 0 0 (AW ad sz)) dC dI ad cy 8 sz 0 0 19 [(0, .ref (ad 98)), (1, .int x1), (2, .int x2), (3, .int x3), (4, .int x4), (5, .int x5)] [] σ) (σ : S0) (x1 : Int32) (x2 : Int32) (x3 : Int32) (x4 : Int32) (x5 : Int32) (t0 : Int32) (t1 : Int32)  (hf : fX11_nearestSum_b122 sf_11 sf_19 σ x1 x2 x3 x4 x5 t0 t1 = some (rr, ρ)) : Gw p l e rm_X11_nearestSum s m args below meth c (MQ below (QcI dC dI ad cy sz rr ρ) args s 0 0 (AW ad sz)) dC dI ad cy 8 sz 0 0 122 [(0, .ref (ad 98)), (1, .int x1), (2, .int x2), (3, .int x3), (4, .int x4), (5, .int x5)] [.int t0, .int t1, .ref (ad 107)] σ := by
  unfold fX11_nearestSum_b122 at hf
  obtain ⟨h1, hf⟩ := og_e hf
  obtain ⟨σ2, eσ2, hf⟩ := ol_e hf
  refine g_iast C (a_107 ad cy _) h1 (w_107 ad cy _) eσ2 dX11_nearestSum_122 ?_
  obtain ⟨v3, ev3, hf⟩ := ol_e hf
  refine g_iinc (j := 5) (w := 1) (lv2 := [(0, .ref (ad 98)), (1, .int x1), (2, .int x2), (3, .int x3), (4, .int x4), (5, .int v3)]) C dX11_nearestSum_123 rfl (by decide) ev3 (by decide) [1, 2, 3, 4, 5, 0] rfl ?_
  refine g_goto (tgt := 19) C dX11_nearestSum_126 (by decide) ?_
  exact g_sub [0, 1, 2, 3, 4, 5] rfl (hs_19 σ2 x1 x2 x3 x4 v3 hf)
def fX11_nearestSum_b81 (sf_11 : S0 → Int32 → Int32 → Int32 → Int32 → Option (Int32 × S0)) (sf_19 : S0 → Int32 → Int32 → Int32 → Int32 → Int32 → Option (Int32 × S0)) (σ : S0) (x1 : Int32) (x2 : Int32) (x3 : Int32) (x4 : Int32) (x5 : Int32) (x6 : Int32) (t0 : Int32) : Option (Int32 × S0) := if t0 = 0 then (fX11_nearestSum_b122 sf_11 sf_19 σ x1 x2 x3 x4 x5 99999 ((12 * x4) + x5)) else (obp (fX11_stroke σ x1 x4) (fun r2 σ3 => obp (fX11_size σ3 (x5 - r2)) (fun r5 σ6 => fX11_nearestSum_b122 sf_11 sf_19 σ6 x1 x2 x3 x4 x5 (x6 + r5) ((12 * x4) + x5))))
set_option maxHeartbeats 1000000 in
set_option maxRecDepth 100000 in
theorem fX11_nearestSum_b81_ok {p : Program} {l : Launch} {e : Env} {s : State} {m : MethodId} {args : Array Value} {below : List Frame} {meth : Method} {c : Code} {dC : Nat → ClassId} {dI : Nat → Nat → Nat} {ad : Nat → Nat} {cy : Nat → ClassId} {sz : Nat} (C : Cx p s m args meth c RX11 cX11_nearestSum 8 (some .int) dC dI ad cy sz) {rr : Int32} {ρ : S0} (sf_11 : S0 → Int32 → Int32 → Int32 → Int32 → Option (Int32 × S0)) (hs_11 : ∀ (σ : S0) (x1 : Int32) (x2 : Int32) (x3 : Int32) (x4 : Int32) , sf_11 σ x1 x2 x3 x4 = some (rr, ρ) → Gw p l e rm_X11_nearestSum s m args below meth c (MQ below (QcI dC dI ad cy sz rr ρ) args s 0 0 (AW ad sz)) dC dI ad cy 8 sz 0 0 11 [(0, .ref (ad 98)), (1, .int x1), (2, .int x2), (3, .int x3), (4, .int x4)] [] σ) (sf_19 : S0 → Int32 → Int32 → Int32 → Int32 → Int32 → Option (Int32 × S0)) (hs_19 : ∀ (σ : S0) (x1 : Int32) (x2 : Int32) (x3 : Int32) (x4 : Int32) (x5 : Int32) , sf_19 σ x1 x2 x3 x4 x5 = some (rr, ρ) → Gw p l e rm_X11_nearestSum s m args below meth c (MQ below (QcI dC dI ad cy sz rr ρ) args s 0 0 (AW ad sz)) dC dI ad cy 8 sz 0 0 19 [(0, .ref (ad 98)), (1, .int x1), (2, .int x2), (3, .int x3), (4, .int x4), (5, .int x5)] [] σ) (σ : S0) (x1 : Int32) (x2 : Int32) (x3 : Int32) (x4 : Int32) (x5 : Int32) (x6 : Int32) (t0 : Int32)  (hf : fX11_nearestSum_b81 sf_11 sf_19 σ x1 x2 x3 x4 x5 x6 t0 = some (rr, ρ)) : Gw p l e rm_X11_nearestSum s m args below meth c (MQ below (QcI dC dI ad cy sz rr ρ) args s 0 0 (AW ad sz)) dC dI ad cy 8 sz 0 0 81 [(0, .ref (ad 98)), (1, .int x1), (2, .int x2), (3, .int x3), (4, .int x4), (5, .int x5), (6, .int x6)] [.int t0] σ := by
  unfold fX11_nearestSum_b81 at hf
  refine g_istore (lv2 := [(0, .ref (ad 98)), (1, .int x1), (2, .int x2), (3, .int x3), (4, .int x4), (5, .int x5), (6, .int x6), (7, .int t0)]) C dX11_nearestSum_81 (by decide) [1, 2, 3, 4, 5, 6, 7, 0] rfl ?_
  refine g_aload_n C dX11_nearestSum_83 rfl 0 rfl ?_
  refine g_get C (a_98 ad cy _) rfl hin_X11 34 (by decide) hF_X11_35 rfl rfl dX11_nearestSum_84 ?_
  refine g_bipush (v := 12) C dX11_nearestSum_87 (by decide) ?_
  refine g_iload C dX11_nearestSum_89 4 rfl ?_
  refine g_imul C dX11_nearestSum_91 ?_
  refine g_iload C dX11_nearestSum_92 5 rfl ?_
  refine g_iadd C dX11_nearestSum_94 ?_
  refine g_iload C dX11_nearestSum_95 7 rfl ?_
  rcases oi_e hf with ⟨c1, hf⟩ | ⟨c1, hf⟩
  · refine g_if_eq_t (tgt := 119) C dX11_nearestSum_97 (by decide) c1 ?_
    refine g_ldcw (v := 99999) C dX11_nearestSum_119 hK_X11_262 ?_
    exact g_sub [0, 1, 2, 3, 4, 5] rfl (fX11_nearestSum_b122_ok C sf_11 hs_11 sf_19 hs_19 σ x1 x2 x3 x4 x5 99999 ((12 * x4) + x5) hf)
  · refine g_if_eq_f (tgt := 119) C dX11_nearestSum_97 (by decide) c1 ?_
    refine g_iload C dX11_nearestSum_100 6 rfl ?_
    refine g_iload C dX11_nearestSum_102 5 rfl ?_
    refine g_aload_n C dX11_nearestSum_104 rfl 0 rfl ?_
    refine g_iload_n C dX11_nearestSum_105 rfl 1 rfl ?_
    refine g_iload C dX11_nearestSum_106 4 rfl ?_
    obtain ⟨r2, σ3, h4, hf⟩ := obp_e hf
    refine g_callVi (As := [.int x1, .int x4]) (rest := [.int x5, .int x6, .int ((12 * x4) + x5), .ref (ad 107)]) C (a_98 ad cy _) rfl (c_X11_stroke l dC dI ad cy x1 x4) h4 hM_X11_183 cal_X11_stroke ⟨Nat.zero_le _, Nat.zero_le _⟩ ⟨rfl, rfl⟩ ⟨Nat.le_of_ble_eq_true rfl, Nat.le_of_ble_eq_true rfl⟩ rfl rfl (Nat.le_of_ble_eq_true rfl) dX11_nearestSum_108 ?_
    refine g_isub C dX11_nearestSum_111 ?_
    obtain ⟨r5, σ6, h7, hf⟩ := obp_e hf
    refine g_callSi (As := [.int (x5 - r2)]) (rest := [.int x6, .int ((12 * x4) + x5), .ref (ad 107)]) C (c_X11_size l dC dI ad cy (x5 - r2)) h7 hM_X11_285 cal_X11_size ⟨Nat.zero_le _, Nat.zero_le _⟩ ⟨rfl, rfl⟩ ⟨Nat.le_of_ble_eq_true rfl, Nat.le_of_ble_eq_true rfl⟩ rfl rfl (Nat.le_of_ble_eq_true rfl) dX11_nearestSum_112 ?_
    refine g_iadd C dX11_nearestSum_115 ?_
    refine g_goto (tgt := 122) C dX11_nearestSum_116 (by decide) ?_
    exact g_sub [0, 1, 2, 3, 4, 5] rfl (fX11_nearestSum_b122_ok C sf_11 hs_11 sf_19 hs_19 σ6 x1 x2 x3 x4 x5 (x6 + r5) ((12 * x4) + x5) hf)
def fX11_nearestSum_b80 (sf_11 : S0 → Int32 → Int32 → Int32 → Int32 → Option (Int32 × S0)) (sf_19 : S0 → Int32 → Int32 → Int32 → Int32 → Int32 → Option (Int32 × S0)) (σ : S0) (x1 : Int32) (x2 : Int32) (x3 : Int32) (x4 : Int32) (x5 : Int32) (x6 : Int32) : Option (Int32 × S0) := fX11_nearestSum_b81 sf_11 sf_19 σ x1 x2 x3 x4 x5 x6 0
set_option maxHeartbeats 1000000 in
set_option maxRecDepth 100000 in
theorem fX11_nearestSum_b80_ok {p : Program} {l : Launch} {e : Env} {s : State} {m : MethodId} {args : Array Value} {below : List Frame} {meth : Method} {c : Code} {dC : Nat → ClassId} {dI : Nat → Nat → Nat} {ad : Nat → Nat} {cy : Nat → ClassId} {sz : Nat} (C : Cx p s m args meth c RX11 cX11_nearestSum 8 (some .int) dC dI ad cy sz) {rr : Int32} {ρ : S0} (sf_11 : S0 → Int32 → Int32 → Int32 → Int32 → Option (Int32 × S0)) (hs_11 : ∀ (σ : S0) (x1 : Int32) (x2 : Int32) (x3 : Int32) (x4 : Int32) , sf_11 σ x1 x2 x3 x4 = some (rr, ρ) → Gw p l e rm_X11_nearestSum s m args below meth c (MQ below (QcI dC dI ad cy sz rr ρ) args s 0 0 (AW ad sz)) dC dI ad cy 8 sz 0 0 11 [(0, .ref (ad 98)), (1, .int x1), (2, .int x2), (3, .int x3), (4, .int x4)] [] σ) (sf_19 : S0 → Int32 → Int32 → Int32 → Int32 → Int32 → Option (Int32 × S0)) (hs_19 : ∀ (σ : S0) (x1 : Int32) (x2 : Int32) (x3 : Int32) (x4 : Int32) (x5 : Int32) , sf_19 σ x1 x2 x3 x4 x5 = some (rr, ρ) → Gw p l e rm_X11_nearestSum s m args below meth c (MQ below (QcI dC dI ad cy sz rr ρ) args s 0 0 (AW ad sz)) dC dI ad cy 8 sz 0 0 19 [(0, .ref (ad 98)), (1, .int x1), (2, .int x2), (3, .int x3), (4, .int x4), (5, .int x5)] [] σ) (σ : S0) (x1 : Int32) (x2 : Int32) (x3 : Int32) (x4 : Int32) (x5 : Int32) (x6 : Int32)  (hf : fX11_nearestSum_b80 sf_11 sf_19 σ x1 x2 x3 x4 x5 x6 = some (rr, ρ)) : Gw p l e rm_X11_nearestSum s m args below meth c (MQ below (QcI dC dI ad cy sz rr ρ) args s 0 0 (AW ad sz)) dC dI ad cy 8 sz 0 0 80 [(0, .ref (ad 98)), (1, .int x1), (2, .int x2), (3, .int x3), (4, .int x4), (5, .int x5), (6, .int x6)] [] σ := by
  unfold fX11_nearestSum_b80 at hf
  refine g_iconst (v := 0) C dX11_nearestSum_80 (by decide) ?_
  exact g_sub [0, 1, 2, 3, 4, 5, 6] rfl (fX11_nearestSum_b81_ok C sf_11 hs_11 sf_19 hs_19 σ x1 x2 x3 x4 x5 x6 0 hf)
def fX11_nearestSum_b50 (sf_11 : S0 → Int32 → Int32 → Int32 → Int32 → Option (Int32 × S0)) (sf_19 : S0 → Int32 → Int32 → Int32 → Int32 → Int32 → Option (Int32 × S0)) (σ : S0) (x1 : Int32) (x2 : Int32) (x3 : Int32) (x4 : Int32) (x5 : Int32) (t0 : Int32) : Option (Int32 × S0) := if x5 = x2 then (fX11_nearestSum_b80 sf_11 sf_19 σ x1 x2 x3 x4 x5 t0) else (obp (fX11_of σ x5 ((3 : Int32))) (fun r2 σ3 => if ¬ r2 = 0 then (fX11_nearestSum_b80 sf_11 sf_19 σ3 x1 x2 x3 x4 x5 t0) else (if (99999 : Int32) ≤ t0 then (fX11_nearestSum_b80 sf_11 sf_19 σ3 x1 x2 x3 x4 x5 t0) else (fX11_nearestSum_b81 sf_11 sf_19 σ3 x1 x2 x3 x4 x5 t0 1))))
set_option maxHeartbeats 1000000 in
set_option maxRecDepth 100000 in
theorem fX11_nearestSum_b50_ok {p : Program} {l : Launch} {e : Env} {s : State} {m : MethodId} {args : Array Value} {below : List Frame} {meth : Method} {c : Code} {dC : Nat → ClassId} {dI : Nat → Nat → Nat} {ad : Nat → Nat} {cy : Nat → ClassId} {sz : Nat} (C : Cx p s m args meth c RX11 cX11_nearestSum 8 (some .int) dC dI ad cy sz) {rr : Int32} {ρ : S0} (sf_11 : S0 → Int32 → Int32 → Int32 → Int32 → Option (Int32 × S0)) (hs_11 : ∀ (σ : S0) (x1 : Int32) (x2 : Int32) (x3 : Int32) (x4 : Int32) , sf_11 σ x1 x2 x3 x4 = some (rr, ρ) → Gw p l e rm_X11_nearestSum s m args below meth c (MQ below (QcI dC dI ad cy sz rr ρ) args s 0 0 (AW ad sz)) dC dI ad cy 8 sz 0 0 11 [(0, .ref (ad 98)), (1, .int x1), (2, .int x2), (3, .int x3), (4, .int x4)] [] σ) (sf_19 : S0 → Int32 → Int32 → Int32 → Int32 → Int32 → Option (Int32 × S0)) (hs_19 : ∀ (σ : S0) (x1 : Int32) (x2 : Int32) (x3 : Int32) (x4 : Int32) (x5 : Int32) , sf_19 σ x1 x2 x3 x4 x5 = some (rr, ρ) → Gw p l e rm_X11_nearestSum s m args below meth c (MQ below (QcI dC dI ad cy sz rr ρ) args s 0 0 (AW ad sz)) dC dI ad cy 8 sz 0 0 19 [(0, .ref (ad 98)), (1, .int x1), (2, .int x2), (3, .int x3), (4, .int x4), (5, .int x5)] [] σ) (σ : S0) (x1 : Int32) (x2 : Int32) (x3 : Int32) (x4 : Int32) (x5 : Int32) (t0 : Int32)  (hf : fX11_nearestSum_b50 sf_11 sf_19 σ x1 x2 x3 x4 x5 t0 = some (rr, ρ)) : Gw p l e rm_X11_nearestSum s m args below meth c (MQ below (QcI dC dI ad cy sz rr ρ) args s 0 0 (AW ad sz)) dC dI ad cy 8 sz 0 0 50 [(0, .ref (ad 98)), (1, .int x1), (2, .int x2), (3, .int x3), (4, .int x4), (5, .int x5)] [.int t0] σ := by
  unfold fX11_nearestSum_b50 at hf
  refine g_istore (lv2 := [(0, .ref (ad 98)), (1, .int x1), (2, .int x2), (3, .int x3), (4, .int x4), (5, .int x5), (6, .int t0)]) C dX11_nearestSum_50 (by decide) [1, 2, 3, 4, 5, 6, 0] rfl ?_
  refine g_iload C dX11_nearestSum_52 5 rfl ?_
  refine g_iload_n C dX11_nearestSum_54 rfl 2 rfl ?_
  rcases oi_e hf with ⟨c1, hf⟩ | ⟨c1, hf⟩
  · refine g_icmp_eq_t (tgt := 80) C dX11_nearestSum_55 (by decide) c1 ?_
    exact g_sub [0, 1, 2, 3, 4, 5, 6] rfl (fX11_nearestSum_b80_ok C sf_11 hs_11 sf_19 hs_19 σ x1 x2 x3 x4 x5 t0 hf)
  · refine g_icmp_eq_f (tgt := 80) C dX11_nearestSum_55 (by decide) c1 ?_
    refine g_aload_n C dX11_nearestSum_58 rfl 0 rfl ?_
    refine g_iload C dX11_nearestSum_59 5 rfl ?_
    refine g_iconst (v := 3) C dX11_nearestSum_61 (by decide) ?_
    obtain ⟨r2, σ3, h4, hf⟩ := obp_e hf
    refine g_callVi (As := [.int x5, .int 3]) (rest := []) C (a_98 ad cy _) rfl (c_X11_of l dC dI ad cy x5 ((3 : Int32))) h4 hM_X11_172 cal_X11_of ⟨Nat.zero_le _, Nat.zero_le _⟩ ⟨rfl, rfl⟩ ⟨Nat.le_of_ble_eq_true rfl, Nat.le_of_ble_eq_true rfl⟩ rfl rfl (Nat.le_of_ble_eq_true rfl) dX11_nearestSum_62 ?_
    rcases oi_e hf with ⟨c5, hf⟩ | ⟨c5, hf⟩
    · refine g_if_ne_t (tgt := 80) C dX11_nearestSum_65 (by decide) c5 ?_
      exact g_sub [0, 1, 2, 3, 4, 5, 6] rfl (fX11_nearestSum_b80_ok C sf_11 hs_11 sf_19 hs_19 σ3 x1 x2 x3 x4 x5 t0 hf)
    · refine g_if_ne_f (tgt := 80) C dX11_nearestSum_65 (by decide) (Decidable.of_not_not c5) ?_
      refine g_iload C dX11_nearestSum_68 6 rfl ?_
      refine g_ldcw (v := 99999) C dX11_nearestSum_70 hK_X11_262 ?_
      rcases oi_e hf with ⟨c6, hf⟩ | ⟨c6, hf⟩
      · refine g_icmp_ge_t (tgt := 80) C dX11_nearestSum_73 (by decide) c6 ?_
        exact g_sub [0, 1, 2, 3, 4, 5, 6] rfl (fX11_nearestSum_b80_ok C sf_11 hs_11 sf_19 hs_19 σ3 x1 x2 x3 x4 x5 t0 hf)
      · refine g_icmp_ge_f (tgt := 80) C dX11_nearestSum_73 (by decide) c6 ?_
        refine g_iconst (v := 1) C dX11_nearestSum_76 (by decide) ?_
        refine g_goto (tgt := 81) C dX11_nearestSum_77 (by decide) ?_
        exact g_sub [0, 1, 2, 3, 4, 5, 6] rfl (fX11_nearestSum_b81_ok C sf_11 hs_11 sf_19 hs_19 σ3 x1 x2 x3 x4 x5 t0 1 hf)
def fX11_nearestSum_b19 (sf_11 : S0 → Int32 → Int32 → Int32 → Int32 → Option (Int32 × S0)) (sf_19 : S0 → Int32 → Int32 → Int32 → Int32 → Int32 → Option (Int32 × S0)) (σ : S0) (x1 : Int32) (x2 : Int32) (x3 : Int32) (x4 : Int32) (x5 : Int32) : Option (Int32 × S0) := if (σ 98 4) ≤ x5 then (ol (x4 + (-1)) (fun v2 => sf_11 σ x1 x2 x3 v2)) else (if ¬ x4 = (x3 - 1) then (obp (fX11_restOf σ (x4 + 1) x5) (fun r4 σ5 => fX11_nearestSum_b50 sf_11 sf_19 σ5 x1 x2 x3 x4 x5 r4)) else (fX11_nearestSum_b50 sf_11 sf_19 σ x1 x2 x3 x4 x5 0))
set_option maxHeartbeats 1000000 in
set_option maxRecDepth 100000 in
theorem fX11_nearestSum_b19_ok {p : Program} {l : Launch} {e : Env} {s : State} {m : MethodId} {args : Array Value} {below : List Frame} {meth : Method} {c : Code} {dC : Nat → ClassId} {dI : Nat → Nat → Nat} {ad : Nat → Nat} {cy : Nat → ClassId} {sz : Nat} (C : Cx p s m args meth c RX11 cX11_nearestSum 8 (some .int) dC dI ad cy sz) {rr : Int32} {ρ : S0} (sf_11 : S0 → Int32 → Int32 → Int32 → Int32 → Option (Int32 × S0)) (hs_11 : ∀ (σ : S0) (x1 : Int32) (x2 : Int32) (x3 : Int32) (x4 : Int32) , sf_11 σ x1 x2 x3 x4 = some (rr, ρ) → Gw p l e rm_X11_nearestSum s m args below meth c (MQ below (QcI dC dI ad cy sz rr ρ) args s 0 0 (AW ad sz)) dC dI ad cy 8 sz 0 0 11 [(0, .ref (ad 98)), (1, .int x1), (2, .int x2), (3, .int x3), (4, .int x4)] [] σ) (sf_19 : S0 → Int32 → Int32 → Int32 → Int32 → Int32 → Option (Int32 × S0)) (hs_19 : ∀ (σ : S0) (x1 : Int32) (x2 : Int32) (x3 : Int32) (x4 : Int32) (x5 : Int32) , sf_19 σ x1 x2 x3 x4 x5 = some (rr, ρ) → Gw p l e rm_X11_nearestSum s m args below meth c (MQ below (QcI dC dI ad cy sz rr ρ) args s 0 0 (AW ad sz)) dC dI ad cy 8 sz 0 0 19 [(0, .ref (ad 98)), (1, .int x1), (2, .int x2), (3, .int x3), (4, .int x4), (5, .int x5)] [] σ) (σ : S0) (x1 : Int32) (x2 : Int32) (x3 : Int32) (x4 : Int32) (x5 : Int32)  (hf : fX11_nearestSum_b19 sf_11 sf_19 σ x1 x2 x3 x4 x5 = some (rr, ρ)) : Gw p l e rm_X11_nearestSum s m args below meth c (MQ below (QcI dC dI ad cy sz rr ρ) args s 0 0 (AW ad sz)) dC dI ad cy 8 sz 0 0 19 [(0, .ref (ad 98)), (1, .int x1), (2, .int x2), (3, .int x3), (4, .int x4), (5, .int x5)] [] σ := by
  unfold fX11_nearestSum_b19 at hf
  refine g_iload C dX11_nearestSum_19 5 rfl ?_
  refine g_aload_n C dX11_nearestSum_21 rfl 0 rfl ?_
  refine g_get C (a_98 ad cy _) rfl hin_X11 4 (by decide) hF_X11_81 rfl rfl dX11_nearestSum_22 ?_
  rcases oi_e hf with ⟨c1, hf⟩ | ⟨c1, hf⟩
  · refine g_icmp_ge_t (tgt := 129) C dX11_nearestSum_25 (by decide) c1 ?_
    obtain ⟨v2, ev2, hf⟩ := ol_e hf
    refine g_iinc (j := 4) (w := (-1)) (lv2 := [(0, .ref (ad 98)), (1, .int x1), (2, .int x2), (3, .int x3), (4, .int v2), (5, .int x5)]) C dX11_nearestSum_129 rfl (by decide) ev2 (by decide) [1, 2, 3, 4, 0, 5] rfl ?_
    refine g_goto (tgt := 11) C dX11_nearestSum_132 (by decide) ?_
    exact g_sub [0, 1, 2, 3, 4] rfl (hs_11 σ x1 x2 x3 v2 hf)
  · refine g_icmp_ge_f (tgt := 129) C dX11_nearestSum_25 (by decide) c1 ?_
    refine g_iload C dX11_nearestSum_28 4 rfl ?_
    refine g_iload_n C dX11_nearestSum_30 rfl 3 rfl ?_
    refine g_iconst (v := 1) C dX11_nearestSum_31 (by decide) ?_
    refine g_isub C dX11_nearestSum_32 ?_
    rcases oi_e hf with ⟨c3, hf⟩ | ⟨c3, hf⟩
    · refine g_icmp_ne_t (tgt := 40) C dX11_nearestSum_33 (by decide) c3 ?_
      refine g_aload_n C dX11_nearestSum_40 rfl 0 rfl ?_
      refine g_iload C dX11_nearestSum_41 4 rfl ?_
      refine g_iconst (v := 1) C dX11_nearestSum_43 (by decide) ?_
      refine g_iadd C dX11_nearestSum_44 ?_
      refine g_iload C dX11_nearestSum_45 5 rfl ?_
      obtain ⟨r4, σ5, h6, hf⟩ := obp_e hf
      refine g_callVi (As := [.int (x4 + 1), .int x5]) (rest := []) C (a_98 ad cy _) rfl (c_X11_restOf l dC dI ad cy (x4 + 1) x5) h6 hM_X11_282 cal_X11_restOf ⟨Nat.zero_le _, Nat.zero_le _⟩ ⟨rfl, rfl⟩ ⟨Nat.le_of_ble_eq_true rfl, Nat.le_of_ble_eq_true rfl⟩ rfl rfl (Nat.le_of_ble_eq_true rfl) dX11_nearestSum_47 ?_
      exact g_sub [0, 1, 2, 3, 4, 5] rfl (fX11_nearestSum_b50_ok C sf_11 hs_11 sf_19 hs_19 σ5 x1 x2 x3 x4 x5 r4 hf)
    · refine g_icmp_ne_f (tgt := 40) C dX11_nearestSum_33 (by decide) (Decidable.of_not_not c3) ?_
      refine g_iconst (v := 0) C dX11_nearestSum_36 (by decide) ?_
      refine g_goto (tgt := 50) C dX11_nearestSum_37 (by decide) ?_
      exact g_sub [0, 1, 2, 3, 4, 5] rfl (fX11_nearestSum_b50_ok C sf_11 hs_11 sf_19 hs_19 σ x1 x2 x3 x4 x5 0 hf)
def fX11_nearestSum_h19 (sf_11 : S0 → Int32 → Int32 → Int32 → Int32 → Option (Int32 × S0)) : Nat → S0 → Int32 → Int32 → Int32 → Int32 → Int32 → Option (Int32 × S0)
  | 0 => fun _ _ _ _ _ _ => none
  | n + 1 => fun σ x1 x2 x3 x4 x5 => fX11_nearestSum_b19 sf_11 (fX11_nearestSum_h19 sf_11 n) σ x1 x2 x3 x4 x5
set_option maxHeartbeats 1000000 in
set_option maxRecDepth 100000 in
theorem fX11_nearestSum_h19_ok {p : Program} {l : Launch} {e : Env} {s : State} {m : MethodId} {args : Array Value} {below : List Frame} {meth : Method} {c : Code} {dC : Nat → ClassId} {dI : Nat → Nat → Nat} {ad : Nat → Nat} {cy : Nat → ClassId} {sz : Nat} (C : Cx p s m args meth c RX11 cX11_nearestSum 8 (some .int) dC dI ad cy sz) {rr : Int32} {ρ : S0} (sf_11 : S0 → Int32 → Int32 → Int32 → Int32 → Option (Int32 × S0)) (hs_11 : ∀ (σ : S0) (x1 : Int32) (x2 : Int32) (x3 : Int32) (x4 : Int32) , sf_11 σ x1 x2 x3 x4 = some (rr, ρ) → Gw p l e rm_X11_nearestSum s m args below meth c (MQ below (QcI dC dI ad cy sz rr ρ) args s 0 0 (AW ad sz)) dC dI ad cy 8 sz 0 0 11 [(0, .ref (ad 98)), (1, .int x1), (2, .int x2), (3, .int x3), (4, .int x4)] [] σ) : ∀ (n : Nat) (σ : S0) (x1 : Int32) (x2 : Int32) (x3 : Int32) (x4 : Int32) (x5 : Int32)  (_hf : fX11_nearestSum_h19 sf_11 n σ x1 x2 x3 x4 x5 = some (rr, ρ)), Gw p l e rm_X11_nearestSum s m args below meth c (MQ below (QcI dC dI ad cy sz rr ρ) args s 0 0 (AW ad sz)) dC dI ad cy 8 sz 0 0 19 [(0, .ref (ad 98)), (1, .int x1), (2, .int x2), (3, .int x3), (4, .int x4), (5, .int x5)] [] σ
  | 0, _, _, _, _, _, _, hf => by cases hf
  | n + 1, σ, x1, x2, x3, x4, x5, hf => fX11_nearestSum_b19_ok C sf_11 hs_11 (fX11_nearestSum_h19 sf_11 n) (fX11_nearestSum_h19_ok C sf_11 hs_11 n) σ x1 x2 x3 x4 x5 hf
def fX11_nearestSum_b11 (sf_11 : S0 → Int32 → Int32 → Int32 → Int32 → Option (Int32 × S0)) (σ : S0) (x1 : Int32) (x2 : Int32) (x3 : Int32) (x4 : Int32) : Option (Int32 × S0) := if x4 < 0 then (obp (fX11_restOf σ ((0 : Int32)) (((-4) : Int32))) (fun r2 σ3 => some (r2, σ3))) else (fX11_nearestSum_h19 sf_11 400 σ x1 x2 x3 x4 0)
set_option maxHeartbeats 1000000 in
set_option maxRecDepth 100000 in
theorem fX11_nearestSum_b11_ok {p : Program} {l : Launch} {e : Env} {s : State} {m : MethodId} {args : Array Value} {below : List Frame} {meth : Method} {c : Code} {dC : Nat → ClassId} {dI : Nat → Nat → Nat} {ad : Nat → Nat} {cy : Nat → ClassId} {sz : Nat} (C : Cx p s m args meth c RX11 cX11_nearestSum 8 (some .int) dC dI ad cy sz) {rr : Int32} {ρ : S0} (sf_11 : S0 → Int32 → Int32 → Int32 → Int32 → Option (Int32 × S0)) (hs_11 : ∀ (σ : S0) (x1 : Int32) (x2 : Int32) (x3 : Int32) (x4 : Int32) , sf_11 σ x1 x2 x3 x4 = some (rr, ρ) → Gw p l e rm_X11_nearestSum s m args below meth c (MQ below (QcI dC dI ad cy sz rr ρ) args s 0 0 (AW ad sz)) dC dI ad cy 8 sz 0 0 11 [(0, .ref (ad 98)), (1, .int x1), (2, .int x2), (3, .int x3), (4, .int x4)] [] σ) (σ : S0) (x1 : Int32) (x2 : Int32) (x3 : Int32) (x4 : Int32)  (hf : fX11_nearestSum_b11 sf_11 σ x1 x2 x3 x4 = some (rr, ρ)) : Gw p l e rm_X11_nearestSum s m args below meth c (MQ below (QcI dC dI ad cy sz rr ρ) args s 0 0 (AW ad sz)) dC dI ad cy 8 sz 0 0 11 [(0, .ref (ad 98)), (1, .int x1), (2, .int x2), (3, .int x3), (4, .int x4)] [] σ := by
  unfold fX11_nearestSum_b11 at hf
  refine g_iload C dX11_nearestSum_11 4 rfl ?_
  rcases oi_e hf with ⟨c1, hf⟩ | ⟨c1, hf⟩
  · refine g_if_lt_t (tgt := 135) C dX11_nearestSum_13 (by decide) c1 ?_
    refine g_aload_n C dX11_nearestSum_135 rfl 0 rfl ?_
    refine g_iconst (v := 0) C dX11_nearestSum_136 (by decide) ?_
    refine g_bipush (v := (-4)) C dX11_nearestSum_137 (by decide) ?_
    obtain ⟨r2, σ3, h4, hf⟩ := obp_e hf
    refine g_callVi (As := [.int 0, .int ((-4))]) (rest := []) C (a_98 ad cy _) rfl (c_X11_restOf l dC dI ad cy ((0 : Int32)) (((-4) : Int32))) h4 hM_X11_282 cal_X11_restOf ⟨Nat.zero_le _, Nat.zero_le _⟩ ⟨rfl, rfl⟩ ⟨Nat.le_of_ble_eq_true rfl, Nat.le_of_ble_eq_true rfl⟩ rfl rfl (Nat.le_of_ble_eq_true rfl) dX11_nearestSum_139 ?_
    obtain ⟨rfl, rfl⟩ := os_e hf
    exact g_iret C rfl dX11_nearestSum_142
  · refine g_if_lt_f (tgt := 135) C dX11_nearestSum_13 (by decide) c1 ?_
    refine g_iconst (v := 0) C dX11_nearestSum_16 (by decide) ?_
    refine g_istore (lv2 := [(0, .ref (ad 98)), (1, .int x1), (2, .int x2), (3, .int x3), (4, .int x4), (5, .int 0)]) C dX11_nearestSum_17 (by decide) [1, 2, 3, 4, 5, 0] rfl ?_
    exact g_sub [0, 1, 2, 3, 4, 5] rfl (fX11_nearestSum_h19_ok C sf_11 hs_11 400 σ x1 x2 x3 x4 0 hf)
def fX11_nearestSum_h11  : Nat → S0 → Int32 → Int32 → Int32 → Int32 → Option (Int32 × S0)
  | 0 => fun _ _ _ _ _ => none
  | n + 1 => fun σ x1 x2 x3 x4 => fX11_nearestSum_b11  (fX11_nearestSum_h11  n) σ x1 x2 x3 x4
set_option maxHeartbeats 1000000 in
set_option maxRecDepth 100000 in
theorem fX11_nearestSum_h11_ok {p : Program} {l : Launch} {e : Env} {s : State} {m : MethodId} {args : Array Value} {below : List Frame} {meth : Method} {c : Code} {dC : Nat → ClassId} {dI : Nat → Nat → Nat} {ad : Nat → Nat} {cy : Nat → ClassId} {sz : Nat} (C : Cx p s m args meth c RX11 cX11_nearestSum 8 (some .int) dC dI ad cy sz) {rr : Int32} {ρ : S0}  : ∀ (n : Nat) (σ : S0) (x1 : Int32) (x2 : Int32) (x3 : Int32) (x4 : Int32)  (_hf : fX11_nearestSum_h11  n σ x1 x2 x3 x4 = some (rr, ρ)), Gw p l e rm_X11_nearestSum s m args below meth c (MQ below (QcI dC dI ad cy sz rr ρ) args s 0 0 (AW ad sz)) dC dI ad cy 8 sz 0 0 11 [(0, .ref (ad 98)), (1, .int x1), (2, .int x2), (3, .int x3), (4, .int x4)] [] σ
  | 0, _, _, _, _, _, hf => by cases hf
  | n + 1, σ, x1, x2, x3, x4, hf => fX11_nearestSum_b11_ok C  (fX11_nearestSum_h11  n) (fX11_nearestSum_h11_ok C  n) σ x1 x2 x3 x4 hf
def fX11_nearestSum (σ : S0) (x1 : Int32) (x2 : Int32) : Option (Int32 × S0) := obp (fX11_strokes σ x1) (fun r1 σ2 => ol (r1 - 1) (fun v4 => fX11_nearestSum_h11 400 σ2 x1 x2 r1 v4))
set_option maxHeartbeats 1000000 in
set_option maxRecDepth 100000 in
theorem fX11_nearestSum_ok {p : Program} {l : Launch} {e : Env} {s : State} {m : MethodId} {args : Array Value} {below : List Frame} {meth : Method} {c : Code} {dC : Nat → ClassId} {dI : Nat → Nat → Nat} {ad : Nat → Nat} {cy : Nat → ClassId} {sz : Nat} (C : Cx p s m args meth c RX11 cX11_nearestSum 8 (some .int) dC dI ad cy sz) {rr : Int32} {ρ : S0} (σ : S0) (x1 : Int32) (x2 : Int32)  (hf : fX11_nearestSum σ x1 x2 = some (rr, ρ)) : Gw p l e rm_X11_nearestSum s m args below meth c (MQ below (QcI dC dI ad cy sz rr ρ) args s 0 0 (AW ad sz)) dC dI ad cy 8 sz 0 0 0 [(0, .ref (ad 98)), (1, .int x1), (2, .int x2)] [] σ := by
  unfold fX11_nearestSum at hf
  refine g_aload_n C dX11_nearestSum_0 rfl 0 rfl ?_
  refine g_iload_n C dX11_nearestSum_1 rfl 1 rfl ?_
  obtain ⟨r1, σ2, h3, hf⟩ := obp_e hf
  refine g_callVi (As := [.int x1]) (rest := []) C (a_98 ad cy _) rfl (c_X11_strokes l dC dI ad cy x1) h3 hM_X11_180 cal_X11_strokes ⟨Nat.zero_le _, Nat.zero_le _⟩ ⟨rfl, rfl⟩ ⟨Nat.le_of_ble_eq_true rfl, Nat.le_of_ble_eq_true rfl⟩ rfl rfl (Nat.le_of_ble_eq_true rfl) dX11_nearestSum_2 ?_
  refine g_istore_n (lv2 := [(0, .ref (ad 98)), (1, .int x1), (2, .int x2), (3, .int r1)]) C dX11_nearestSum_5 rfl (by decide) [1, 2, 3, 0] rfl ?_
  refine g_iload_n C dX11_nearestSum_6 rfl 3 rfl ?_
  refine g_iconst (v := 1) C dX11_nearestSum_7 (by decide) ?_
  refine g_isub C dX11_nearestSum_8 ?_
  obtain ⟨v4, ev4, hf⟩ := ol_e hf
  refine g_nm ev4 ?_
  refine g_istore (lv2 := [(0, .ref (ad 98)), (1, .int x1), (2, .int x2), (3, .int r1), (4, .int v4)]) C dX11_nearestSum_9 (by decide) [1, 2, 3, 4, 0] rfl ?_
  exact g_sub [0, 1, 2, 3, 4] rfl (fX11_nearestSum_h11_ok C 400 σ2 x1 x2 r1 v4 hf)
theorem c_X11_nearestSum (l : Launch) (dC : Nat → ClassId) (dI : Nat → Nat → Nat) (ad : Nat → Nat) (cy : Nat → ClassId) (x1 : Int32) (x2 : Int32) : ConI l yX11_nearestSum cX11_nearestSum 8 (some .int) rm_X11_nearestSum dC dI ad cy [.ref (ad 98), .int x1, .int x2] (fun σ => fX11_nearestSum σ x1 x2) := con_i (own := RX11) (by decide) rfl (Nat.le_of_ble_eq_true rfl) (fun _ _ _ _ _ _ _ _ σ _ _ C hf => fX11_nearestSum_ok C σ x1 x2 hf)
theorem cal_X11_nearestSum : CalV yX11_nearestSum RX11 cX11_nearestSum 8 (some .int) 2 := ⟨hI_X11_nearestSum, hS_X11_nearestSum, hIni_X11, hC_X11_nearestSum, by decide +kernel⟩
abbrev rm_X11_nearestStroke : Room := { frames := 3, cells := 0, slots := 0, locals := 68 }
def fX11_nearestStroke_b87 (sf_5 : S0 → Int32 → Int32 → Int32 → Option (Int32 × S0)) (sf_30 : S0 → Int32 → Int32 → Int32 → Int32 → Int32 → Int32 → Option (Int32 × S0)) (σ : S0) (x1 : Int32) (x2 : Int32) (x3 : Int32) (x4 : Int32) (x6 : Int32) (t0 : Int32) : Option (Int32 × S0) := ol (x6 + (-1)) (fun v1 => sf_30 σ x1 x2 x3 x4 t0 v1)
set_option maxHeartbeats 1000000 in
set_option maxRecDepth 100000 in
theorem fX11_nearestStroke_b87_ok {p : Program} {l : Launch} {e : Env} {s : State} {m : MethodId} {args : Array Value} {below : List Frame} {meth : Method} {c : Code} {dC : Nat → ClassId} {dI : Nat → Nat → Nat} {ad : Nat → Nat} {cy : Nat → ClassId} {sz : Nat} (C : Cx p s m args meth c RX11 cX11_nearestStroke 8 (some .int) dC dI ad cy sz) {rr : Int32} {ρ : S0} (sf_5 : S0 → Int32 → Int32 → Int32 → Option (Int32 × S0)) (hs_5 : ∀ (σ : S0) (x1 : Int32) (x2 : Int32) (x3 : Int32) , sf_5 σ x1 x2 x3 = some (rr, ρ) → Gw p l e rm_X11_nearestStroke s m args below meth c (MQ below (QcI dC dI ad cy sz rr ρ) args s 0 0 (AW ad sz)) dC dI ad cy 8 sz 0 0 5 [(0, .ref (ad 98)), (1, .int x1), (2, .int x2), (3, .int x3)] [] σ) (sf_30 : S0 → Int32 → Int32 → Int32 → Int32 → Int32 → Int32 → Option (Int32 × S0)) (hs_30 : ∀ (σ : S0) (x1 : Int32) (x2 : Int32) (x3 : Int32) (x4 : Int32) (x5 : Int32) (x6 : Int32) , sf_30 σ x1 x2 x3 x4 x5 x6 = some (rr, ρ) → Gw p l e rm_X11_nearestStroke s m args below meth c (MQ below (QcI dC dI ad cy sz rr ρ) args s 0 0 (AW ad sz)) dC dI ad cy 8 sz 0 0 30 [(0, .ref (ad 98)), (1, .int x1), (2, .int x2), (3, .int x3), (4, .int x4), (5, .int x5), (6, .int x6)] [] σ) (σ : S0) (x1 : Int32) (x2 : Int32) (x3 : Int32) (x4 : Int32) (x6 : Int32) (t0 : Int32)  (hf : fX11_nearestStroke_b87 sf_5 sf_30 σ x1 x2 x3 x4 x6 t0 = some (rr, ρ)) : Gw p l e rm_X11_nearestStroke s m args below meth c (MQ below (QcI dC dI ad cy sz rr ρ) args s 0 0 (AW ad sz)) dC dI ad cy 8 sz 0 0 87 [(0, .ref (ad 98)), (1, .int x1), (2, .int x2), (3, .int x3), (4, .int x4), (6, .int x6)] [.int t0] σ := by
  unfold fX11_nearestStroke_b87 at hf
  refine g_istore (lv2 := [(0, .ref (ad 98)), (1, .int x1), (2, .int x2), (3, .int x3), (4, .int x4), (5, .int t0), (6, .int x6)]) C dX11_nearestStroke_87 (by decide) [1, 2, 3, 4, 5, 0, 6] rfl ?_
  obtain ⟨v1, ev1, hf⟩ := ol_e hf
  refine g_iinc (j := 6) (w := (-1)) (lv2 := [(0, .ref (ad 98)), (1, .int x1), (2, .int x2), (3, .int x3), (4, .int x4), (5, .int t0), (6, .int v1)]) C dX11_nearestStroke_89 rfl (by decide) ev1 (by decide) [1, 2, 3, 4, 5, 6, 0] rfl ?_
  refine g_goto (tgt := 30) C dX11_nearestStroke_92 (by decide) ?_
  exact g_sub [0, 1, 2, 3, 4, 5, 6] rfl (hs_30 σ x1 x2 x3 x4 t0 v1 hf)
def fX11_nearestStroke_b73 (sf_5 : S0 → Int32 → Int32 → Int32 → Option (Int32 × S0)) (sf_30 : S0 → Int32 → Int32 → Int32 → Int32 → Int32 → Int32 → Option (Int32 × S0)) (σ : S0) (x1 : Int32) (x2 : Int32) (x3 : Int32) (x4 : Int32) (x5 : Int32) (x6 : Int32) (t0 : Int32) : Option (Int32 × S0) := if t0 = 0 then (fX11_nearestStroke_b87 sf_5 sf_30 σ x1 x2 x3 x4 x6 x5) else (fX11_nearestStroke_b87 sf_5 sf_30 σ x1 x2 x3 x4 x6 x6)
set_option maxHeartbeats 1000000 in
set_option maxRecDepth 100000 in
theorem fX11_nearestStroke_b73_ok {p : Program} {l : Launch} {e : Env} {s : State} {m : MethodId} {args : Array Value} {below : List Frame} {meth : Method} {c : Code} {dC : Nat → ClassId} {dI : Nat → Nat → Nat} {ad : Nat → Nat} {cy : Nat → ClassId} {sz : Nat} (C : Cx p s m args meth c RX11 cX11_nearestStroke 8 (some .int) dC dI ad cy sz) {rr : Int32} {ρ : S0} (sf_5 : S0 → Int32 → Int32 → Int32 → Option (Int32 × S0)) (hs_5 : ∀ (σ : S0) (x1 : Int32) (x2 : Int32) (x3 : Int32) , sf_5 σ x1 x2 x3 = some (rr, ρ) → Gw p l e rm_X11_nearestStroke s m args below meth c (MQ below (QcI dC dI ad cy sz rr ρ) args s 0 0 (AW ad sz)) dC dI ad cy 8 sz 0 0 5 [(0, .ref (ad 98)), (1, .int x1), (2, .int x2), (3, .int x3)] [] σ) (sf_30 : S0 → Int32 → Int32 → Int32 → Int32 → Int32 → Int32 → Option (Int32 × S0)) (hs_30 : ∀ (σ : S0) (x1 : Int32) (x2 : Int32) (x3 : Int32) (x4 : Int32) (x5 : Int32) (x6 : Int32) , sf_30 σ x1 x2 x3 x4 x5 x6 = some (rr, ρ) → Gw p l e rm_X11_nearestStroke s m args below meth c (MQ below (QcI dC dI ad cy sz rr ρ) args s 0 0 (AW ad sz)) dC dI ad cy 8 sz 0 0 30 [(0, .ref (ad 98)), (1, .int x1), (2, .int x2), (3, .int x3), (4, .int x4), (5, .int x5), (6, .int x6)] [] σ) (σ : S0) (x1 : Int32) (x2 : Int32) (x3 : Int32) (x4 : Int32) (x5 : Int32) (x6 : Int32) (t0 : Int32)  (hf : fX11_nearestStroke_b73 sf_5 sf_30 σ x1 x2 x3 x4 x5 x6 t0 = some (rr, ρ)) : Gw p l e rm_X11_nearestStroke s m args below meth c (MQ below (QcI dC dI ad cy sz rr ρ) args s 0 0 (AW ad sz)) dC dI ad cy 8 sz 0 0 73 [(0, .ref (ad 98)), (1, .int x1), (2, .int x2), (3, .int x3), (4, .int x4), (5, .int x5), (6, .int x6)] [.int t0] σ := by
  unfold fX11_nearestStroke_b73 at hf
  refine g_istore (lv2 := [(0, .ref (ad 98)), (1, .int x1), (2, .int x2), (3, .int x3), (4, .int x4), (5, .int x5), (6, .int x6), (7, .int t0)]) C dX11_nearestStroke_73 (by decide) [1, 2, 3, 4, 5, 6, 7, 0] rfl ?_
  refine g_iload C dX11_nearestStroke_75 7 rfl ?_
  rcases oi_e hf with ⟨c1, hf⟩ | ⟨c1, hf⟩
  · refine g_if_eq_t (tgt := 85) C dX11_nearestStroke_77 (by decide) c1 ?_
    refine g_iload C dX11_nearestStroke_85 5 rfl ?_
    exact g_sub [0, 1, 2, 3, 4, 6] rfl (fX11_nearestStroke_b87_ok C sf_5 hs_5 sf_30 hs_30 σ x1 x2 x3 x4 x6 x5 hf)
  · refine g_if_eq_f (tgt := 85) C dX11_nearestStroke_77 (by decide) c1 ?_
    refine g_iload C dX11_nearestStroke_80 6 rfl ?_
    refine g_goto (tgt := 87) C dX11_nearestStroke_82 (by decide) ?_
    exact g_sub [0, 1, 2, 3, 4, 6] rfl (fX11_nearestStroke_b87_ok C sf_5 hs_5 sf_30 hs_30 σ x1 x2 x3 x4 x6 x6 hf)
def fX11_nearestStroke_b72 (sf_5 : S0 → Int32 → Int32 → Int32 → Option (Int32 × S0)) (sf_30 : S0 → Int32 → Int32 → Int32 → Int32 → Int32 → Int32 → Option (Int32 × S0)) (σ : S0) (x1 : Int32) (x2 : Int32) (x3 : Int32) (x4 : Int32) (x5 : Int32) (x6 : Int32) : Option (Int32 × S0) := fX11_nearestStroke_b73 sf_5 sf_30 σ x1 x2 x3 x4 x5 x6 0
set_option maxHeartbeats 1000000 in
set_option maxRecDepth 100000 in
theorem fX11_nearestStroke_b72_ok {p : Program} {l : Launch} {e : Env} {s : State} {m : MethodId} {args : Array Value} {below : List Frame} {meth : Method} {c : Code} {dC : Nat → ClassId} {dI : Nat → Nat → Nat} {ad : Nat → Nat} {cy : Nat → ClassId} {sz : Nat} (C : Cx p s m args meth c RX11 cX11_nearestStroke 8 (some .int) dC dI ad cy sz) {rr : Int32} {ρ : S0} (sf_5 : S0 → Int32 → Int32 → Int32 → Option (Int32 × S0)) (hs_5 : ∀ (σ : S0) (x1 : Int32) (x2 : Int32) (x3 : Int32) , sf_5 σ x1 x2 x3 = some (rr, ρ) → Gw p l e rm_X11_nearestStroke s m args below meth c (MQ below (QcI dC dI ad cy sz rr ρ) args s 0 0 (AW ad sz)) dC dI ad cy 8 sz 0 0 5 [(0, .ref (ad 98)), (1, .int x1), (2, .int x2), (3, .int x3)] [] σ) (sf_30 : S0 → Int32 → Int32 → Int32 → Int32 → Int32 → Int32 → Option (Int32 × S0)) (hs_30 : ∀ (σ : S0) (x1 : Int32) (x2 : Int32) (x3 : Int32) (x4 : Int32) (x5 : Int32) (x6 : Int32) , sf_30 σ x1 x2 x3 x4 x5 x6 = some (rr, ρ) → Gw p l e rm_X11_nearestStroke s m args below meth c (MQ below (QcI dC dI ad cy sz rr ρ) args s 0 0 (AW ad sz)) dC dI ad cy 8 sz 0 0 30 [(0, .ref (ad 98)), (1, .int x1), (2, .int x2), (3, .int x3), (4, .int x4), (5, .int x5), (6, .int x6)] [] σ) (σ : S0) (x1 : Int32) (x2 : Int32) (x3 : Int32) (x4 : Int32) (x5 : Int32) (x6 : Int32)  (hf : fX11_nearestStroke_b72 sf_5 sf_30 σ x1 x2 x3 x4 x5 x6 = some (rr, ρ)) : Gw p l e rm_X11_nearestStroke s m args below meth c (MQ below (QcI dC dI ad cy sz rr ρ) args s 0 0 (AW ad sz)) dC dI ad cy 8 sz 0 0 72 [(0, .ref (ad 98)), (1, .int x1), (2, .int x2), (3, .int x3), (4, .int x4), (5, .int x5), (6, .int x6)] [] σ := by
  unfold fX11_nearestStroke_b72 at hf
  refine g_iconst (v := 0) C dX11_nearestStroke_72 (by decide) ?_
  exact g_sub [0, 1, 2, 3, 4, 5, 6] rfl (fX11_nearestStroke_b73_ok C sf_5 hs_5 sf_30 hs_30 σ x1 x2 x3 x4 x5 x6 0 hf)
def fX11_nearestStroke_b51 (sf_5 : S0 → Int32 → Int32 → Int32 → Option (Int32 × S0)) (sf_30 : S0 → Int32 → Int32 → Int32 → Int32 → Int32 → Int32 → Option (Int32 × S0)) (σ : S0) (x1 : Int32) (x2 : Int32) (x3 : Int32) (x4 : Int32) (x5 : Int32) (x6 : Int32) : Option (Int32 × S0) := ol ((12 * x3) + x6) (fun v1 => og (¬ (v1 < 0 ∨ 156 ≤ v1.toNatClampNeg)) (ol (σ 107 v1.toNatClampNeg) (fun v3 => if ¬ v3 = x4 then (fX11_nearestStroke_b72 sf_5 sf_30 σ x1 x2 x3 x4 x5 x6) else (fX11_nearestStroke_b73 sf_5 sf_30 σ x1 x2 x3 x4 x5 x6 1))))
set_option maxHeartbeats 1000000 in
set_option maxRecDepth 100000 in
theorem fX11_nearestStroke_b51_ok {p : Program} {l : Launch} {e : Env} {s : State} {m : MethodId} {args : Array Value} {below : List Frame} {meth : Method} {c : Code} {dC : Nat → ClassId} {dI : Nat → Nat → Nat} {ad : Nat → Nat} {cy : Nat → ClassId} {sz : Nat} (C : Cx p s m args meth c RX11 cX11_nearestStroke 8 (some .int) dC dI ad cy sz) {rr : Int32} {ρ : S0} (sf_5 : S0 → Int32 → Int32 → Int32 → Option (Int32 × S0)) (hs_5 : ∀ (σ : S0) (x1 : Int32) (x2 : Int32) (x3 : Int32) , sf_5 σ x1 x2 x3 = some (rr, ρ) → Gw p l e rm_X11_nearestStroke s m args below meth c (MQ below (QcI dC dI ad cy sz rr ρ) args s 0 0 (AW ad sz)) dC dI ad cy 8 sz 0 0 5 [(0, .ref (ad 98)), (1, .int x1), (2, .int x2), (3, .int x3)] [] σ) (sf_30 : S0 → Int32 → Int32 → Int32 → Int32 → Int32 → Int32 → Option (Int32 × S0)) (hs_30 : ∀ (σ : S0) (x1 : Int32) (x2 : Int32) (x3 : Int32) (x4 : Int32) (x5 : Int32) (x6 : Int32) , sf_30 σ x1 x2 x3 x4 x5 x6 = some (rr, ρ) → Gw p l e rm_X11_nearestStroke s m args below meth c (MQ below (QcI dC dI ad cy sz rr ρ) args s 0 0 (AW ad sz)) dC dI ad cy 8 sz 0 0 30 [(0, .ref (ad 98)), (1, .int x1), (2, .int x2), (3, .int x3), (4, .int x4), (5, .int x5), (6, .int x6)] [] σ) (σ : S0) (x1 : Int32) (x2 : Int32) (x3 : Int32) (x4 : Int32) (x5 : Int32) (x6 : Int32)  (hf : fX11_nearestStroke_b51 sf_5 sf_30 σ x1 x2 x3 x4 x5 x6 = some (rr, ρ)) : Gw p l e rm_X11_nearestStroke s m args below meth c (MQ below (QcI dC dI ad cy sz rr ρ) args s 0 0 (AW ad sz)) dC dI ad cy 8 sz 0 0 51 [(0, .ref (ad 98)), (1, .int x1), (2, .int x2), (3, .int x3), (4, .int x4), (5, .int x5), (6, .int x6)] [] σ := by
  unfold fX11_nearestStroke_b51 at hf
  refine g_aload_n C dX11_nearestStroke_51 rfl 0 rfl ?_
  refine g_get C (a_98 ad cy _) rfl hin_X11 34 (by decide) hF_X11_35 rfl rfl dX11_nearestStroke_52 ?_
  refine g_bipush (v := 12) C dX11_nearestStroke_55 (by decide) ?_
  refine g_iload_n C dX11_nearestStroke_57 rfl 3 rfl ?_
  refine g_imul C dX11_nearestStroke_58 ?_
  refine g_iload C dX11_nearestStroke_59 6 rfl ?_
  refine g_iadd C dX11_nearestStroke_61 ?_
  obtain ⟨v1, ev1, hf⟩ := ol_e hf
  refine g_nm ev1 ?_
  obtain ⟨h2, hf⟩ := og_e hf
  refine g_iald C (a_107 ad cy _) h2 dX11_nearestStroke_62 ?_
  obtain ⟨v3, ev3, hf⟩ := ol_e hf
  refine g_nm ev3 ?_
  refine g_iload C dX11_nearestStroke_63 4 rfl ?_
  rcases oi_e hf with ⟨c4, hf⟩ | ⟨c4, hf⟩
  · refine g_icmp_ne_t (tgt := 72) C dX11_nearestStroke_65 (by decide) c4 ?_
    exact g_sub [0, 1, 2, 3, 4, 5, 6] rfl (fX11_nearestStroke_b72_ok C sf_5 hs_5 sf_30 hs_30 σ x1 x2 x3 x4 x5 x6 hf)
  · refine g_icmp_ne_f (tgt := 72) C dX11_nearestStroke_65 (by decide) (Decidable.of_not_not c4) ?_
    refine g_iconst (v := 1) C dX11_nearestStroke_68 (by decide) ?_
    refine g_goto (tgt := 73) C dX11_nearestStroke_69 (by decide) ?_
    exact g_sub [0, 1, 2, 3, 4, 5, 6] rfl (fX11_nearestStroke_b73_ok C sf_5 hs_5 sf_30 hs_30 σ x1 x2 x3 x4 x5 x6 1 hf)
def fX11_nearestStroke_b30 (sf_5 : S0 → Int32 → Int32 → Int32 → Option (Int32 × S0)) (sf_30 : S0 → Int32 → Int32 → Int32 → Int32 → Int32 → Int32 → Option (Int32 × S0)) (σ : S0) (x1 : Int32) (x2 : Int32) (x3 : Int32) (x4 : Int32) (x5 : Int32) (x6 : Int32) : Option (Int32 × S0) := if x6 < 0 then (ol (x3 + 1) (fun v2 => sf_5 σ x1 x5 v2)) else (if x2 = ((-4)) then (fX11_nearestStroke_b51 sf_5 sf_30 σ x1 x2 x3 x4 x5 x6) else (obp (fX11_canFollow σ x2 x6) (fun r4 σ5 => if r4 = 0 then (fX11_nearestStroke_b72 sf_5 sf_30 σ5 x1 x2 x3 x4 x5 x6) else (fX11_nearestStroke_b51 sf_5 sf_30 σ5 x1 x2 x3 x4 x5 x6))))
set_option maxHeartbeats 1000000 in
set_option maxRecDepth 100000 in
theorem fX11_nearestStroke_b30_ok {p : Program} {l : Launch} {e : Env} {s : State} {m : MethodId} {args : Array Value} {below : List Frame} {meth : Method} {c : Code} {dC : Nat → ClassId} {dI : Nat → Nat → Nat} {ad : Nat → Nat} {cy : Nat → ClassId} {sz : Nat} (C : Cx p s m args meth c RX11 cX11_nearestStroke 8 (some .int) dC dI ad cy sz) {rr : Int32} {ρ : S0} (sf_5 : S0 → Int32 → Int32 → Int32 → Option (Int32 × S0)) (hs_5 : ∀ (σ : S0) (x1 : Int32) (x2 : Int32) (x3 : Int32) , sf_5 σ x1 x2 x3 = some (rr, ρ) → Gw p l e rm_X11_nearestStroke s m args below meth c (MQ below (QcI dC dI ad cy sz rr ρ) args s 0 0 (AW ad sz)) dC dI ad cy 8 sz 0 0 5 [(0, .ref (ad 98)), (1, .int x1), (2, .int x2), (3, .int x3)] [] σ) (sf_30 : S0 → Int32 → Int32 → Int32 → Int32 → Int32 → Int32 → Option (Int32 × S0)) (hs_30 : ∀ (σ : S0) (x1 : Int32) (x2 : Int32) (x3 : Int32) (x4 : Int32) (x5 : Int32) (x6 : Int32) , sf_30 σ x1 x2 x3 x4 x5 x6 = some (rr, ρ) → Gw p l e rm_X11_nearestStroke s m args below meth c (MQ below (QcI dC dI ad cy sz rr ρ) args s 0 0 (AW ad sz)) dC dI ad cy 8 sz 0 0 30 [(0, .ref (ad 98)), (1, .int x1), (2, .int x2), (3, .int x3), (4, .int x4), (5, .int x5), (6, .int x6)] [] σ) (σ : S0) (x1 : Int32) (x2 : Int32) (x3 : Int32) (x4 : Int32) (x5 : Int32) (x6 : Int32)  (hf : fX11_nearestStroke_b30 sf_5 sf_30 σ x1 x2 x3 x4 x5 x6 = some (rr, ρ)) : Gw p l e rm_X11_nearestStroke s m args below meth c (MQ below (QcI dC dI ad cy sz rr ρ) args s 0 0 (AW ad sz)) dC dI ad cy 8 sz 0 0 30 [(0, .ref (ad 98)), (1, .int x1), (2, .int x2), (3, .int x3), (4, .int x4), (5, .int x5), (6, .int x6)] [] σ := by
  unfold fX11_nearestStroke_b30 at hf
  refine g_iload C dX11_nearestStroke_30 6 rfl ?_
  rcases oi_e hf with ⟨c1, hf⟩ | ⟨c1, hf⟩
  · refine g_if_lt_t (tgt := 95) C dX11_nearestStroke_32 (by decide) c1 ?_
    refine g_iload C dX11_nearestStroke_95 5 rfl ?_
    refine g_istore_n (lv2 := [(0, .ref (ad 98)), (1, .int x1), (2, .int x5), (3, .int x3), (4, .int x4), (5, .int x5), (6, .int x6)]) C dX11_nearestStroke_97 rfl (by decide) [1, 2, 0, 3, 4, 5, 6] rfl ?_
    obtain ⟨v2, ev2, hf⟩ := ol_e hf
    refine g_iinc (j := 3) (w := 1) (lv2 := [(0, .ref (ad 98)), (1, .int x1), (2, .int x5), (3, .int v2), (4, .int x4), (5, .int x5), (6, .int x6)]) C dX11_nearestStroke_98 rfl (by decide) ev2 (by decide) [1, 2, 3, 0, 4, 5, 6] rfl ?_
    refine g_goto (tgt := 5) C dX11_nearestStroke_101 (by decide) ?_
    exact g_sub [0, 1, 2, 3] rfl (hs_5 σ x1 x5 v2 hf)
  · refine g_if_lt_f (tgt := 95) C dX11_nearestStroke_32 (by decide) c1 ?_
    refine g_iload_n C dX11_nearestStroke_35 rfl 2 rfl ?_
    refine g_bipush (v := (-4)) C dX11_nearestStroke_36 (by decide) ?_
    rcases oi_e hf with ⟨c3, hf⟩ | ⟨c3, hf⟩
    · refine g_icmp_eq_t (tgt := 51) C dX11_nearestStroke_38 (by decide) c3 ?_
      exact g_sub [0, 1, 2, 3, 4, 5, 6] rfl (fX11_nearestStroke_b51_ok C sf_5 hs_5 sf_30 hs_30 σ x1 x2 x3 x4 x5 x6 hf)
    · refine g_icmp_eq_f (tgt := 51) C dX11_nearestStroke_38 (by decide) c3 ?_
      refine g_aload_n C dX11_nearestStroke_41 rfl 0 rfl ?_
      refine g_iload_n C dX11_nearestStroke_42 rfl 2 rfl ?_
      refine g_iload C dX11_nearestStroke_43 6 rfl ?_
      obtain ⟨r4, σ5, h6, hf⟩ := obp_e hf
      refine g_callVi (As := [.int x2, .int x6]) (rest := []) C (a_98 ad cy _) rfl (c_X11_canFollow l dC dI ad cy x2 x6) h6 hM_X11_279 cal_X11_canFollow ⟨Nat.zero_le _, Nat.zero_le _⟩ ⟨rfl, rfl⟩ ⟨Nat.le_of_ble_eq_true rfl, Nat.le_of_ble_eq_true rfl⟩ rfl rfl (Nat.le_of_ble_eq_true rfl) dX11_nearestStroke_45 ?_
      rcases oi_e hf with ⟨c7, hf⟩ | ⟨c7, hf⟩
      · refine g_if_eq_t (tgt := 72) C dX11_nearestStroke_48 (by decide) c7 ?_
        exact g_sub [0, 1, 2, 3, 4, 5, 6] rfl (fX11_nearestStroke_b72_ok C sf_5 hs_5 sf_30 hs_30 σ5 x1 x2 x3 x4 x5 x6 hf)
      · refine g_if_eq_f (tgt := 72) C dX11_nearestStroke_48 (by decide) c7 ?_
        exact g_sub [0, 1, 2, 3, 4, 5, 6] rfl (fX11_nearestStroke_b51_ok C sf_5 hs_5 sf_30 hs_30 σ5 x1 x2 x3 x4 x5 x6 hf)
def fX11_nearestStroke_h30 (sf_5 : S0 → Int32 → Int32 → Int32 → Option (Int32 × S0)) : Nat → S0 → Int32 → Int32 → Int32 → Int32 → Int32 → Int32 → Option (Int32 × S0)
  | 0 => fun _ _ _ _ _ _ _ => none
  | n + 1 => fun σ x1 x2 x3 x4 x5 x6 => fX11_nearestStroke_b30 sf_5 (fX11_nearestStroke_h30 sf_5 n) σ x1 x2 x3 x4 x5 x6
set_option maxHeartbeats 1000000 in
set_option maxRecDepth 100000 in
theorem fX11_nearestStroke_h30_ok {p : Program} {l : Launch} {e : Env} {s : State} {m : MethodId} {args : Array Value} {below : List Frame} {meth : Method} {c : Code} {dC : Nat → ClassId} {dI : Nat → Nat → Nat} {ad : Nat → Nat} {cy : Nat → ClassId} {sz : Nat} (C : Cx p s m args meth c RX11 cX11_nearestStroke 8 (some .int) dC dI ad cy sz) {rr : Int32} {ρ : S0} (sf_5 : S0 → Int32 → Int32 → Int32 → Option (Int32 × S0)) (hs_5 : ∀ (σ : S0) (x1 : Int32) (x2 : Int32) (x3 : Int32) , sf_5 σ x1 x2 x3 = some (rr, ρ) → Gw p l e rm_X11_nearestStroke s m args below meth c (MQ below (QcI dC dI ad cy sz rr ρ) args s 0 0 (AW ad sz)) dC dI ad cy 8 sz 0 0 5 [(0, .ref (ad 98)), (1, .int x1), (2, .int x2), (3, .int x3)] [] σ) : ∀ (n : Nat) (σ : S0) (x1 : Int32) (x2 : Int32) (x3 : Int32) (x4 : Int32) (x5 : Int32) (x6 : Int32)  (_hf : fX11_nearestStroke_h30 sf_5 n σ x1 x2 x3 x4 x5 x6 = some (rr, ρ)), Gw p l e rm_X11_nearestStroke s m args below meth c (MQ below (QcI dC dI ad cy sz rr ρ) args s 0 0 (AW ad sz)) dC dI ad cy 8 sz 0 0 30 [(0, .ref (ad 98)), (1, .int x1), (2, .int x2), (3, .int x3), (4, .int x4), (5, .int x5), (6, .int x6)] [] σ
  | 0, _, _, _, _, _, _, _, hf => by cases hf
  | n + 1, σ, x1, x2, x3, x4, x5, x6, hf => fX11_nearestStroke_b30_ok C sf_5 hs_5 (fX11_nearestStroke_h30 sf_5 n) (fX11_nearestStroke_h30_ok C sf_5 hs_5 n) σ x1 x2 x3 x4 x5 x6 hf
def fX11_nearestStroke_b5 (sf_5 : S0 → Int32 → Int32 → Int32 → Option (Int32 × S0)) (σ : S0) (x1 : Int32) (x2 : Int32) (x3 : Int32) : Option (Int32 × S0) := if x1 < x3 then (some (x2, σ)) else (obp (fX11_restOf σ x3 x2) (fun r2 σ3 => ol ((σ3 98 4) - 1) (fun v5 => fX11_nearestStroke_h30 sf_5 400 σ3 x1 x2 x3 r2 ((-4)) v5)))
set_option maxHeartbeats 1000000 in
set_option maxRecDepth 100000 in
theorem fX11_nearestStroke_b5_ok {p : Program} {l : Launch} {e : Env} {s : State} {m : MethodId} {args : Array Value} {below : List Frame} {meth : Method} {c : Code} {dC : Nat → ClassId} {dI : Nat → Nat → Nat} {ad : Nat → Nat} {cy : Nat → ClassId} {sz : Nat} (C : Cx p s m args meth c RX11 cX11_nearestStroke 8 (some .int) dC dI ad cy sz) {rr : Int32} {ρ : S0} (sf_5 : S0 → Int32 → Int32 → Int32 → Option (Int32 × S0)) (hs_5 : ∀ (σ : S0) (x1 : Int32) (x2 : Int32) (x3 : Int32) , sf_5 σ x1 x2 x3 = some (rr, ρ) → Gw p l e rm_X11_nearestStroke s m args below meth c (MQ below (QcI dC dI ad cy sz rr ρ) args s 0 0 (AW ad sz)) dC dI ad cy 8 sz 0 0 5 [(0, .ref (ad 98)), (1, .int x1), (2, .int x2), (3, .int x3)] [] σ) (σ : S0) (x1 : Int32) (x2 : Int32) (x3 : Int32)  (hf : fX11_nearestStroke_b5 sf_5 σ x1 x2 x3 = some (rr, ρ)) : Gw p l e rm_X11_nearestStroke s m args below meth c (MQ below (QcI dC dI ad cy sz rr ρ) args s 0 0 (AW ad sz)) dC dI ad cy 8 sz 0 0 5 [(0, .ref (ad 98)), (1, .int x1), (2, .int x2), (3, .int x3)] [] σ := by
  unfold fX11_nearestStroke_b5 at hf
  refine g_iload_n C dX11_nearestStroke_5 rfl 3 rfl ?_
  refine g_iload_n C dX11_nearestStroke_6 rfl 1 rfl ?_
  rcases oi_e hf with ⟨c1, hf⟩ | ⟨c1, hf⟩
  · refine g_icmp_gt_t (tgt := 104) C dX11_nearestStroke_7 (by decide) c1 ?_
    refine g_iload_n C dX11_nearestStroke_104 rfl 2 rfl ?_
    obtain ⟨rfl, rfl⟩ := os_e hf
    exact g_iret C rfl dX11_nearestStroke_105
  · refine g_icmp_gt_f (tgt := 104) C dX11_nearestStroke_7 (by decide) c1 ?_
    refine g_aload_n C dX11_nearestStroke_10 rfl 0 rfl ?_
    refine g_iload_n C dX11_nearestStroke_11 rfl 3 rfl ?_
    refine g_iload_n C dX11_nearestStroke_12 rfl 2 rfl ?_
    obtain ⟨r2, σ3, h4, hf⟩ := obp_e hf
    refine g_callVi (As := [.int x3, .int x2]) (rest := []) C (a_98 ad cy _) rfl (c_X11_restOf l dC dI ad cy x3 x2) h4 hM_X11_282 cal_X11_restOf ⟨Nat.zero_le _, Nat.zero_le _⟩ ⟨rfl, rfl⟩ ⟨Nat.le_of_ble_eq_true rfl, Nat.le_of_ble_eq_true rfl⟩ rfl rfl (Nat.le_of_ble_eq_true rfl) dX11_nearestStroke_13 ?_
    refine g_istore (lv2 := [(0, .ref (ad 98)), (1, .int x1), (2, .int x2), (3, .int x3), (4, .int r2)]) C dX11_nearestStroke_16 (by decide) [1, 2, 3, 4, 0] rfl ?_
    refine g_bipush (v := (-4)) C dX11_nearestStroke_18 (by decide) ?_
    refine g_istore (lv2 := [(0, .ref (ad 98)), (1, .int x1), (2, .int x2), (3, .int x3), (4, .int r2), (5, .int ((-4)))]) C dX11_nearestStroke_20 (by decide) [1, 2, 3, 4, 5, 0] rfl ?_
    refine g_aload_n C dX11_nearestStroke_22 rfl 0 rfl ?_
    refine g_get C (a_98 ad cy _) rfl hin_X11 4 (by decide) hF_X11_81 rfl rfl dX11_nearestStroke_23 ?_
    refine g_iconst (v := 1) C dX11_nearestStroke_26 (by decide) ?_
    refine g_isub C dX11_nearestStroke_27 ?_
    obtain ⟨v5, ev5, hf⟩ := ol_e hf
    refine g_nm ev5 ?_
    refine g_istore (lv2 := [(0, .ref (ad 98)), (1, .int x1), (2, .int x2), (3, .int x3), (4, .int r2), (5, .int ((-4))), (6, .int v5)]) C dX11_nearestStroke_28 (by decide) [1, 2, 3, 4, 5, 6, 0] rfl ?_
    exact g_sub [0, 1, 2, 3, 4, 5, 6] rfl (fX11_nearestStroke_h30_ok C sf_5 hs_5 400 σ3 x1 x2 x3 r2 ((-4)) v5 hf)
def fX11_nearestStroke_h5  : Nat → S0 → Int32 → Int32 → Int32 → Option (Int32 × S0)
  | 0 => fun _ _ _ _ => none
  | n + 1 => fun σ x1 x2 x3 => fX11_nearestStroke_b5  (fX11_nearestStroke_h5  n) σ x1 x2 x3
set_option maxHeartbeats 1000000 in
set_option maxRecDepth 100000 in
theorem fX11_nearestStroke_h5_ok {p : Program} {l : Launch} {e : Env} {s : State} {m : MethodId} {args : Array Value} {below : List Frame} {meth : Method} {c : Code} {dC : Nat → ClassId} {dI : Nat → Nat → Nat} {ad : Nat → Nat} {cy : Nat → ClassId} {sz : Nat} (C : Cx p s m args meth c RX11 cX11_nearestStroke 8 (some .int) dC dI ad cy sz) {rr : Int32} {ρ : S0}  : ∀ (n : Nat) (σ : S0) (x1 : Int32) (x2 : Int32) (x3 : Int32)  (_hf : fX11_nearestStroke_h5  n σ x1 x2 x3 = some (rr, ρ)), Gw p l e rm_X11_nearestStroke s m args below meth c (MQ below (QcI dC dI ad cy sz rr ρ) args s 0 0 (AW ad sz)) dC dI ad cy 8 sz 0 0 5 [(0, .ref (ad 98)), (1, .int x1), (2, .int x2), (3, .int x3)] [] σ
  | 0, _, _, _, _, hf => by cases hf
  | n + 1, σ, x1, x2, x3, hf => fX11_nearestStroke_b5_ok C  (fX11_nearestStroke_h5  n) (fX11_nearestStroke_h5_ok C  n) σ x1 x2 x3 hf
def fX11_nearestStroke (σ : S0) (x1 : Int32) : Option (Int32 × S0) := fX11_nearestStroke_h5 400 σ x1 ((-4)) 0
set_option maxHeartbeats 1000000 in
set_option maxRecDepth 100000 in
theorem fX11_nearestStroke_ok {p : Program} {l : Launch} {e : Env} {s : State} {m : MethodId} {args : Array Value} {below : List Frame} {meth : Method} {c : Code} {dC : Nat → ClassId} {dI : Nat → Nat → Nat} {ad : Nat → Nat} {cy : Nat → ClassId} {sz : Nat} (C : Cx p s m args meth c RX11 cX11_nearestStroke 8 (some .int) dC dI ad cy sz) {rr : Int32} {ρ : S0} (σ : S0) (x1 : Int32)  (hf : fX11_nearestStroke σ x1 = some (rr, ρ)) : Gw p l e rm_X11_nearestStroke s m args below meth c (MQ below (QcI dC dI ad cy sz rr ρ) args s 0 0 (AW ad sz)) dC dI ad cy 8 sz 0 0 0 [(0, .ref (ad 98)), (1, .int x1)] [] σ := by
  unfold fX11_nearestStroke at hf
  refine g_bipush (v := (-4)) C dX11_nearestStroke_0 (by decide) ?_
  refine g_istore_n (lv2 := [(0, .ref (ad 98)), (1, .int x1), (2, .int ((-4)))]) C dX11_nearestStroke_2 rfl (by decide) [1, 2, 0] rfl ?_
  refine g_iconst (v := 0) C dX11_nearestStroke_3 (by decide) ?_
  refine g_istore_n (lv2 := [(0, .ref (ad 98)), (1, .int x1), (2, .int ((-4))), (3, .int 0)]) C dX11_nearestStroke_4 rfl (by decide) [1, 2, 3, 0] rfl ?_
  exact g_sub [0, 1, 2, 3] rfl (fX11_nearestStroke_h5_ok C 400 σ x1 ((-4)) 0 hf)
theorem c_X11_nearestStroke (l : Launch) (dC : Nat → ClassId) (dI : Nat → Nat → Nat) (ad : Nat → Nat) (cy : Nat → ClassId) (x1 : Int32) : ConI l yX11_nearestStroke cX11_nearestStroke 8 (some .int) rm_X11_nearestStroke dC dI ad cy [.ref (ad 98), .int x1] (fun σ => fX11_nearestStroke σ x1) := con_i (own := RX11) (by decide) rfl (Nat.le_of_ble_eq_true rfl) (fun _ _ _ _ _ _ _ _ σ _ _ C hf => fX11_nearestStroke_ok C σ x1 hf)
theorem cal_X11_nearestStroke : CalV yX11_nearestStroke RX11 cX11_nearestStroke 8 (some .int) 1 := ⟨hI_X11_nearestStroke, hS_X11_nearestStroke, hIni_X11, hC_X11_nearestStroke, by decide +kernel⟩
abbrev rm_X11_nearest : Room := { frames := 4, cells := 0, slots := 0, locals := 95 }
def fX11_nearest_b42  (σ : S0) (x1 : Int32) (x2 : Int32) (x3 : Int32) : Option (Int32 × S0) := obp (fX11_nearestSum σ x1 x2) (fun r1 σ2 => if ¬ r1 = 99999 then (if ¬ x3 = 0 then (obp (fX11_nearestStroke σ2 (x3 - 10)) (fun r6 σ7 => some (r6, σ7))) else (some (r1, σ2))) else (some ((-4), σ2)))
set_option maxHeartbeats 1000000 in
set_option maxRecDepth 100000 in
theorem fX11_nearest_b42_ok {p : Program} {l : Launch} {e : Env} {s : State} {m : MethodId} {args : Array Value} {below : List Frame} {meth : Method} {c : Code} {dC : Nat → ClassId} {dI : Nat → Nat → Nat} {ad : Nat → Nat} {cy : Nat → ClassId} {sz : Nat} (C : Cx p s m args meth c RX11 cX11_nearest 5 (some .int) dC dI ad cy sz) {rr : Int32} {ρ : S0}  (σ : S0) (x1 : Int32) (x2 : Int32) (x3 : Int32)  (hf : fX11_nearest_b42 σ x1 x2 x3 = some (rr, ρ)) : Gw p l e rm_X11_nearest s m args below meth c (MQ below (QcI dC dI ad cy sz rr ρ) args s 0 0 (AW ad sz)) dC dI ad cy 5 sz 0 0 42 [(0, .ref (ad 98)), (1, .int x1), (2, .int x2), (3, .int x3)] [] σ := by
  unfold fX11_nearest_b42 at hf
  refine g_aload_n C dX11_nearest_42 rfl 0 rfl ?_
  refine g_iload_n C dX11_nearest_43 rfl 1 rfl ?_
  refine g_iload_n C dX11_nearest_44 rfl 2 rfl ?_
  obtain ⟨r1, σ2, h3, hf⟩ := obp_e hf
  refine g_callVi (As := [.int x1, .int x2]) (rest := []) C (a_98 ad cy _) rfl (c_X11_nearestSum l dC dI ad cy x1 x2) h3 hM_X11_288 cal_X11_nearestSum ⟨Nat.zero_le _, Nat.zero_le _⟩ ⟨rfl, rfl⟩ ⟨Nat.le_of_ble_eq_true rfl, Nat.le_of_ble_eq_true rfl⟩ rfl rfl (Nat.le_of_ble_eq_true rfl) dX11_nearest_45 ?_
  refine g_istore (lv2 := [(0, .ref (ad 98)), (1, .int x1), (2, .int x2), (3, .int x3), (4, .int r1)]) C dX11_nearest_48 (by decide) [1, 2, 3, 4, 0] rfl ?_
  refine g_iload C dX11_nearest_50 4 rfl ?_
  refine g_ldcw (v := 99999) C dX11_nearest_52 hK_X11_262 ?_
  rcases oi_e hf with ⟨c4, hf⟩ | ⟨c4, hf⟩
  · refine g_icmp_ne_t (tgt := 63) C dX11_nearest_55 (by decide) c4 ?_
    refine g_iload_n C dX11_nearest_63 rfl 3 rfl ?_
    rcases oi_e hf with ⟨c5, hf⟩ | ⟨c5, hf⟩
    · refine g_if_ne_t (tgt := 72) C dX11_nearest_64 (by decide) c5 ?_
      refine g_aload_n C dX11_nearest_72 rfl 0 rfl ?_
      refine g_iload_n C dX11_nearest_73 rfl 3 rfl ?_
      refine g_bipush (v := 10) C dX11_nearest_74 (by decide) ?_
      refine g_isub C dX11_nearest_76 ?_
      obtain ⟨r6, σ7, h8, hf⟩ := obp_e hf
      refine g_callVi (As := [.int (x3 - 10)]) (rest := []) C (a_98 ad cy _) rfl (c_X11_nearestStroke l dC dI ad cy (x3 - 10)) h8 hM_X11_291 cal_X11_nearestStroke ⟨Nat.zero_le _, Nat.zero_le _⟩ ⟨rfl, rfl⟩ ⟨Nat.le_of_ble_eq_true rfl, Nat.le_of_ble_eq_true rfl⟩ rfl rfl (Nat.le_of_ble_eq_true rfl) dX11_nearest_77 ?_
      obtain ⟨rfl, rfl⟩ := os_e hf
      exact g_iret C rfl dX11_nearest_80
    · refine g_if_ne_f (tgt := 72) C dX11_nearest_64 (by decide) (Decidable.of_not_not c5) ?_
      refine g_iload C dX11_nearest_67 4 rfl ?_
      refine g_goto (tgt := 80) C dX11_nearest_69 (by decide) ?_
      obtain ⟨rfl, rfl⟩ := os_e hf
      exact g_iret C rfl dX11_nearest_80
  · refine g_icmp_ne_f (tgt := 63) C dX11_nearest_55 (by decide) (Decidable.of_not_not c4) ?_
    refine g_bipush (v := (-4)) C dX11_nearest_58 (by decide) ?_
    refine g_goto (tgt := 80) C dX11_nearest_60 (by decide) ?_
    obtain ⟨rfl, rfl⟩ := os_e hf
    exact g_iret C rfl dX11_nearest_80
def fX11_nearest (σ : S0) (x1 : Int32) (x2 : Int32) (x3 : Int32) : Option (Int32 × S0) := obp (fX11_isTune σ x1) (fun r1 σ2 => if r1 = 0 then (some ((-1), σ2)) else (obp (fX11_isBell σ2 x2) (fun r5 σ6 => if r5 = 0 then (some ((-1), σ6)) else (if x3 = 0 then (fX11_nearest_b42 σ6 x1 x2 x3) else (obp (fX11_strokes σ6 x1) (fun r10 σ11 => obp (fX11_in σ11 x3.toInt64 ((10 : Int64)) ((9 + r10).toInt64)) (fun r13 σ14 => if ¬ r13 = 0 then (fX11_nearest_b42 σ14 x1 x2 x3) else (some ((-1), σ14)))))))))
set_option maxHeartbeats 1000000 in
set_option maxRecDepth 100000 in
theorem fX11_nearest_ok {p : Program} {l : Launch} {e : Env} {s : State} {m : MethodId} {args : Array Value} {below : List Frame} {meth : Method} {c : Code} {dC : Nat → ClassId} {dI : Nat → Nat → Nat} {ad : Nat → Nat} {cy : Nat → ClassId} {sz : Nat} (C : Cx p s m args meth c RX11 cX11_nearest 5 (some .int) dC dI ad cy sz) {rr : Int32} {ρ : S0} (σ : S0) (x1 : Int32) (x2 : Int32) (x3 : Int32)  (hf : fX11_nearest σ x1 x2 x3 = some (rr, ρ)) : Gw p l e rm_X11_nearest s m args below meth c (MQ below (QcI dC dI ad cy sz rr ρ) args s 0 0 (AW ad sz)) dC dI ad cy 5 sz 0 0 0 [(0, .ref (ad 98)), (1, .int x1), (2, .int x2), (3, .int x3)] [] σ := by
  unfold fX11_nearest at hf
  refine g_aload_n C dX11_nearest_0 rfl 0 rfl ?_
  refine g_iload_n C dX11_nearest_1 rfl 1 rfl ?_
  obtain ⟨r1, σ2, h3, hf⟩ := obp_e hf
  refine g_callVi (As := [.int x1]) (rest := []) C (a_98 ad cy _) rfl (c_X11_isTune l dC dI ad cy x1) h3 hM_X11_175 cal_X11_isTune ⟨Nat.zero_le _, Nat.zero_le _⟩ ⟨rfl, rfl⟩ ⟨Nat.le_of_ble_eq_true rfl, Nat.le_of_ble_eq_true rfl⟩ rfl rfl (Nat.le_of_ble_eq_true rfl) dX11_nearest_2 ?_
  rcases oi_e hf with ⟨c4, hf⟩ | ⟨c4, hf⟩
  · refine g_if_eq_t (tgt := 40) C dX11_nearest_5 (by decide) c4 ?_
    refine g_iconst (v := (-1)) C dX11_nearest_40 (by decide) ?_
    obtain ⟨rfl, rfl⟩ := os_e hf
    exact g_iret C rfl dX11_nearest_41
  · refine g_if_eq_f (tgt := 40) C dX11_nearest_5 (by decide) c4 ?_
    refine g_aload_n C dX11_nearest_8 rfl 0 rfl ?_
    refine g_iload_n C dX11_nearest_9 rfl 2 rfl ?_
    obtain ⟨r5, σ6, h7, hf⟩ := obp_e hf
    refine g_callVi (As := [.int x2]) (rest := []) C (a_98 ad cy _) rfl (c_X11_isBell l dC dI ad cy x2) h7 hM_X11_166 cal_X11_isBell ⟨Nat.zero_le _, Nat.zero_le _⟩ ⟨rfl, rfl⟩ ⟨Nat.le_of_ble_eq_true rfl, Nat.le_of_ble_eq_true rfl⟩ rfl rfl (Nat.le_of_ble_eq_true rfl) dX11_nearest_10 ?_
    rcases oi_e hf with ⟨c8, hf⟩ | ⟨c8, hf⟩
    · refine g_if_eq_t (tgt := 40) C dX11_nearest_13 (by decide) c8 ?_
      refine g_iconst (v := (-1)) C dX11_nearest_40 (by decide) ?_
      obtain ⟨rfl, rfl⟩ := os_e hf
      exact g_iret C rfl dX11_nearest_41
    · refine g_if_eq_f (tgt := 40) C dX11_nearest_13 (by decide) c8 ?_
      refine g_iload_n C dX11_nearest_16 rfl 3 rfl ?_
      rcases oi_e hf with ⟨c9, hf⟩ | ⟨c9, hf⟩
      · refine g_if_eq_t (tgt := 42) C dX11_nearest_17 (by decide) c9 ?_
        exact g_sub [0, 1, 2, 3] rfl (fX11_nearest_b42_ok C σ6 x1 x2 x3 hf)
      · refine g_if_eq_f (tgt := 42) C dX11_nearest_17 (by decide) c9 ?_
        refine g_iload_n C dX11_nearest_20 rfl 3 rfl ?_
        refine g_i2l C dX11_nearest_21 ?_
        refine g_ldc2 (v := 10) C dX11_nearest_22 hK_X11_178 ?_
        refine g_bipush (v := 9) C dX11_nearest_25 (by decide) ?_
        refine g_aload_n C dX11_nearest_27 rfl 0 rfl ?_
        refine g_iload_n C dX11_nearest_28 rfl 1 rfl ?_
        obtain ⟨r10, σ11, h12, hf⟩ := obp_e hf
        refine g_callVi (As := [.int x1]) (rest := [.int 9, .long 10, .long x3.toInt64]) C (a_98 ad cy _) rfl (c_X11_strokes l dC dI ad cy x1) h12 hM_X11_180 cal_X11_strokes ⟨Nat.zero_le _, Nat.zero_le _⟩ ⟨rfl, rfl⟩ ⟨Nat.le_of_ble_eq_true rfl, Nat.le_of_ble_eq_true rfl⟩ rfl rfl (Nat.le_of_ble_eq_true rfl) dX11_nearest_29 ?_
        refine g_iadd C dX11_nearest_32 ?_
        refine g_i2l C dX11_nearest_33 ?_
        obtain ⟨r13, σ14, h15, hf⟩ := obp_e hf
        refine g_callSi (As := [.long x3.toInt64, .long 10, .long ((9 + r10).toInt64)]) (rest := []) C (c_X11_in l dC dI ad cy x3.toInt64 ((10 : Int64)) ((9 + r10).toInt64)) h15 hM_X11_92 cal_X11_in ⟨Nat.zero_le _, Nat.zero_le _⟩ ⟨rfl, rfl⟩ ⟨Nat.le_of_ble_eq_true rfl, Nat.le_of_ble_eq_true rfl⟩ rfl rfl (Nat.le_of_ble_eq_true rfl) dX11_nearest_34 ?_
        rcases oi_e hf with ⟨c16, hf⟩ | ⟨c16, hf⟩
        · refine g_if_ne_t (tgt := 42) C dX11_nearest_37 (by decide) c16 ?_
          exact g_sub [0, 1, 2, 3] rfl (fX11_nearest_b42_ok C σ14 x1 x2 x3 hf)
        · refine g_if_ne_f (tgt := 42) C dX11_nearest_37 (by decide) (Decidable.of_not_not c16) ?_
          refine g_iconst (v := (-1)) C dX11_nearest_40 (by decide) ?_
          obtain ⟨rfl, rfl⟩ := os_e hf
          exact g_iret C rfl dX11_nearest_41
theorem c_X11_nearest (l : Launch) (dC : Nat → ClassId) (dI : Nat → Nat → Nat) (ad : Nat → Nat) (cy : Nat → ClassId) (x1 : Int32) (x2 : Int32) (x3 : Int32) : ConI l yX11_nearest cX11_nearest 5 (some .int) rm_X11_nearest dC dI ad cy [.ref (ad 98), .int x1, .int x2, .int x3] (fun σ => fX11_nearest σ x1 x2 x3) := con_i (own := RX11) (by decide) rfl (Nat.le_of_ble_eq_true rfl) (fun _ _ _ _ _ _ _ _ σ _ _ C hf => fX11_nearest_ok C σ x1 x2 x3 hf)
theorem cal_X11_nearest : CalV yX11_nearest RX11 cX11_nearest 5 (some .int) 3 := ⟨hI_X11_nearest, hS_X11_nearest, hIni_X11, hC_X11_nearest, by decide +kernel⟩
abbrev rm_X11_dear : Room := { frames := 4, cells := 0, slots := 0, locals := 95 }
def fX11_dear_b78 (sf_18 : S0 → Int32 → Int32 → Int32 → Int32 → Option (Int32 × S0)) (σ : S0) (x1 : Int32) (x2 : Int32) (x4 : Int32) (t0 : Int32) : Option (Int32 × S0) := ol (x4 + 1) (fun v1 => sf_18 σ x1 x2 t0 v1)
set_option maxHeartbeats 1000000 in
set_option maxRecDepth 100000 in
theorem fX11_dear_b78_ok {p : Program} {l : Launch} {e : Env} {s : State} {m : MethodId} {args : Array Value} {below : List Frame} {meth : Method} {c : Code} {dC : Nat → ClassId} {dI : Nat → Nat → Nat} {ad : Nat → Nat} {cy : Nat → ClassId} {sz : Nat} (C : Cx p s m args meth c RX11 cX11_dear 7 (some .int) dC dI ad cy sz) {rr : Int32} {ρ : S0} (sf_18 : S0 → Int32 → Int32 → Int32 → Int32 → Option (Int32 × S0)) (hs_18 : ∀ (σ : S0) (x1 : Int32) (x2 : Int32) (x3 : Int32) (x4 : Int32) , sf_18 σ x1 x2 x3 x4 = some (rr, ρ) → Gw p l e rm_X11_dear s m args below meth c (MQ below (QcI dC dI ad cy sz rr ρ) args s 0 0 (AW ad sz)) dC dI ad cy 7 sz 0 0 18 [(0, .ref (ad 98)), (1, .int x1), (2, .int x2), (3, .int x3), (4, .int x4)] [] σ) (σ : S0) (x1 : Int32) (x2 : Int32) (x4 : Int32) (t0 : Int32)  (hf : fX11_dear_b78 sf_18 σ x1 x2 x4 t0 = some (rr, ρ)) : Gw p l e rm_X11_dear s m args below meth c (MQ below (QcI dC dI ad cy sz rr ρ) args s 0 0 (AW ad sz)) dC dI ad cy 7 sz 0 0 78 [(0, .ref (ad 98)), (1, .int x1), (2, .int x2), (4, .int x4)] [.int t0] σ := by
  unfold fX11_dear_b78 at hf
  refine g_istore_n (lv2 := [(0, .ref (ad 98)), (1, .int x1), (2, .int x2), (3, .int t0), (4, .int x4)]) C dX11_dear_78 rfl (by decide) [1, 2, 3, 0, 4] rfl ?_
  obtain ⟨v1, ev1, hf⟩ := ol_e hf
  refine g_iinc (j := 4) (w := 1) (lv2 := [(0, .ref (ad 98)), (1, .int x1), (2, .int x2), (3, .int t0), (4, .int v1)]) C dX11_dear_79 rfl (by decide) ev1 (by decide) [1, 2, 3, 4, 0] rfl ?_
  refine g_goto (tgt := 18) C dX11_dear_82 (by decide) ?_
  exact g_sub [0, 1, 2, 3, 4] rfl (hs_18 σ x1 x2 t0 v1 hf)
def fX11_dear_b66 (sf_18 : S0 → Int32 → Int32 → Int32 → Int32 → Option (Int32 × S0)) (σ : S0) (x1 : Int32) (x3 : Int32) (x4 : Int32) (x5 : Int32) (x6 : Int32) (t0 : Int32) : Option (Int32 × S0) := if x6 = 0 then (fX11_dear_b78 sf_18 σ x1 t0 x4 x3) else (fX11_dear_b78 sf_18 σ x1 t0 x4 x5)
set_option maxHeartbeats 1000000 in
set_option maxRecDepth 100000 in
theorem fX11_dear_b66_ok {p : Program} {l : Launch} {e : Env} {s : State} {m : MethodId} {args : Array Value} {below : List Frame} {meth : Method} {c : Code} {dC : Nat → ClassId} {dI : Nat → Nat → Nat} {ad : Nat → Nat} {cy : Nat → ClassId} {sz : Nat} (C : Cx p s m args meth c RX11 cX11_dear 7 (some .int) dC dI ad cy sz) {rr : Int32} {ρ : S0} (sf_18 : S0 → Int32 → Int32 → Int32 → Int32 → Option (Int32 × S0)) (hs_18 : ∀ (σ : S0) (x1 : Int32) (x2 : Int32) (x3 : Int32) (x4 : Int32) , sf_18 σ x1 x2 x3 x4 = some (rr, ρ) → Gw p l e rm_X11_dear s m args below meth c (MQ below (QcI dC dI ad cy sz rr ρ) args s 0 0 (AW ad sz)) dC dI ad cy 7 sz 0 0 18 [(0, .ref (ad 98)), (1, .int x1), (2, .int x2), (3, .int x3), (4, .int x4)] [] σ) (σ : S0) (x1 : Int32) (x3 : Int32) (x4 : Int32) (x5 : Int32) (x6 : Int32) (t0 : Int32)  (hf : fX11_dear_b66 sf_18 σ x1 x3 x4 x5 x6 t0 = some (rr, ρ)) : Gw p l e rm_X11_dear s m args below meth c (MQ below (QcI dC dI ad cy sz rr ρ) args s 0 0 (AW ad sz)) dC dI ad cy 7 sz 0 0 66 [(0, .ref (ad 98)), (1, .int x1), (3, .int x3), (4, .int x4), (5, .int x5), (6, .int x6)] [.int t0] σ := by
  unfold fX11_dear_b66 at hf
  refine g_istore_n (lv2 := [(0, .ref (ad 98)), (1, .int x1), (2, .int t0), (3, .int x3), (4, .int x4), (5, .int x5), (6, .int x6)]) C dX11_dear_66 rfl (by decide) [1, 2, 0, 3, 4, 5, 6] rfl ?_
  refine g_iload C dX11_dear_67 6 rfl ?_
  rcases oi_e hf with ⟨c1, hf⟩ | ⟨c1, hf⟩
  · refine g_if_eq_t (tgt := 77) C dX11_dear_69 (by decide) c1 ?_
    refine g_iload_n C dX11_dear_77 rfl 3 rfl ?_
    exact g_sub [0, 1, 2, 4] rfl (fX11_dear_b78_ok C sf_18 hs_18 σ x1 t0 x4 x3 hf)
  · refine g_if_eq_f (tgt := 77) C dX11_dear_69 (by decide) c1 ?_
    refine g_iload C dX11_dear_72 5 rfl ?_
    refine g_goto (tgt := 78) C dX11_dear_74 (by decide) ?_
    exact g_sub [0, 1, 2, 4] rfl (fX11_dear_b78_ok C sf_18 hs_18 σ x1 t0 x4 x5 hf)
def fX11_dear_b53 (sf_18 : S0 → Int32 → Int32 → Int32 → Int32 → Option (Int32 × S0)) (σ : S0) (x1 : Int32) (x2 : Int32) (x3 : Int32) (x4 : Int32) (x5 : Int32) (t0 : Int32) : Option (Int32 × S0) := if t0 = 0 then (fX11_dear_b66 sf_18 σ x1 x3 x4 x5 t0 x2) else (fX11_dear_b66 sf_18 σ x1 x3 x4 x5 t0 x4)
set_option maxHeartbeats 1000000 in
set_option maxRecDepth 100000 in
theorem fX11_dear_b53_ok {p : Program} {l : Launch} {e : Env} {s : State} {m : MethodId} {args : Array Value} {below : List Frame} {meth : Method} {c : Code} {dC : Nat → ClassId} {dI : Nat → Nat → Nat} {ad : Nat → Nat} {cy : Nat → ClassId} {sz : Nat} (C : Cx p s m args meth c RX11 cX11_dear 7 (some .int) dC dI ad cy sz) {rr : Int32} {ρ : S0} (sf_18 : S0 → Int32 → Int32 → Int32 → Int32 → Option (Int32 × S0)) (hs_18 : ∀ (σ : S0) (x1 : Int32) (x2 : Int32) (x3 : Int32) (x4 : Int32) , sf_18 σ x1 x2 x3 x4 = some (rr, ρ) → Gw p l e rm_X11_dear s m args below meth c (MQ below (QcI dC dI ad cy sz rr ρ) args s 0 0 (AW ad sz)) dC dI ad cy 7 sz 0 0 18 [(0, .ref (ad 98)), (1, .int x1), (2, .int x2), (3, .int x3), (4, .int x4)] [] σ) (σ : S0) (x1 : Int32) (x2 : Int32) (x3 : Int32) (x4 : Int32) (x5 : Int32) (t0 : Int32)  (hf : fX11_dear_b53 sf_18 σ x1 x2 x3 x4 x5 t0 = some (rr, ρ)) : Gw p l e rm_X11_dear s m args below meth c (MQ below (QcI dC dI ad cy sz rr ρ) args s 0 0 (AW ad sz)) dC dI ad cy 7 sz 0 0 53 [(0, .ref (ad 98)), (1, .int x1), (2, .int x2), (3, .int x3), (4, .int x4), (5, .int x5)] [.int t0] σ := by
  unfold fX11_dear_b53 at hf
  refine g_istore (lv2 := [(0, .ref (ad 98)), (1, .int x1), (2, .int x2), (3, .int x3), (4, .int x4), (5, .int x5), (6, .int t0)]) C dX11_dear_53 (by decide) [1, 2, 3, 4, 5, 6, 0] rfl ?_
  refine g_iload C dX11_dear_55 6 rfl ?_
  rcases oi_e hf with ⟨c1, hf⟩ | ⟨c1, hf⟩
  · refine g_if_eq_t (tgt := 65) C dX11_dear_57 (by decide) c1 ?_
    refine g_iload_n C dX11_dear_65 rfl 2 rfl ?_
    exact g_sub [0, 1, 3, 4, 5, 6] rfl (fX11_dear_b66_ok C sf_18 hs_18 σ x1 x3 x4 x5 t0 x2 hf)
  · refine g_if_eq_f (tgt := 65) C dX11_dear_57 (by decide) c1 ?_
    refine g_iload C dX11_dear_60 4 rfl ?_
    refine g_goto (tgt := 66) C dX11_dear_62 (by decide) ?_
    exact g_sub [0, 1, 3, 4, 5, 6] rfl (fX11_dear_b66_ok C sf_18 hs_18 σ x1 x3 x4 x5 t0 x4 hf)
def fX11_dear_b48 (sf_18 : S0 → Int32 → Int32 → Int32 → Int32 → Option (Int32 × S0)) (σ : S0) (x1 : Int32) (x2 : Int32) (x3 : Int32) (x4 : Int32) (x5 : Int32) : Option (Int32 × S0) := fX11_dear_b53 sf_18 σ x1 x2 x3 x4 x5 1
set_option maxHeartbeats 1000000 in
set_option maxRecDepth 100000 in
theorem fX11_dear_b48_ok {p : Program} {l : Launch} {e : Env} {s : State} {m : MethodId} {args : Array Value} {below : List Frame} {meth : Method} {c : Code} {dC : Nat → ClassId} {dI : Nat → Nat → Nat} {ad : Nat → Nat} {cy : Nat → ClassId} {sz : Nat} (C : Cx p s m args meth c RX11 cX11_dear 7 (some .int) dC dI ad cy sz) {rr : Int32} {ρ : S0} (sf_18 : S0 → Int32 → Int32 → Int32 → Int32 → Option (Int32 × S0)) (hs_18 : ∀ (σ : S0) (x1 : Int32) (x2 : Int32) (x3 : Int32) (x4 : Int32) , sf_18 σ x1 x2 x3 x4 = some (rr, ρ) → Gw p l e rm_X11_dear s m args below meth c (MQ below (QcI dC dI ad cy sz rr ρ) args s 0 0 (AW ad sz)) dC dI ad cy 7 sz 0 0 18 [(0, .ref (ad 98)), (1, .int x1), (2, .int x2), (3, .int x3), (4, .int x4)] [] σ) (σ : S0) (x1 : Int32) (x2 : Int32) (x3 : Int32) (x4 : Int32) (x5 : Int32)  (hf : fX11_dear_b48 sf_18 σ x1 x2 x3 x4 x5 = some (rr, ρ)) : Gw p l e rm_X11_dear s m args below meth c (MQ below (QcI dC dI ad cy sz rr ρ) args s 0 0 (AW ad sz)) dC dI ad cy 7 sz 0 0 48 [(0, .ref (ad 98)), (1, .int x1), (2, .int x2), (3, .int x3), (4, .int x4), (5, .int x5)] [] σ := by
  unfold fX11_dear_b48 at hf
  refine g_iconst (v := 1) C dX11_dear_48 (by decide) ?_
  refine g_goto (tgt := 53) C dX11_dear_49 (by decide) ?_
  exact g_sub [0, 1, 2, 3, 4, 5] rfl (fX11_dear_b53_ok C sf_18 hs_18 σ x1 x2 x3 x4 x5 1 hf)
def fX11_dear_b18 (sf_18 : S0 → Int32 → Int32 → Int32 → Int32 → Option (Int32 × S0)) (σ : S0) (x1 : Int32) (x2 : Int32) (x3 : Int32) (x4 : Int32) : Option (Int32 × S0) := if (σ 98 4) ≤ x4 then (some (x2, σ)) else (obp (fX11_nearestSum σ x1 x4) (fun r2 σ3 => if x2 = ((-4)) then (fX11_dear_b48 sf_18 σ3 x1 x2 x3 x4 r2) else (if r2 ≤ x3 then (fX11_dear_b53 sf_18 σ3 x1 x2 x3 x4 r2 0) else (fX11_dear_b48 sf_18 σ3 x1 x2 x3 x4 r2))))
set_option maxHeartbeats 1000000 in
set_option maxRecDepth 100000 in
theorem fX11_dear_b18_ok {p : Program} {l : Launch} {e : Env} {s : State} {m : MethodId} {args : Array Value} {below : List Frame} {meth : Method} {c : Code} {dC : Nat → ClassId} {dI : Nat → Nat → Nat} {ad : Nat → Nat} {cy : Nat → ClassId} {sz : Nat} (C : Cx p s m args meth c RX11 cX11_dear 7 (some .int) dC dI ad cy sz) {rr : Int32} {ρ : S0} (sf_18 : S0 → Int32 → Int32 → Int32 → Int32 → Option (Int32 × S0)) (hs_18 : ∀ (σ : S0) (x1 : Int32) (x2 : Int32) (x3 : Int32) (x4 : Int32) , sf_18 σ x1 x2 x3 x4 = some (rr, ρ) → Gw p l e rm_X11_dear s m args below meth c (MQ below (QcI dC dI ad cy sz rr ρ) args s 0 0 (AW ad sz)) dC dI ad cy 7 sz 0 0 18 [(0, .ref (ad 98)), (1, .int x1), (2, .int x2), (3, .int x3), (4, .int x4)] [] σ) (σ : S0) (x1 : Int32) (x2 : Int32) (x3 : Int32) (x4 : Int32)  (hf : fX11_dear_b18 sf_18 σ x1 x2 x3 x4 = some (rr, ρ)) : Gw p l e rm_X11_dear s m args below meth c (MQ below (QcI dC dI ad cy sz rr ρ) args s 0 0 (AW ad sz)) dC dI ad cy 7 sz 0 0 18 [(0, .ref (ad 98)), (1, .int x1), (2, .int x2), (3, .int x3), (4, .int x4)] [] σ := by
  unfold fX11_dear_b18 at hf
  refine g_iload C dX11_dear_18 4 rfl ?_
  refine g_aload_n C dX11_dear_20 rfl 0 rfl ?_
  refine g_get C (a_98 ad cy _) rfl hin_X11 4 (by decide) hF_X11_81 rfl rfl dX11_dear_21 ?_
  rcases oi_e hf with ⟨c1, hf⟩ | ⟨c1, hf⟩
  · refine g_icmp_ge_t (tgt := 85) C dX11_dear_24 (by decide) c1 ?_
    refine g_iload_n C dX11_dear_85 rfl 2 rfl ?_
    obtain ⟨rfl, rfl⟩ := os_e hf
    exact g_iret C rfl dX11_dear_86
  · refine g_icmp_ge_f (tgt := 85) C dX11_dear_24 (by decide) c1 ?_
    refine g_aload_n C dX11_dear_27 rfl 0 rfl ?_
    refine g_iload_n C dX11_dear_28 rfl 1 rfl ?_
    refine g_iload C dX11_dear_29 4 rfl ?_
    obtain ⟨r2, σ3, h4, hf⟩ := obp_e hf
    refine g_callVi (As := [.int x1, .int x4]) (rest := []) C (a_98 ad cy _) rfl (c_X11_nearestSum l dC dI ad cy x1 x4) h4 hM_X11_288 cal_X11_nearestSum ⟨Nat.zero_le _, Nat.zero_le _⟩ ⟨rfl, rfl⟩ ⟨Nat.le_of_ble_eq_true rfl, Nat.le_of_ble_eq_true rfl⟩ rfl rfl (Nat.le_of_ble_eq_true rfl) dX11_dear_31 ?_
    refine g_istore (lv2 := [(0, .ref (ad 98)), (1, .int x1), (2, .int x2), (3, .int x3), (4, .int x4), (5, .int r2)]) C dX11_dear_34 (by decide) [1, 2, 3, 4, 5, 0] rfl ?_
    refine g_iload_n C dX11_dear_36 rfl 2 rfl ?_
    refine g_bipush (v := (-4)) C dX11_dear_37 (by decide) ?_
    rcases oi_e hf with ⟨c5, hf⟩ | ⟨c5, hf⟩
    · refine g_icmp_eq_t (tgt := 48) C dX11_dear_39 (by decide) c5 ?_
      exact g_sub [0, 1, 2, 3, 4, 5] rfl (fX11_dear_b48_ok C sf_18 hs_18 σ3 x1 x2 x3 x4 r2 hf)
    · refine g_icmp_eq_f (tgt := 48) C dX11_dear_39 (by decide) c5 ?_
      refine g_iload C dX11_dear_42 5 rfl ?_
      refine g_iload_n C dX11_dear_44 rfl 3 rfl ?_
      rcases oi_e hf with ⟨c6, hf⟩ | ⟨c6, hf⟩
      · refine g_icmp_le_t (tgt := 52) C dX11_dear_45 (by decide) c6 ?_
        refine g_iconst (v := 0) C dX11_dear_52 (by decide) ?_
        exact g_sub [0, 1, 2, 3, 4, 5] rfl (fX11_dear_b53_ok C sf_18 hs_18 σ3 x1 x2 x3 x4 r2 0 hf)
      · refine g_icmp_le_f (tgt := 52) C dX11_dear_45 (by decide) c6 ?_
        exact g_sub [0, 1, 2, 3, 4, 5] rfl (fX11_dear_b48_ok C sf_18 hs_18 σ3 x1 x2 x3 x4 r2 hf)
def fX11_dear_h18  : Nat → S0 → Int32 → Int32 → Int32 → Int32 → Option (Int32 × S0)
  | 0 => fun _ _ _ _ _ => none
  | n + 1 => fun σ x1 x2 x3 x4 => fX11_dear_b18  (fX11_dear_h18  n) σ x1 x2 x3 x4
set_option maxHeartbeats 1000000 in
set_option maxRecDepth 100000 in
theorem fX11_dear_h18_ok {p : Program} {l : Launch} {e : Env} {s : State} {m : MethodId} {args : Array Value} {below : List Frame} {meth : Method} {c : Code} {dC : Nat → ClassId} {dI : Nat → Nat → Nat} {ad : Nat → Nat} {cy : Nat → ClassId} {sz : Nat} (C : Cx p s m args meth c RX11 cX11_dear 7 (some .int) dC dI ad cy sz) {rr : Int32} {ρ : S0}  : ∀ (n : Nat) (σ : S0) (x1 : Int32) (x2 : Int32) (x3 : Int32) (x4 : Int32)  (_hf : fX11_dear_h18  n σ x1 x2 x3 x4 = some (rr, ρ)), Gw p l e rm_X11_dear s m args below meth c (MQ below (QcI dC dI ad cy sz rr ρ) args s 0 0 (AW ad sz)) dC dI ad cy 7 sz 0 0 18 [(0, .ref (ad 98)), (1, .int x1), (2, .int x2), (3, .int x3), (4, .int x4)] [] σ
  | 0, _, _, _, _, _, hf => by cases hf
  | n + 1, σ, x1, x2, x3, x4, hf => fX11_dear_b18_ok C  (fX11_dear_h18  n) (fX11_dear_h18_ok C  n) σ x1 x2 x3 x4 hf
def fX11_dear (σ : S0) (x1 : Int32) : Option (Int32 × S0) := obp (fX11_isTune σ x1) (fun r1 σ2 => if ¬ r1 = 0 then (fX11_dear_h18 400 σ2 x1 ((-4)) 0 0) else (some ((-1), σ2)))
set_option maxHeartbeats 1000000 in
set_option maxRecDepth 100000 in
theorem fX11_dear_ok {p : Program} {l : Launch} {e : Env} {s : State} {m : MethodId} {args : Array Value} {below : List Frame} {meth : Method} {c : Code} {dC : Nat → ClassId} {dI : Nat → Nat → Nat} {ad : Nat → Nat} {cy : Nat → ClassId} {sz : Nat} (C : Cx p s m args meth c RX11 cX11_dear 7 (some .int) dC dI ad cy sz) {rr : Int32} {ρ : S0} (σ : S0) (x1 : Int32)  (hf : fX11_dear σ x1 = some (rr, ρ)) : Gw p l e rm_X11_dear s m args below meth c (MQ below (QcI dC dI ad cy sz rr ρ) args s 0 0 (AW ad sz)) dC dI ad cy 7 sz 0 0 0 [(0, .ref (ad 98)), (1, .int x1)] [] σ := by
  unfold fX11_dear at hf
  refine g_aload_n C dX11_dear_0 rfl 0 rfl ?_
  refine g_iload_n C dX11_dear_1 rfl 1 rfl ?_
  obtain ⟨r1, σ2, h3, hf⟩ := obp_e hf
  refine g_callVi (As := [.int x1]) (rest := []) C (a_98 ad cy _) rfl (c_X11_isTune l dC dI ad cy x1) h3 hM_X11_175 cal_X11_isTune ⟨Nat.zero_le _, Nat.zero_le _⟩ ⟨rfl, rfl⟩ ⟨Nat.le_of_ble_eq_true rfl, Nat.le_of_ble_eq_true rfl⟩ rfl rfl (Nat.le_of_ble_eq_true rfl) dX11_dear_2 ?_
  rcases oi_e hf with ⟨c4, hf⟩ | ⟨c4, hf⟩
  · refine g_if_ne_t (tgt := 10) C dX11_dear_5 (by decide) c4 ?_
    refine g_bipush (v := (-4)) C dX11_dear_10 (by decide) ?_
    refine g_istore_n (lv2 := [(0, .ref (ad 98)), (1, .int x1), (2, .int ((-4)))]) C dX11_dear_12 rfl (by decide) [1, 2, 0] rfl ?_
    refine g_iconst (v := 0) C dX11_dear_13 (by decide) ?_
    refine g_istore_n (lv2 := [(0, .ref (ad 98)), (1, .int x1), (2, .int ((-4))), (3, .int 0)]) C dX11_dear_14 rfl (by decide) [1, 2, 3, 0] rfl ?_
    refine g_iconst (v := 0) C dX11_dear_15 (by decide) ?_
    refine g_istore (lv2 := [(0, .ref (ad 98)), (1, .int x1), (2, .int ((-4))), (3, .int 0), (4, .int 0)]) C dX11_dear_16 (by decide) [1, 2, 3, 4, 0] rfl ?_
    exact g_sub [0, 1, 2, 3, 4] rfl (fX11_dear_h18_ok C 400 σ2 x1 ((-4)) 0 0 hf)
  · refine g_if_ne_f (tgt := 10) C dX11_dear_5 (by decide) (Decidable.of_not_not c4) ?_
    refine g_iconst (v := (-1)) C dX11_dear_8 (by decide) ?_
    obtain ⟨rfl, rfl⟩ := os_e hf
    exact g_iret C rfl dX11_dear_9
theorem c_X11_dear (l : Launch) (dC : Nat → ClassId) (dI : Nat → Nat → Nat) (ad : Nat → Nat) (cy : Nat → ClassId) (x1 : Int32) : ConI l yX11_dear cX11_dear 7 (some .int) rm_X11_dear dC dI ad cy [.ref (ad 98), .int x1] (fun σ => fX11_dear σ x1) := con_i (own := RX11) (by decide) rfl (Nat.le_of_ble_eq_true rfl) (fun _ _ _ _ _ _ _ _ σ _ _ C hf => fX11_dear_ok C σ x1 hf)
theorem cal_X11_dear : CalV yX11_dear RX11 cX11_dear 7 (some .int) 1 := ⟨hI_X11_dear, hS_X11_dear, hIni_X11, hC_X11_dear, by decide +kernel⟩
abbrev rm_X11_storm : Room := { frames := 2, cells := 0, slots := 0, locals := 46 }
def fX11_storm_b82 (sf_31 : S0 → Int32 → Int32 → Int32 → Int32 → Int32 → Int32 → Option (Int32 × S0)) (σ : S0) (x1 : Int32) (x2 : Int32) (x3 : Int32) (x4 : Int32) (x6 : Int32) (t0 : Int32) (t1 : Int32) : Option (Int32 × S0) := obp (fX11_flag σ t0) (fun r1 σ2 => ol (t1 + r1) (fun v4 => ol (x6 + 1) (fun v5 => sf_31 σ2 x1 x2 x3 x4 v4 v5)))
set_option maxHeartbeats 1000000 in
set_option maxRecDepth 100000 in
theorem fX11_storm_b82_ok {p : Program} {l : Launch} {e : Env} {s : State} {m : MethodId} {args : Array Value} {below : List Frame} {meth : Method} {c : Code} {dC : Nat → ClassId} {dI : Nat → Nat → Nat} {ad : Nat → Nat} {cy : Nat → ClassId} {sz : Nat} (C : Cx p s m args meth c RX11 cX11_storm 7 (some .int) dC dI ad cy sz) {rr : Int32} {ρ : S0} (sf_31 : S0 → Int32 → Int32 → Int32 → Int32 → Int32 → Int32 → Option (Int32 × S0)) (hs_31 : ∀ (σ : S0) (x1 : Int32) (x2 : Int32) (x3 : Int32) (x4 : Int32) (x5 : Int32) (x6 : Int32) , sf_31 σ x1 x2 x3 x4 x5 x6 = some (rr, ρ) → Gw p l e rm_X11_storm s m args below meth c (MQ below (QcI dC dI ad cy sz rr ρ) args s 0 0 (AW ad sz)) dC dI ad cy 7 sz 0 0 31 [(0, .ref (ad 98)), (1, .int x1), (2, .int x2), (3, .int x3), (4, .int x4), (5, .int x5), (6, .int x6)] [] σ) (σ : S0) (x1 : Int32) (x2 : Int32) (x3 : Int32) (x4 : Int32) (x6 : Int32) (t0 : Int32) (t1 : Int32)  (hf : fX11_storm_b82 sf_31 σ x1 x2 x3 x4 x6 t0 t1 = some (rr, ρ)) : Gw p l e rm_X11_storm s m args below meth c (MQ below (QcI dC dI ad cy sz rr ρ) args s 0 0 (AW ad sz)) dC dI ad cy 7 sz 0 0 82 [(0, .ref (ad 98)), (1, .int x1), (2, .int x2), (3, .int x3), (4, .int x4), (6, .int x6)] [.int t0, .int t1] σ := by
  unfold fX11_storm_b82 at hf
  obtain ⟨r1, σ2, h3, hf⟩ := obp_e hf
  refine g_callSi (As := [.int t0]) (rest := [.int t1]) C (c_X11_flag l dC dI ad cy t0) h3 hM_X11_191 cal_X11_flag ⟨Nat.zero_le _, Nat.zero_le _⟩ ⟨rfl, rfl⟩ ⟨Nat.le_of_ble_eq_true rfl, Nat.le_of_ble_eq_true rfl⟩ rfl rfl (Nat.le_of_ble_eq_true rfl) dX11_storm_82 ?_
  refine g_iadd C dX11_storm_85 ?_
  obtain ⟨v4, ev4, hf⟩ := ol_e hf
  refine g_nm ev4 ?_
  refine g_istore (lv2 := [(0, .ref (ad 98)), (1, .int x1), (2, .int x2), (3, .int x3), (4, .int x4), (5, .int v4), (6, .int x6)]) C dX11_storm_86 (by decide) [1, 2, 3, 4, 5, 0, 6] rfl ?_
  obtain ⟨v5, ev5, hf⟩ := ol_e hf
  refine g_iinc (j := 6) (w := 1) (lv2 := [(0, .ref (ad 98)), (1, .int x1), (2, .int x2), (3, .int x3), (4, .int x4), (5, .int v4), (6, .int v5)]) C dX11_storm_88 rfl (by decide) ev5 (by decide) [1, 2, 3, 4, 5, 6, 0] rfl ?_
  refine g_goto (tgt := 31) C dX11_storm_91 (by decide) ?_
  exact g_sub [0, 1, 2, 3, 4, 5, 6] rfl (hs_31 σ2 x1 x2 x3 x4 v4 v5 hf)
def fX11_storm_b31 (sf_31 : S0 → Int32 → Int32 → Int32 → Int32 → Int32 → Int32 → Option (Int32 × S0)) (σ : S0) (x1 : Int32) (x2 : Int32) (x3 : Int32) (x4 : Int32) (x5 : Int32) (x6 : Int32) : Option (Int32 × S0) := if (σ 98 4) ≤ x6 then (if ¬ x2 = 0 then (some ((((σ 98 4) * x3) - (x4 * x5)) + 100000, σ)) else (some (x3, σ))) else (obp (fX11_getsOf σ x1 x6) (fun r3 σ4 => ol (x3 + r3) (fun v6 => obp (fX11_of σ4 x6 ((1 : Int32))) (fun r7 σ8 => ol (x4 + (2 * r7)) (fun v10 => obp (fX11_of σ8 x6 ((0 : Int32))) (fun r11 σ12 => if ¬ r11 = x1 then (fX11_storm_b82 sf_31 σ12 x1 x2 v6 v10 x6 0 x5) else (fX11_storm_b82 sf_31 σ12 x1 x2 v6 v10 x6 1 x5)))))))
set_option maxHeartbeats 1000000 in
set_option maxRecDepth 100000 in
theorem fX11_storm_b31_ok {p : Program} {l : Launch} {e : Env} {s : State} {m : MethodId} {args : Array Value} {below : List Frame} {meth : Method} {c : Code} {dC : Nat → ClassId} {dI : Nat → Nat → Nat} {ad : Nat → Nat} {cy : Nat → ClassId} {sz : Nat} (C : Cx p s m args meth c RX11 cX11_storm 7 (some .int) dC dI ad cy sz) {rr : Int32} {ρ : S0} (sf_31 : S0 → Int32 → Int32 → Int32 → Int32 → Int32 → Int32 → Option (Int32 × S0)) (hs_31 : ∀ (σ : S0) (x1 : Int32) (x2 : Int32) (x3 : Int32) (x4 : Int32) (x5 : Int32) (x6 : Int32) , sf_31 σ x1 x2 x3 x4 x5 x6 = some (rr, ρ) → Gw p l e rm_X11_storm s m args below meth c (MQ below (QcI dC dI ad cy sz rr ρ) args s 0 0 (AW ad sz)) dC dI ad cy 7 sz 0 0 31 [(0, .ref (ad 98)), (1, .int x1), (2, .int x2), (3, .int x3), (4, .int x4), (5, .int x5), (6, .int x6)] [] σ) (σ : S0) (x1 : Int32) (x2 : Int32) (x3 : Int32) (x4 : Int32) (x5 : Int32) (x6 : Int32)  (hf : fX11_storm_b31 sf_31 σ x1 x2 x3 x4 x5 x6 = some (rr, ρ)) : Gw p l e rm_X11_storm s m args below meth c (MQ below (QcI dC dI ad cy sz rr ρ) args s 0 0 (AW ad sz)) dC dI ad cy 7 sz 0 0 31 [(0, .ref (ad 98)), (1, .int x1), (2, .int x2), (3, .int x3), (4, .int x4), (5, .int x5), (6, .int x6)] [] σ := by
  unfold fX11_storm_b31 at hf
  refine g_iload C dX11_storm_31 6 rfl ?_
  refine g_aload_n C dX11_storm_33 rfl 0 rfl ?_
  refine g_get C (a_98 ad cy _) rfl hin_X11 4 (by decide) hF_X11_81 rfl rfl dX11_storm_34 ?_
  rcases oi_e hf with ⟨c1, hf⟩ | ⟨c1, hf⟩
  · refine g_icmp_ge_t (tgt := 94) C dX11_storm_37 (by decide) c1 ?_
    refine g_iload_n C dX11_storm_94 rfl 2 rfl ?_
    rcases oi_e hf with ⟨c2, hf⟩ | ⟨c2, hf⟩
    · refine g_if_ne_t (tgt := 102) C dX11_storm_95 (by decide) c2 ?_
      refine g_aload_n C dX11_storm_102 rfl 0 rfl ?_
      refine g_get C (a_98 ad cy _) rfl hin_X11 4 (by decide) hF_X11_81 rfl rfl dX11_storm_103 ?_
      refine g_iload_n C dX11_storm_106 rfl 3 rfl ?_
      refine g_imul C dX11_storm_107 ?_
      refine g_iload C dX11_storm_108 4 rfl ?_
      refine g_iload C dX11_storm_110 5 rfl ?_
      refine g_imul C dX11_storm_112 ?_
      refine g_isub C dX11_storm_113 ?_
      refine g_ldcw (v := 100000) C dX11_storm_114 hK_X11_294 ?_
      refine g_iadd C dX11_storm_117 ?_
      obtain ⟨rfl, rfl⟩ := os_e hf
      exact g_iret C rfl dX11_storm_118
    · refine g_if_ne_f (tgt := 102) C dX11_storm_95 (by decide) (Decidable.of_not_not c2) ?_
      refine g_iload_n C dX11_storm_98 rfl 3 rfl ?_
      refine g_goto (tgt := 118) C dX11_storm_99 (by decide) ?_
      obtain ⟨rfl, rfl⟩ := os_e hf
      exact g_iret C rfl dX11_storm_118
  · refine g_icmp_ge_f (tgt := 94) C dX11_storm_37 (by decide) c1 ?_
    refine g_iload_n C dX11_storm_40 rfl 3 rfl ?_
    refine g_aload_n C dX11_storm_41 rfl 0 rfl ?_
    refine g_iload_n C dX11_storm_42 rfl 1 rfl ?_
    refine g_iload C dX11_storm_43 6 rfl ?_
    obtain ⟨r3, σ4, h5, hf⟩ := obp_e hf
    refine g_callVi (As := [.int x1, .int x6]) (rest := [.int x3]) C (a_98 ad cy _) rfl (c_X11_getsOf l dC dI ad cy x1 x6) h5 hM_X11_226 cal_X11_getsOf ⟨Nat.zero_le _, Nat.zero_le _⟩ ⟨rfl, rfl⟩ ⟨Nat.le_of_ble_eq_true rfl, Nat.le_of_ble_eq_true rfl⟩ rfl rfl (Nat.le_of_ble_eq_true rfl) dX11_storm_45 ?_
    refine g_iadd C dX11_storm_48 ?_
    obtain ⟨v6, ev6, hf⟩ := ol_e hf
    refine g_nm ev6 ?_
    refine g_istore_n (lv2 := [(0, .ref (ad 98)), (1, .int x1), (2, .int x2), (3, .int v6), (4, .int x4), (5, .int x5), (6, .int x6)]) C dX11_storm_49 rfl (by decide) [1, 2, 3, 0, 4, 5, 6] rfl ?_
    refine g_iload C dX11_storm_50 4 rfl ?_
    refine g_iconst (v := 2) C dX11_storm_52 (by decide) ?_
    refine g_aload_n C dX11_storm_53 rfl 0 rfl ?_
    refine g_iload C dX11_storm_54 6 rfl ?_
    refine g_iconst (v := 1) C dX11_storm_56 (by decide) ?_
    obtain ⟨r7, σ8, h9, hf⟩ := obp_e hf
    refine g_callVi (As := [.int x6, .int 1]) (rest := [.int 2, .int x4]) C (a_98 ad cy _) rfl (c_X11_of l dC dI ad cy x6 ((1 : Int32))) h9 hM_X11_172 cal_X11_of ⟨Nat.zero_le _, Nat.zero_le _⟩ ⟨rfl, rfl⟩ ⟨Nat.le_of_ble_eq_true rfl, Nat.le_of_ble_eq_true rfl⟩ rfl rfl (Nat.le_of_ble_eq_true rfl) dX11_storm_57 ?_
    refine g_imul C dX11_storm_60 ?_
    refine g_iadd C dX11_storm_61 ?_
    obtain ⟨v10, ev10, hf⟩ := ol_e hf
    refine g_nm ev10 ?_
    refine g_istore (lv2 := [(0, .ref (ad 98)), (1, .int x1), (2, .int x2), (3, .int v6), (4, .int v10), (5, .int x5), (6, .int x6)]) C dX11_storm_62 (by decide) [1, 2, 3, 4, 0, 5, 6] rfl ?_
    refine g_iload C dX11_storm_64 5 rfl ?_
    refine g_aload_n C dX11_storm_66 rfl 0 rfl ?_
    refine g_iload C dX11_storm_67 6 rfl ?_
    refine g_iconst (v := 0) C dX11_storm_69 (by decide) ?_
    obtain ⟨r11, σ12, h13, hf⟩ := obp_e hf
    refine g_callVi (As := [.int x6, .int 0]) (rest := [.int x5]) C (a_98 ad cy _) rfl (c_X11_of l dC dI ad cy x6 ((0 : Int32))) h13 hM_X11_172 cal_X11_of ⟨Nat.zero_le _, Nat.zero_le _⟩ ⟨rfl, rfl⟩ ⟨Nat.le_of_ble_eq_true rfl, Nat.le_of_ble_eq_true rfl⟩ rfl rfl (Nat.le_of_ble_eq_true rfl) dX11_storm_70 ?_
    refine g_iload_n C dX11_storm_73 rfl 1 rfl ?_
    rcases oi_e hf with ⟨c14, hf⟩ | ⟨c14, hf⟩
    · refine g_icmp_ne_t (tgt := 81) C dX11_storm_74 (by decide) c14 ?_
      refine g_iconst (v := 0) C dX11_storm_81 (by decide) ?_
      exact g_sub [0, 1, 2, 3, 4, 6] rfl (fX11_storm_b82_ok C sf_31 hs_31 σ12 x1 x2 v6 v10 x6 0 x5 hf)
    · refine g_icmp_ne_f (tgt := 81) C dX11_storm_74 (by decide) (Decidable.of_not_not c14) ?_
      refine g_iconst (v := 1) C dX11_storm_77 (by decide) ?_
      refine g_goto (tgt := 82) C dX11_storm_78 (by decide) ?_
      exact g_sub [0, 1, 2, 3, 4, 6] rfl (fX11_storm_b82_ok C sf_31 hs_31 σ12 x1 x2 v6 v10 x6 1 x5 hf)
def fX11_storm_h31  : Nat → S0 → Int32 → Int32 → Int32 → Int32 → Int32 → Int32 → Option (Int32 × S0)
  | 0 => fun _ _ _ _ _ _ _ => none
  | n + 1 => fun σ x1 x2 x3 x4 x5 x6 => fX11_storm_b31  (fX11_storm_h31  n) σ x1 x2 x3 x4 x5 x6
set_option maxHeartbeats 1000000 in
set_option maxRecDepth 100000 in
theorem fX11_storm_h31_ok {p : Program} {l : Launch} {e : Env} {s : State} {m : MethodId} {args : Array Value} {below : List Frame} {meth : Method} {c : Code} {dC : Nat → ClassId} {dI : Nat → Nat → Nat} {ad : Nat → Nat} {cy : Nat → ClassId} {sz : Nat} (C : Cx p s m args meth c RX11 cX11_storm 7 (some .int) dC dI ad cy sz) {rr : Int32} {ρ : S0}  : ∀ (n : Nat) (σ : S0) (x1 : Int32) (x2 : Int32) (x3 : Int32) (x4 : Int32) (x5 : Int32) (x6 : Int32)  (_hf : fX11_storm_h31  n σ x1 x2 x3 x4 x5 x6 = some (rr, ρ)), Gw p l e rm_X11_storm s m args below meth c (MQ below (QcI dC dI ad cy sz rr ρ) args s 0 0 (AW ad sz)) dC dI ad cy 7 sz 0 0 31 [(0, .ref (ad 98)), (1, .int x1), (2, .int x2), (3, .int x3), (4, .int x4), (5, .int x5), (6, .int x6)] [] σ
  | 0, _, _, _, _, _, _, _, hf => by cases hf
  | n + 1, σ, x1, x2, x3, x4, x5, x6, hf => fX11_storm_b31_ok C  (fX11_storm_h31  n) (fX11_storm_h31_ok C  n) σ x1 x2 x3 x4 x5 x6 hf
def fX11_storm (σ : S0) (x1 : Int32) (x2 : Int32) : Option (Int32 × S0) := obp (fX11_isHouse σ x1) (fun r1 σ2 => if r1 = 0 then (some ((-1), σ2)) else (obp (fX11_in σ2 x2.toInt64 ((0 : Int64)) ((1 : Int64))) (fun r5 σ6 => if ¬ r5 = 0 then (fX11_storm_h31 400 σ6 x1 x2 0 0 0 0) else (some ((-1), σ6)))))
set_option maxHeartbeats 1000000 in
set_option maxRecDepth 100000 in
theorem fX11_storm_ok {p : Program} {l : Launch} {e : Env} {s : State} {m : MethodId} {args : Array Value} {below : List Frame} {meth : Method} {c : Code} {dC : Nat → ClassId} {dI : Nat → Nat → Nat} {ad : Nat → Nat} {cy : Nat → ClassId} {sz : Nat} (C : Cx p s m args meth c RX11 cX11_storm 7 (some .int) dC dI ad cy sz) {rr : Int32} {ρ : S0} (σ : S0) (x1 : Int32) (x2 : Int32)  (hf : fX11_storm σ x1 x2 = some (rr, ρ)) : Gw p l e rm_X11_storm s m args below meth c (MQ below (QcI dC dI ad cy sz rr ρ) args s 0 0 (AW ad sz)) dC dI ad cy 7 sz 0 0 0 [(0, .ref (ad 98)), (1, .int x1), (2, .int x2)] [] σ := by
  unfold fX11_storm at hf
  refine g_aload_n C dX11_storm_0 rfl 0 rfl ?_
  refine g_iload_n C dX11_storm_1 rfl 1 rfl ?_
  obtain ⟨r1, σ2, h3, hf⟩ := obp_e hf
  refine g_callVi (As := [.int x1]) (rest := []) C (a_98 ad cy _) rfl (c_X11_isHouse l dC dI ad cy x1) h3 hM_X11_186 cal_X11_isHouse ⟨Nat.zero_le _, Nat.zero_le _⟩ ⟨rfl, rfl⟩ ⟨Nat.le_of_ble_eq_true rfl, Nat.le_of_ble_eq_true rfl⟩ rfl rfl (Nat.le_of_ble_eq_true rfl) dX11_storm_2 ?_
  rcases oi_e hf with ⟨c4, hf⟩ | ⟨c4, hf⟩
  · refine g_if_eq_t (tgt := 18) C dX11_storm_5 (by decide) c4 ?_
    refine g_iconst (v := (-1)) C dX11_storm_18 (by decide) ?_
    obtain ⟨rfl, rfl⟩ := os_e hf
    exact g_iret C rfl dX11_storm_19
  · refine g_if_eq_f (tgt := 18) C dX11_storm_5 (by decide) c4 ?_
    refine g_iload_n C dX11_storm_8 rfl 2 rfl ?_
    refine g_i2l C dX11_storm_9 ?_
    refine g_lconst (v := 0) C dX11_storm_10 (by decide) ?_
    refine g_lconst (v := 1) C dX11_storm_11 (by decide) ?_
    obtain ⟨r5, σ6, h7, hf⟩ := obp_e hf
    refine g_callSi (As := [.long x2.toInt64, .long 0, .long 1]) (rest := []) C (c_X11_in l dC dI ad cy x2.toInt64 ((0 : Int64)) ((1 : Int64))) h7 hM_X11_92 cal_X11_in ⟨Nat.zero_le _, Nat.zero_le _⟩ ⟨rfl, rfl⟩ ⟨Nat.le_of_ble_eq_true rfl, Nat.le_of_ble_eq_true rfl⟩ rfl rfl (Nat.le_of_ble_eq_true rfl) dX11_storm_12 ?_
    rcases oi_e hf with ⟨c8, hf⟩ | ⟨c8, hf⟩
    · refine g_if_ne_t (tgt := 20) C dX11_storm_15 (by decide) c8 ?_
      refine g_iconst (v := 0) C dX11_storm_20 (by decide) ?_
      refine g_istore_n (lv2 := [(0, .ref (ad 98)), (1, .int x1), (2, .int x2), (3, .int 0)]) C dX11_storm_21 rfl (by decide) [1, 2, 3, 0] rfl ?_
      refine g_iconst (v := 0) C dX11_storm_22 (by decide) ?_
      refine g_istore (lv2 := [(0, .ref (ad 98)), (1, .int x1), (2, .int x2), (3, .int 0), (4, .int 0)]) C dX11_storm_23 (by decide) [1, 2, 3, 4, 0] rfl ?_
      refine g_iconst (v := 0) C dX11_storm_25 (by decide) ?_
      refine g_istore (lv2 := [(0, .ref (ad 98)), (1, .int x1), (2, .int x2), (3, .int 0), (4, .int 0), (5, .int 0)]) C dX11_storm_26 (by decide) [1, 2, 3, 4, 5, 0] rfl ?_
      refine g_iconst (v := 0) C dX11_storm_28 (by decide) ?_
      refine g_istore (lv2 := [(0, .ref (ad 98)), (1, .int x1), (2, .int x2), (3, .int 0), (4, .int 0), (5, .int 0), (6, .int 0)]) C dX11_storm_29 (by decide) [1, 2, 3, 4, 5, 6, 0] rfl ?_
      exact g_sub [0, 1, 2, 3, 4, 5, 6] rfl (fX11_storm_h31_ok C 400 σ6 x1 x2 0 0 0 0 hf)
    · refine g_if_ne_f (tgt := 20) C dX11_storm_15 (by decide) (Decidable.of_not_not c8) ?_
      refine g_iconst (v := (-1)) C dX11_storm_18 (by decide) ?_
      obtain ⟨rfl, rfl⟩ := os_e hf
      exact g_iret C rfl dX11_storm_19
theorem c_X11_storm (l : Launch) (dC : Nat → ClassId) (dI : Nat → Nat → Nat) (ad : Nat → Nat) (cy : Nat → ClassId) (x1 : Int32) (x2 : Int32) : ConI l yX11_storm cX11_storm 7 (some .int) rm_X11_storm dC dI ad cy [.ref (ad 98), .int x1, .int x2] (fun σ => fX11_storm σ x1 x2) := con_i (own := RX11) (by decide) rfl (Nat.le_of_ble_eq_true rfl) (fun _ _ _ _ _ _ _ _ σ _ _ C hf => fX11_storm_ok C σ x1 x2 hf)
theorem cal_X11_storm : CalV yX11_storm RX11 cX11_storm 7 (some .int) 2 := ⟨hI_X11_storm, hS_X11_storm, hIni_X11, hC_X11_storm, by decide +kernel⟩
abbrev rm_X11_wine : Room := { frames := 2, cells := 0, slots := 0, locals := 47 }
def fX11_wine_b170 (sf_105 : S0 → Int32 → Int32 → Int32 → Int32 → Int32 → Int32 → Int32 → Option (Int32 × S0)) (σ : S0) (x1 : Int32) (x2 : Int32) (x3 : Int32) (x4 : Int32) (x6 : Int32) (x7 : Int32) (t0 : Int32) (t1 : Int32) : Option (Int32 × S0) := obp (fX11_flag σ t0) (fun r1 σ2 => ol (t1 + r1) (fun v4 => ol (x7 + 1) (fun v5 => sf_105 σ2 x1 x2 x3 x4 v4 x6 v5)))
set_option maxHeartbeats 1000000 in
set_option maxRecDepth 100000 in
theorem fX11_wine_b170_ok {p : Program} {l : Launch} {e : Env} {s : State} {m : MethodId} {args : Array Value} {below : List Frame} {meth : Method} {c : Code} {dC : Nat → ClassId} {dI : Nat → Nat → Nat} {ad : Nat → Nat} {cy : Nat → ClassId} {sz : Nat} (C : Cx p s m args meth c RX11 cX11_wine 9 (some .int) dC dI ad cy sz) {rr : Int32} {ρ : S0} (sf_105 : S0 → Int32 → Int32 → Int32 → Int32 → Int32 → Int32 → Int32 → Option (Int32 × S0)) (hs_105 : ∀ (σ : S0) (x1 : Int32) (x2 : Int32) (x3 : Int32) (x4 : Int32) (x5 : Int32) (x6 : Int32) (x7 : Int32) , sf_105 σ x1 x2 x3 x4 x5 x6 x7 = some (rr, ρ) → Gw p l e rm_X11_wine s m args below meth c (MQ below (QcI dC dI ad cy sz rr ρ) args s 0 0 (AW ad sz)) dC dI ad cy 9 sz 0 0 105 [(0, .ref (ad 98)), (1, .int x1), (2, .int x2), (3, .int x3), (4, .int x4), (5, .int x5), (6, .int x6), (7, .int x7)] [] σ) (σ : S0) (x1 : Int32) (x2 : Int32) (x3 : Int32) (x4 : Int32) (x6 : Int32) (x7 : Int32) (t0 : Int32) (t1 : Int32)  (hf : fX11_wine_b170 sf_105 σ x1 x2 x3 x4 x6 x7 t0 t1 = some (rr, ρ)) : Gw p l e rm_X11_wine s m args below meth c (MQ below (QcI dC dI ad cy sz rr ρ) args s 0 0 (AW ad sz)) dC dI ad cy 9 sz 0 0 170 [(0, .ref (ad 98)), (1, .int x1), (2, .int x2), (3, .int x3), (4, .int x4), (6, .int x6), (7, .int x7)] [.int t0, .int t1] σ := by
  unfold fX11_wine_b170 at hf
  obtain ⟨r1, σ2, h3, hf⟩ := obp_e hf
  refine g_callSi (As := [.int t0]) (rest := [.int t1]) C (c_X11_flag l dC dI ad cy t0) h3 hM_X11_191 cal_X11_flag ⟨Nat.zero_le _, Nat.zero_le _⟩ ⟨rfl, rfl⟩ ⟨Nat.le_of_ble_eq_true rfl, Nat.le_of_ble_eq_true rfl⟩ rfl rfl (Nat.le_of_ble_eq_true rfl) dX11_wine_170 ?_
  refine g_iadd C dX11_wine_173 ?_
  obtain ⟨v4, ev4, hf⟩ := ol_e hf
  refine g_nm ev4 ?_
  refine g_istore (lv2 := [(0, .ref (ad 98)), (1, .int x1), (2, .int x2), (3, .int x3), (4, .int x4), (5, .int v4), (6, .int x6), (7, .int x7)]) C dX11_wine_174 (by decide) [1, 2, 3, 4, 5, 0, 6, 7] rfl ?_
  obtain ⟨v5, ev5, hf⟩ := ol_e hf
  refine g_iinc (j := 7) (w := 1) (lv2 := [(0, .ref (ad 98)), (1, .int x1), (2, .int x2), (3, .int x3), (4, .int x4), (5, .int v4), (6, .int x6), (7, .int v5)]) C dX11_wine_176 rfl (by decide) ev5 (by decide) [1, 2, 3, 4, 5, 6, 7, 0] rfl ?_
  refine g_goto (tgt := 105) C dX11_wine_179 (by decide) ?_
  exact g_sub [0, 1, 2, 3, 4, 5, 6, 7] rfl (hs_105 σ2 x1 x2 x3 x4 v4 x6 v5 hf)
def fX11_wine_b165 (sf_105 : S0 → Int32 → Int32 → Int32 → Int32 → Int32 → Int32 → Int32 → Option (Int32 × S0)) (σ : S0) (x1 : Int32) (x2 : Int32) (x3 : Int32) (x4 : Int32) (x6 : Int32) (x7 : Int32) (t0 : Int32) : Option (Int32 × S0) := fX11_wine_b170 sf_105 σ x1 x2 x3 x4 x6 x7 1 t0
set_option maxHeartbeats 1000000 in
set_option maxRecDepth 100000 in
theorem fX11_wine_b165_ok {p : Program} {l : Launch} {e : Env} {s : State} {m : MethodId} {args : Array Value} {below : List Frame} {meth : Method} {c : Code} {dC : Nat → ClassId} {dI : Nat → Nat → Nat} {ad : Nat → Nat} {cy : Nat → ClassId} {sz : Nat} (C : Cx p s m args meth c RX11 cX11_wine 9 (some .int) dC dI ad cy sz) {rr : Int32} {ρ : S0} (sf_105 : S0 → Int32 → Int32 → Int32 → Int32 → Int32 → Int32 → Int32 → Option (Int32 × S0)) (hs_105 : ∀ (σ : S0) (x1 : Int32) (x2 : Int32) (x3 : Int32) (x4 : Int32) (x5 : Int32) (x6 : Int32) (x7 : Int32) , sf_105 σ x1 x2 x3 x4 x5 x6 x7 = some (rr, ρ) → Gw p l e rm_X11_wine s m args below meth c (MQ below (QcI dC dI ad cy sz rr ρ) args s 0 0 (AW ad sz)) dC dI ad cy 9 sz 0 0 105 [(0, .ref (ad 98)), (1, .int x1), (2, .int x2), (3, .int x3), (4, .int x4), (5, .int x5), (6, .int x6), (7, .int x7)] [] σ) (σ : S0) (x1 : Int32) (x2 : Int32) (x3 : Int32) (x4 : Int32) (x6 : Int32) (x7 : Int32) (t0 : Int32)  (hf : fX11_wine_b165 sf_105 σ x1 x2 x3 x4 x6 x7 t0 = some (rr, ρ)) : Gw p l e rm_X11_wine s m args below meth c (MQ below (QcI dC dI ad cy sz rr ρ) args s 0 0 (AW ad sz)) dC dI ad cy 9 sz 0 0 165 [(0, .ref (ad 98)), (1, .int x1), (2, .int x2), (3, .int x3), (4, .int x4), (6, .int x6), (7, .int x7)] [.int t0] σ := by
  unfold fX11_wine_b165 at hf
  refine g_iconst (v := 1) C dX11_wine_165 (by decide) ?_
  refine g_goto (tgt := 170) C dX11_wine_166 (by decide) ?_
  exact g_sub [0, 1, 2, 3, 4, 5, 6] rfl (fX11_wine_b170_ok C sf_105 hs_105 σ x1 x2 x3 x4 x6 x7 1 t0 hf)
def fX11_wine_b169 (sf_105 : S0 → Int32 → Int32 → Int32 → Int32 → Int32 → Int32 → Int32 → Option (Int32 × S0)) (σ : S0) (x1 : Int32) (x2 : Int32) (x3 : Int32) (x4 : Int32) (x6 : Int32) (x7 : Int32) (t0 : Int32) : Option (Int32 × S0) := fX11_wine_b170 sf_105 σ x1 x2 x3 x4 x6 x7 0 t0
set_option maxHeartbeats 1000000 in
set_option maxRecDepth 100000 in
theorem fX11_wine_b169_ok {p : Program} {l : Launch} {e : Env} {s : State} {m : MethodId} {args : Array Value} {below : List Frame} {meth : Method} {c : Code} {dC : Nat → ClassId} {dI : Nat → Nat → Nat} {ad : Nat → Nat} {cy : Nat → ClassId} {sz : Nat} (C : Cx p s m args meth c RX11 cX11_wine 9 (some .int) dC dI ad cy sz) {rr : Int32} {ρ : S0} (sf_105 : S0 → Int32 → Int32 → Int32 → Int32 → Int32 → Int32 → Int32 → Option (Int32 × S0)) (hs_105 : ∀ (σ : S0) (x1 : Int32) (x2 : Int32) (x3 : Int32) (x4 : Int32) (x5 : Int32) (x6 : Int32) (x7 : Int32) , sf_105 σ x1 x2 x3 x4 x5 x6 x7 = some (rr, ρ) → Gw p l e rm_X11_wine s m args below meth c (MQ below (QcI dC dI ad cy sz rr ρ) args s 0 0 (AW ad sz)) dC dI ad cy 9 sz 0 0 105 [(0, .ref (ad 98)), (1, .int x1), (2, .int x2), (3, .int x3), (4, .int x4), (5, .int x5), (6, .int x6), (7, .int x7)] [] σ) (σ : S0) (x1 : Int32) (x2 : Int32) (x3 : Int32) (x4 : Int32) (x6 : Int32) (x7 : Int32) (t0 : Int32)  (hf : fX11_wine_b169 sf_105 σ x1 x2 x3 x4 x6 x7 t0 = some (rr, ρ)) : Gw p l e rm_X11_wine s m args below meth c (MQ below (QcI dC dI ad cy sz rr ρ) args s 0 0 (AW ad sz)) dC dI ad cy 9 sz 0 0 169 [(0, .ref (ad 98)), (1, .int x1), (2, .int x2), (3, .int x3), (4, .int x4), (6, .int x6), (7, .int x7)] [.int t0] σ := by
  unfold fX11_wine_b169 at hf
  refine g_iconst (v := 0) C dX11_wine_169 (by decide) ?_
  exact g_sub [0, 1, 2, 3, 4, 5, 6] rfl (fX11_wine_b170_ok C sf_105 hs_105 σ x1 x2 x3 x4 x6 x7 0 t0 hf)
def fX11_wine_b204  (σ : S0) (t0 : Int32) (t1 : Int32) : Option (Int32 × S0) := obp (fX11_flag σ t0) (fun r1 σ2 => some (t1 + r1, σ2))
set_option maxHeartbeats 1000000 in
set_option maxRecDepth 100000 in
theorem fX11_wine_b204_ok {p : Program} {l : Launch} {e : Env} {s : State} {m : MethodId} {args : Array Value} {below : List Frame} {meth : Method} {c : Code} {dC : Nat → ClassId} {dI : Nat → Nat → Nat} {ad : Nat → Nat} {cy : Nat → ClassId} {sz : Nat} (C : Cx p s m args meth c RX11 cX11_wine 9 (some .int) dC dI ad cy sz) {rr : Int32} {ρ : S0}  (σ : S0) (t0 : Int32) (t1 : Int32)  (hf : fX11_wine_b204 σ t0 t1 = some (rr, ρ)) : Gw p l e rm_X11_wine s m args below meth c (MQ below (QcI dC dI ad cy sz rr ρ) args s 0 0 (AW ad sz)) dC dI ad cy 9 sz 0 0 204 [] [.int t0, .int t1] σ := by
  unfold fX11_wine_b204 at hf
  obtain ⟨r1, σ2, h3, hf⟩ := obp_e hf
  refine g_callSi (As := [.int t0]) (rest := [.int t1]) C (c_X11_flag l dC dI ad cy t0) h3 hM_X11_191 cal_X11_flag ⟨Nat.zero_le _, Nat.zero_le _⟩ ⟨rfl, rfl⟩ ⟨Nat.le_of_ble_eq_true rfl, Nat.le_of_ble_eq_true rfl⟩ rfl rfl (Nat.le_of_ble_eq_true rfl) dX11_wine_204 ?_
  refine g_iadd C dX11_wine_207 ?_
  obtain ⟨rfl, rfl⟩ := os_e hf
  exact g_iret C rfl dX11_wine_208
def fX11_wine_b105 (sf_105 : S0 → Int32 → Int32 → Int32 → Int32 → Int32 → Int32 → Int32 → Option (Int32 × S0)) (σ : S0) (x1 : Int32) (x2 : Int32) (x3 : Int32) (x4 : Int32) (x5 : Int32) (x6 : Int32) (x7 : Int32) : Option (Int32 × S0) := if (σ 98 2) ≤ x7 then (og (¬ (x2 < 0 ∨ 6 ≤ x2.toNatClampNeg)) (ol (σ 105 x2.toNatClampNeg) (fun v3 => og (¬ ((x3 : Int32)) = 0) (ol ((x1 * v3) / x3) (fun v5 => if x4 ≤ x5 then (fX11_wine_b204 σ 0 v5) else (fX11_wine_b204 σ 1 v5)))))) else (og (¬ (x7 < 0 ∨ 6 ≤ x7.toNatClampNeg)) (ol (σ 105 x7.toNatClampNeg) (fun v8 => og (¬ ((x3 : Int32)) = 0) (ol ((x1 * v8) - (x1 * v8) / x3 * x3) (fun v10 => og (¬ (x7 < 0 ∨ 6 ≤ x7.toNatClampNeg)) (ol (σ 105 x7.toNatClampNeg) (fun v12 => og (¬ ((x3 : Int32)) = 0) (ol ((x1 * v12) / x3) (fun v14 => ol (x4 - v14) (fun v15 => if x6 < v10 then (fX11_wine_b165 sf_105 σ x1 x2 x3 v15 x6 x7 x5) else (if ¬ v10 = x6 then (fX11_wine_b169 sf_105 σ x1 x2 x3 v15 x6 x7 x5) else (if x2 ≤ x7 then (fX11_wine_b169 sf_105 σ x1 x2 x3 v15 x6 x7 x5) else (fX11_wine_b165 sf_105 σ x1 x2 x3 v15 x6 x7 x5)))))))))))))
set_option maxHeartbeats 1000000 in
set_option maxRecDepth 100000 in
theorem fX11_wine_b105_ok {p : Program} {l : Launch} {e : Env} {s : State} {m : MethodId} {args : Array Value} {below : List Frame} {meth : Method} {c : Code} {dC : Nat → ClassId} {dI : Nat → Nat → Nat} {ad : Nat → Nat} {cy : Nat → ClassId} {sz : Nat} (C : Cx p s m args meth c RX11 cX11_wine 9 (some .int) dC dI ad cy sz) {rr : Int32} {ρ : S0} (sf_105 : S0 → Int32 → Int32 → Int32 → Int32 → Int32 → Int32 → Int32 → Option (Int32 × S0)) (hs_105 : ∀ (σ : S0) (x1 : Int32) (x2 : Int32) (x3 : Int32) (x4 : Int32) (x5 : Int32) (x6 : Int32) (x7 : Int32) , sf_105 σ x1 x2 x3 x4 x5 x6 x7 = some (rr, ρ) → Gw p l e rm_X11_wine s m args below meth c (MQ below (QcI dC dI ad cy sz rr ρ) args s 0 0 (AW ad sz)) dC dI ad cy 9 sz 0 0 105 [(0, .ref (ad 98)), (1, .int x1), (2, .int x2), (3, .int x3), (4, .int x4), (5, .int x5), (6, .int x6), (7, .int x7)] [] σ) (σ : S0) (x1 : Int32) (x2 : Int32) (x3 : Int32) (x4 : Int32) (x5 : Int32) (x6 : Int32) (x7 : Int32)  (hf : fX11_wine_b105 sf_105 σ x1 x2 x3 x4 x5 x6 x7 = some (rr, ρ)) : Gw p l e rm_X11_wine s m args below meth c (MQ below (QcI dC dI ad cy sz rr ρ) args s 0 0 (AW ad sz)) dC dI ad cy 9 sz 0 0 105 [(0, .ref (ad 98)), (1, .int x1), (2, .int x2), (3, .int x3), (4, .int x4), (5, .int x5), (6, .int x6), (7, .int x7)] [] σ := by
  unfold fX11_wine_b105 at hf
  refine g_iload C dX11_wine_105 7 rfl ?_
  refine g_aload_n C dX11_wine_107 rfl 0 rfl ?_
  refine g_get C (a_98 ad cy _) rfl hin_X11 2 (by decide) hF_X11_75 rfl rfl dX11_wine_108 ?_
  rcases oi_e hf with ⟨c1, hf⟩ | ⟨c1, hf⟩
  · refine g_icmp_ge_t (tgt := 182) C dX11_wine_111 (by decide) c1 ?_
    refine g_iload_n C dX11_wine_182 rfl 1 rfl ?_
    refine g_aload_n C dX11_wine_183 rfl 0 rfl ?_
    refine g_get C (a_98 ad cy _) rfl hin_X11 28 (by decide) hF_X11_29 rfl rfl dX11_wine_184 ?_
    refine g_iload_n C dX11_wine_187 rfl 2 rfl ?_
    obtain ⟨h2, hf⟩ := og_e hf
    refine g_iald C (a_105 ad cy _) h2 dX11_wine_188 ?_
    obtain ⟨v3, ev3, hf⟩ := ol_e hf
    refine g_nm ev3 ?_
    refine g_imul C dX11_wine_189 ?_
    refine g_iload_n C dX11_wine_190 rfl 3 rfl ?_
    obtain ⟨h4, hf⟩ := og_e hf
    refine g_idiv C dX11_wine_191 h4 ?_
    obtain ⟨v5, ev5, hf⟩ := ol_e hf
    refine g_nm ev5 ?_
    refine g_iload C dX11_wine_192 5 rfl ?_
    refine g_iload C dX11_wine_194 4 rfl ?_
    rcases oi_e hf with ⟨c6, hf⟩ | ⟨c6, hf⟩
    · refine g_icmp_ge_t (tgt := 203) C dX11_wine_196 (by decide) c6 ?_
      refine g_iconst (v := 0) C dX11_wine_203 (by decide) ?_
      exact g_sub [] rfl (fX11_wine_b204_ok C σ 0 v5 hf)
    · refine g_icmp_ge_f (tgt := 203) C dX11_wine_196 (by decide) c6 ?_
      refine g_iconst (v := 1) C dX11_wine_199 (by decide) ?_
      refine g_goto (tgt := 204) C dX11_wine_200 (by decide) ?_
      exact g_sub [] rfl (fX11_wine_b204_ok C σ 1 v5 hf)
  · refine g_icmp_ge_f (tgt := 182) C dX11_wine_111 (by decide) c1 ?_
    refine g_iload_n C dX11_wine_114 rfl 1 rfl ?_
    refine g_aload_n C dX11_wine_115 rfl 0 rfl ?_
    refine g_get C (a_98 ad cy _) rfl hin_X11 28 (by decide) hF_X11_29 rfl rfl dX11_wine_116 ?_
    refine g_iload C dX11_wine_119 7 rfl ?_
    obtain ⟨h7, hf⟩ := og_e hf
    refine g_iald C (a_105 ad cy _) h7 dX11_wine_121 ?_
    obtain ⟨v8, ev8, hf⟩ := ol_e hf
    refine g_nm ev8 ?_
    refine g_imul C dX11_wine_122 ?_
    refine g_iload_n C dX11_wine_123 rfl 3 rfl ?_
    obtain ⟨h9, hf⟩ := og_e hf
    refine g_irem C dX11_wine_124 h9 ?_
    obtain ⟨v10, ev10, hf⟩ := ol_e hf
    refine g_nm ev10 ?_
    refine g_istore (lv2 := [(0, .ref (ad 98)), (1, .int x1), (2, .int x2), (3, .int x3), (4, .int x4), (5, .int x5), (6, .int x6), (7, .int x7), (8, .int v10)]) C dX11_wine_125 (by decide) [1, 2, 3, 4, 5, 6, 7, 8, 0] rfl ?_
    refine g_iload C dX11_wine_127 4 rfl ?_
    refine g_iload_n C dX11_wine_129 rfl 1 rfl ?_
    refine g_aload_n C dX11_wine_130 rfl 0 rfl ?_
    refine g_get C (a_98 ad cy _) rfl hin_X11 28 (by decide) hF_X11_29 rfl rfl dX11_wine_131 ?_
    refine g_iload C dX11_wine_134 7 rfl ?_
    obtain ⟨h11, hf⟩ := og_e hf
    refine g_iald C (a_105 ad cy _) h11 dX11_wine_136 ?_
    obtain ⟨v12, ev12, hf⟩ := ol_e hf
    refine g_nm ev12 ?_
    refine g_imul C dX11_wine_137 ?_
    refine g_iload_n C dX11_wine_138 rfl 3 rfl ?_
    obtain ⟨h13, hf⟩ := og_e hf
    refine g_idiv C dX11_wine_139 h13 ?_
    obtain ⟨v14, ev14, hf⟩ := ol_e hf
    refine g_nm ev14 ?_
    refine g_isub C dX11_wine_140 ?_
    obtain ⟨v15, ev15, hf⟩ := ol_e hf
    refine g_nm ev15 ?_
    refine g_istore (lv2 := [(0, .ref (ad 98)), (1, .int x1), (2, .int x2), (3, .int x3), (4, .int v15), (5, .int x5), (6, .int x6), (7, .int x7), (8, .int v10)]) C dX11_wine_141 (by decide) [1, 2, 3, 4, 0, 5, 6, 7, 8] rfl ?_
    refine g_iload C dX11_wine_143 5 rfl ?_
    refine g_iload C dX11_wine_145 8 rfl ?_
    refine g_iload C dX11_wine_147 6 rfl ?_
    rcases oi_e hf with ⟨c16, hf⟩ | ⟨c16, hf⟩
    · refine g_icmp_gt_t (tgt := 165) C dX11_wine_149 (by decide) c16 ?_
      exact g_sub [0, 1, 2, 3, 4, 6, 7] rfl (fX11_wine_b165_ok C sf_105 hs_105 σ x1 x2 x3 v15 x6 x7 x5 hf)
    · refine g_icmp_gt_f (tgt := 165) C dX11_wine_149 (by decide) c16 ?_
      refine g_iload C dX11_wine_152 8 rfl ?_
      refine g_iload C dX11_wine_154 6 rfl ?_
      rcases oi_e hf with ⟨c17, hf⟩ | ⟨c17, hf⟩
      · refine g_icmp_ne_t (tgt := 169) C dX11_wine_156 (by decide) c17 ?_
        exact g_sub [0, 1, 2, 3, 4, 6, 7] rfl (fX11_wine_b169_ok C sf_105 hs_105 σ x1 x2 x3 v15 x6 x7 x5 hf)
      · refine g_icmp_ne_f (tgt := 169) C dX11_wine_156 (by decide) (Decidable.of_not_not c17) ?_
        refine g_iload C dX11_wine_159 7 rfl ?_
        refine g_iload_n C dX11_wine_161 rfl 2 rfl ?_
        rcases oi_e hf with ⟨c18, hf⟩ | ⟨c18, hf⟩
        · refine g_icmp_ge_t (tgt := 169) C dX11_wine_162 (by decide) c18 ?_
          exact g_sub [0, 1, 2, 3, 4, 6, 7] rfl (fX11_wine_b169_ok C sf_105 hs_105 σ x1 x2 x3 v15 x6 x7 x5 hf)
        · refine g_icmp_ge_f (tgt := 169) C dX11_wine_162 (by decide) c18 ?_
          exact g_sub [0, 1, 2, 3, 4, 6, 7] rfl (fX11_wine_b165_ok C sf_105 hs_105 σ x1 x2 x3 v15 x6 x7 x5 hf)
def fX11_wine_h105  : Nat → S0 → Int32 → Int32 → Int32 → Int32 → Int32 → Int32 → Int32 → Option (Int32 × S0)
  | 0 => fun _ _ _ _ _ _ _ _ => none
  | n + 1 => fun σ x1 x2 x3 x4 x5 x6 x7 => fX11_wine_b105  (fX11_wine_h105  n) σ x1 x2 x3 x4 x5 x6 x7
set_option maxHeartbeats 1000000 in
set_option maxRecDepth 100000 in
theorem fX11_wine_h105_ok {p : Program} {l : Launch} {e : Env} {s : State} {m : MethodId} {args : Array Value} {below : List Frame} {meth : Method} {c : Code} {dC : Nat → ClassId} {dI : Nat → Nat → Nat} {ad : Nat → Nat} {cy : Nat → ClassId} {sz : Nat} (C : Cx p s m args meth c RX11 cX11_wine 9 (some .int) dC dI ad cy sz) {rr : Int32} {ρ : S0}  : ∀ (n : Nat) (σ : S0) (x1 : Int32) (x2 : Int32) (x3 : Int32) (x4 : Int32) (x5 : Int32) (x6 : Int32) (x7 : Int32)  (_hf : fX11_wine_h105  n σ x1 x2 x3 x4 x5 x6 x7 = some (rr, ρ)), Gw p l e rm_X11_wine s m args below meth c (MQ below (QcI dC dI ad cy sz rr ρ) args s 0 0 (AW ad sz)) dC dI ad cy 9 sz 0 0 105 [(0, .ref (ad 98)), (1, .int x1), (2, .int x2), (3, .int x3), (4, .int x4), (5, .int x5), (6, .int x6), (7, .int x7)] [] σ
  | 0, _, _, _, _, _, _, _, _, hf => by cases hf
  | n + 1, σ, x1, x2, x3, x4, x5, x6, x7, hf => fX11_wine_b105_ok C  (fX11_wine_h105  n) (fX11_wine_h105_ok C  n) σ x1 x2 x3 x4 x5 x6 x7 hf
def fX11_wine_b52 (sf_52 : S0 → Int32 → Int32 → Int32 → Int32 → Option (Int32 × S0)) (σ : S0) (x1 : Int32) (x2 : Int32) (x3 : Int32) (x4 : Int32) : Option (Int32 × S0) := if (σ 98 2) ≤ x4 then (if ¬ x3 = 0 then (og (¬ (x2 < 0 ∨ 6 ≤ x2.toNatClampNeg)) (ol (σ 105 x2.toNatClampNeg) (fun v4 => og (¬ ((x3 : Int32)) = 0) (ol ((x1 * v4) - (x1 * v4) / x3 * x3) (fun v6 => fX11_wine_h105 400 σ x1 x2 x3 x1 0 v6 0))))) else (some ((-4), σ))) else (og (¬ (x4 < 0 ∨ 6 ≤ x4.toNatClampNeg)) (ol (σ 105 x4.toNatClampNeg) (fun v8 => ol (x3 + v8) (fun v9 => ol (x4 + 1) (fun v10 => sf_52 σ x1 x2 v9 v10)))))
set_option maxHeartbeats 1000000 in
set_option maxRecDepth 100000 in
theorem fX11_wine_b52_ok {p : Program} {l : Launch} {e : Env} {s : State} {m : MethodId} {args : Array Value} {below : List Frame} {meth : Method} {c : Code} {dC : Nat → ClassId} {dI : Nat → Nat → Nat} {ad : Nat → Nat} {cy : Nat → ClassId} {sz : Nat} (C : Cx p s m args meth c RX11 cX11_wine 9 (some .int) dC dI ad cy sz) {rr : Int32} {ρ : S0} (sf_52 : S0 → Int32 → Int32 → Int32 → Int32 → Option (Int32 × S0)) (hs_52 : ∀ (σ : S0) (x1 : Int32) (x2 : Int32) (x3 : Int32) (x4 : Int32) , sf_52 σ x1 x2 x3 x4 = some (rr, ρ) → Gw p l e rm_X11_wine s m args below meth c (MQ below (QcI dC dI ad cy sz rr ρ) args s 0 0 (AW ad sz)) dC dI ad cy 9 sz 0 0 52 [(0, .ref (ad 98)), (1, .int x1), (2, .int x2), (3, .int x3), (4, .int x4)] [] σ) (σ : S0) (x1 : Int32) (x2 : Int32) (x3 : Int32) (x4 : Int32)  (hf : fX11_wine_b52 sf_52 σ x1 x2 x3 x4 = some (rr, ρ)) : Gw p l e rm_X11_wine s m args below meth c (MQ below (QcI dC dI ad cy sz rr ρ) args s 0 0 (AW ad sz)) dC dI ad cy 9 sz 0 0 52 [(0, .ref (ad 98)), (1, .int x1), (2, .int x2), (3, .int x3), (4, .int x4)] [] σ := by
  unfold fX11_wine_b52 at hf
  refine g_iload C dX11_wine_52 4 rfl ?_
  refine g_aload_n C dX11_wine_54 rfl 0 rfl ?_
  refine g_get C (a_98 ad cy _) rfl hin_X11 2 (by decide) hF_X11_75 rfl rfl dX11_wine_55 ?_
  rcases oi_e hf with ⟨c1, hf⟩ | ⟨c1, hf⟩
  · refine g_icmp_ge_t (tgt := 77) C dX11_wine_58 (by decide) c1 ?_
    refine g_iload_n C dX11_wine_77 rfl 3 rfl ?_
    rcases oi_e hf with ⟨c2, hf⟩ | ⟨c2, hf⟩
    · refine g_if_ne_t (tgt := 84) C dX11_wine_78 (by decide) c2 ?_
      refine g_iload_n C dX11_wine_84 rfl 1 rfl ?_
      refine g_istore (lv2 := [(0, .ref (ad 98)), (1, .int x1), (2, .int x2), (3, .int x3), (4, .int x1)]) C dX11_wine_85 (by decide) [1, 2, 3, 4, 0] rfl ?_
      refine g_iconst (v := 0) C dX11_wine_87 (by decide) ?_
      refine g_istore (lv2 := [(0, .ref (ad 98)), (1, .int x1), (2, .int x2), (3, .int x3), (4, .int x1), (5, .int 0)]) C dX11_wine_88 (by decide) [1, 2, 3, 4, 5, 0] rfl ?_
      refine g_iload_n C dX11_wine_90 rfl 1 rfl ?_
      refine g_aload_n C dX11_wine_91 rfl 0 rfl ?_
      refine g_get C (a_98 ad cy _) rfl hin_X11 28 (by decide) hF_X11_29 rfl rfl dX11_wine_92 ?_
      refine g_iload_n C dX11_wine_95 rfl 2 rfl ?_
      obtain ⟨h3, hf⟩ := og_e hf
      refine g_iald C (a_105 ad cy _) h3 dX11_wine_96 ?_
      obtain ⟨v4, ev4, hf⟩ := ol_e hf
      refine g_nm ev4 ?_
      refine g_imul C dX11_wine_97 ?_
      refine g_iload_n C dX11_wine_98 rfl 3 rfl ?_
      obtain ⟨h5, hf⟩ := og_e hf
      refine g_irem C dX11_wine_99 h5 ?_
      obtain ⟨v6, ev6, hf⟩ := ol_e hf
      refine g_nm ev6 ?_
      refine g_istore (lv2 := [(0, .ref (ad 98)), (1, .int x1), (2, .int x2), (3, .int x3), (4, .int x1), (5, .int 0), (6, .int v6)]) C dX11_wine_100 (by decide) [1, 2, 3, 4, 5, 6, 0] rfl ?_
      refine g_iconst (v := 0) C dX11_wine_102 (by decide) ?_
      refine g_istore (lv2 := [(0, .ref (ad 98)), (1, .int x1), (2, .int x2), (3, .int x3), (4, .int x1), (5, .int 0), (6, .int v6), (7, .int 0)]) C dX11_wine_103 (by decide) [1, 2, 3, 4, 5, 6, 7, 0] rfl ?_
      exact g_sub [0, 1, 2, 3, 4, 5, 6, 7] rfl (fX11_wine_h105_ok C 400 σ x1 x2 x3 x1 0 v6 0 hf)
    · refine g_if_ne_f (tgt := 84) C dX11_wine_78 (by decide) (Decidable.of_not_not c2) ?_
      refine g_bipush (v := (-4)) C dX11_wine_81 (by decide) ?_
      obtain ⟨rfl, rfl⟩ := os_e hf
      exact g_iret C rfl dX11_wine_83
  · refine g_icmp_ge_f (tgt := 77) C dX11_wine_58 (by decide) c1 ?_
    refine g_iload_n C dX11_wine_61 rfl 3 rfl ?_
    refine g_aload_n C dX11_wine_62 rfl 0 rfl ?_
    refine g_get C (a_98 ad cy _) rfl hin_X11 28 (by decide) hF_X11_29 rfl rfl dX11_wine_63 ?_
    refine g_iload C dX11_wine_66 4 rfl ?_
    obtain ⟨h7, hf⟩ := og_e hf
    refine g_iald C (a_105 ad cy _) h7 dX11_wine_68 ?_
    obtain ⟨v8, ev8, hf⟩ := ol_e hf
    refine g_nm ev8 ?_
    refine g_iadd C dX11_wine_69 ?_
    obtain ⟨v9, ev9, hf⟩ := ol_e hf
    refine g_nm ev9 ?_
    refine g_istore_n (lv2 := [(0, .ref (ad 98)), (1, .int x1), (2, .int x2), (3, .int v9), (4, .int x4)]) C dX11_wine_70 rfl (by decide) [1, 2, 3, 0, 4] rfl ?_
    obtain ⟨v10, ev10, hf⟩ := ol_e hf
    refine g_iinc (j := 4) (w := 1) (lv2 := [(0, .ref (ad 98)), (1, .int x1), (2, .int x2), (3, .int v9), (4, .int v10)]) C dX11_wine_71 rfl (by decide) ev10 (by decide) [1, 2, 3, 4, 0] rfl ?_
    refine g_goto (tgt := 52) C dX11_wine_74 (by decide) ?_
    exact g_sub [0, 1, 2, 3, 4] rfl (hs_52 σ x1 x2 v9 v10 hf)
def fX11_wine_h52  : Nat → S0 → Int32 → Int32 → Int32 → Int32 → Option (Int32 × S0)
  | 0 => fun _ _ _ _ _ => none
  | n + 1 => fun σ x1 x2 x3 x4 => fX11_wine_b52  (fX11_wine_h52  n) σ x1 x2 x3 x4
set_option maxHeartbeats 1000000 in
set_option maxRecDepth 100000 in
theorem fX11_wine_h52_ok {p : Program} {l : Launch} {e : Env} {s : State} {m : MethodId} {args : Array Value} {below : List Frame} {meth : Method} {c : Code} {dC : Nat → ClassId} {dI : Nat → Nat → Nat} {ad : Nat → Nat} {cy : Nat → ClassId} {sz : Nat} (C : Cx p s m args meth c RX11 cX11_wine 9 (some .int) dC dI ad cy sz) {rr : Int32} {ρ : S0}  : ∀ (n : Nat) (σ : S0) (x1 : Int32) (x2 : Int32) (x3 : Int32) (x4 : Int32)  (_hf : fX11_wine_h52  n σ x1 x2 x3 x4 = some (rr, ρ)), Gw p l e rm_X11_wine s m args below meth c (MQ below (QcI dC dI ad cy sz rr ρ) args s 0 0 (AW ad sz)) dC dI ad cy 9 sz 0 0 52 [(0, .ref (ad 98)), (1, .int x1), (2, .int x2), (3, .int x3), (4, .int x4)] [] σ
  | 0, _, _, _, _, _, hf => by cases hf
  | n + 1, σ, x1, x2, x3, x4, hf => fX11_wine_b52_ok C  (fX11_wine_h52  n) (fX11_wine_h52_ok C  n) σ x1 x2 x3 x4 hf
def fX11_wine_b28 (sf_28 : S0 → Int32 → Int32 → Int32 → Option (Int32 × S0)) (σ : S0) (x1 : Int32) (x2 : Int32) (x3 : Int32) : Option (Int32 × S0) := if (σ 98 5) ≤ x3 then (fX11_wine_h52 400 σ x1 x2 0 0) else (obp (fX11_rings σ x3) (fun r2 σ3 => ol (x3 + 1) (fun v5 => sf_28 σ3 x1 x2 v5)))
set_option maxHeartbeats 1000000 in
set_option maxRecDepth 100000 in
theorem fX11_wine_b28_ok {p : Program} {l : Launch} {e : Env} {s : State} {m : MethodId} {args : Array Value} {below : List Frame} {meth : Method} {c : Code} {dC : Nat → ClassId} {dI : Nat → Nat → Nat} {ad : Nat → Nat} {cy : Nat → ClassId} {sz : Nat} (C : Cx p s m args meth c RX11 cX11_wine 9 (some .int) dC dI ad cy sz) {rr : Int32} {ρ : S0} (sf_28 : S0 → Int32 → Int32 → Int32 → Option (Int32 × S0)) (hs_28 : ∀ (σ : S0) (x1 : Int32) (x2 : Int32) (x3 : Int32) , sf_28 σ x1 x2 x3 = some (rr, ρ) → Gw p l e rm_X11_wine s m args below meth c (MQ below (QcI dC dI ad cy sz rr ρ) args s 0 0 (AW ad sz)) dC dI ad cy 9 sz 0 0 28 [(0, .ref (ad 98)), (1, .int x1), (2, .int x2), (3, .int x3)] [] σ) (σ : S0) (x1 : Int32) (x2 : Int32) (x3 : Int32)  (hf : fX11_wine_b28 sf_28 σ x1 x2 x3 = some (rr, ρ)) : Gw p l e rm_X11_wine s m args below meth c (MQ below (QcI dC dI ad cy sz rr ρ) args s 0 0 (AW ad sz)) dC dI ad cy 9 sz 0 0 28 [(0, .ref (ad 98)), (1, .int x1), (2, .int x2), (3, .int x3)] [] σ := by
  unfold fX11_wine_b28 at hf
  refine g_iload_n C dX11_wine_28 rfl 3 rfl ?_
  refine g_aload_n C dX11_wine_29 rfl 0 rfl ?_
  refine g_get C (a_98 ad cy _) rfl hin_X11 5 (by decide) hF_X11_84 rfl rfl dX11_wine_30 ?_
  rcases oi_e hf with ⟨c1, hf⟩ | ⟨c1, hf⟩
  · refine g_icmp_ge_t (tgt := 47) C dX11_wine_33 (by decide) c1 ?_
    refine g_iconst (v := 0) C dX11_wine_47 (by decide) ?_
    refine g_istore_n (lv2 := [(0, .ref (ad 98)), (1, .int x1), (2, .int x2), (3, .int 0)]) C dX11_wine_48 rfl (by decide) [1, 2, 3, 0] rfl ?_
    refine g_iconst (v := 0) C dX11_wine_49 (by decide) ?_
    refine g_istore (lv2 := [(0, .ref (ad 98)), (1, .int x1), (2, .int x2), (3, .int 0), (4, .int 0)]) C dX11_wine_50 (by decide) [1, 2, 3, 4, 0] rfl ?_
    exact g_sub [0, 1, 2, 3, 4] rfl (fX11_wine_h52_ok C 400 σ x1 x2 0 0 hf)
  · refine g_icmp_ge_f (tgt := 47) C dX11_wine_33 (by decide) c1 ?_
    refine g_aload_n C dX11_wine_36 rfl 0 rfl ?_
    refine g_iload_n C dX11_wine_37 rfl 3 rfl ?_
    obtain ⟨r2, σ3, h4, hf⟩ := obp_e hf
    refine g_callVv (As := [.int x3]) (rest := []) C (a_98 ad cy _) rfl (c_X11_rings l dC dI ad cy x3) h4 hM_X11_216 cal_X11_rings ⟨Nat.zero_le _, Nat.zero_le _⟩ ⟨rfl, rfl⟩ ⟨Nat.le_of_ble_eq_true rfl, Nat.le_of_ble_eq_true rfl⟩ rfl rfl (Nat.le_of_ble_eq_true rfl) dX11_wine_38 ?_
    obtain ⟨v5, ev5, hf⟩ := ol_e hf
    refine g_iinc (j := 3) (w := 1) (lv2 := [(0, .ref (ad 98)), (1, .int x1), (2, .int x2), (3, .int v5)]) C dX11_wine_41 rfl (by decide) ev5 (by decide) [1, 2, 3, 0] rfl ?_
    refine g_goto (tgt := 28) C dX11_wine_44 (by decide) ?_
    exact g_sub [0, 1, 2, 3] rfl (hs_28 σ3 x1 x2 v5 hf)
def fX11_wine_h28  : Nat → S0 → Int32 → Int32 → Int32 → Option (Int32 × S0)
  | 0 => fun _ _ _ _ => none
  | n + 1 => fun σ x1 x2 x3 => fX11_wine_b28  (fX11_wine_h28  n) σ x1 x2 x3
set_option maxHeartbeats 1000000 in
set_option maxRecDepth 100000 in
theorem fX11_wine_h28_ok {p : Program} {l : Launch} {e : Env} {s : State} {m : MethodId} {args : Array Value} {below : List Frame} {meth : Method} {c : Code} {dC : Nat → ClassId} {dI : Nat → Nat → Nat} {ad : Nat → Nat} {cy : Nat → ClassId} {sz : Nat} (C : Cx p s m args meth c RX11 cX11_wine 9 (some .int) dC dI ad cy sz) {rr : Int32} {ρ : S0}  : ∀ (n : Nat) (σ : S0) (x1 : Int32) (x2 : Int32) (x3 : Int32)  (_hf : fX11_wine_h28  n σ x1 x2 x3 = some (rr, ρ)), Gw p l e rm_X11_wine s m args below meth c (MQ below (QcI dC dI ad cy sz rr ρ) args s 0 0 (AW ad sz)) dC dI ad cy 9 sz 0 0 28 [(0, .ref (ad 98)), (1, .int x1), (2, .int x2), (3, .int x3)] [] σ
  | 0, _, _, _, _, hf => by cases hf
  | n + 1, σ, x1, x2, x3, hf => fX11_wine_b28_ok C  (fX11_wine_h28  n) (fX11_wine_h28_ok C  n) σ x1 x2 x3 hf
def fX11_wine (σ : S0) (x1 : Int32) (x2 : Int32) : Option (Int32 × S0) := obp (fX11_in σ x1.toInt64 ((0 : Int64)) ((999 : Int64))) (fun r1 σ2 => if r1 = 0 then (some ((-1), σ2)) else (obp (fX11_isHouse σ2 x2) (fun r5 σ6 => if ¬ r5 = 0 then (obp (fX11_noRung σ6) (fun r9 σ10 => fX11_wine_h28 400 σ10 x1 x2 0)) else (some ((-1), σ6)))))
set_option maxHeartbeats 1000000 in
set_option maxRecDepth 100000 in
theorem fX11_wine_ok {p : Program} {l : Launch} {e : Env} {s : State} {m : MethodId} {args : Array Value} {below : List Frame} {meth : Method} {c : Code} {dC : Nat → ClassId} {dI : Nat → Nat → Nat} {ad : Nat → Nat} {cy : Nat → ClassId} {sz : Nat} (C : Cx p s m args meth c RX11 cX11_wine 9 (some .int) dC dI ad cy sz) {rr : Int32} {ρ : S0} (σ : S0) (x1 : Int32) (x2 : Int32)  (hf : fX11_wine σ x1 x2 = some (rr, ρ)) : Gw p l e rm_X11_wine s m args below meth c (MQ below (QcI dC dI ad cy sz rr ρ) args s 0 0 (AW ad sz)) dC dI ad cy 9 sz 0 0 0 [(0, .ref (ad 98)), (1, .int x1), (2, .int x2)] [] σ := by
  unfold fX11_wine at hf
  refine g_iload_n C dX11_wine_0 rfl 1 rfl ?_
  refine g_i2l C dX11_wine_1 ?_
  refine g_lconst (v := 0) C dX11_wine_2 (by decide) ?_
  refine g_ldc2 (v := 999) C dX11_wine_3 hK_X11_295 ?_
  obtain ⟨r1, σ2, h3, hf⟩ := obp_e hf
  refine g_callSi (As := [.long x1.toInt64, .long 0, .long 999]) (rest := []) C (c_X11_in l dC dI ad cy x1.toInt64 ((0 : Int64)) ((999 : Int64))) h3 hM_X11_92 cal_X11_in ⟨Nat.zero_le _, Nat.zero_le _⟩ ⟨rfl, rfl⟩ ⟨Nat.le_of_ble_eq_true rfl, Nat.le_of_ble_eq_true rfl⟩ rfl rfl (Nat.le_of_ble_eq_true rfl) dX11_wine_6 ?_
  rcases oi_e hf with ⟨c4, hf⟩ | ⟨c4, hf⟩
  · refine g_if_eq_t (tgt := 20) C dX11_wine_9 (by decide) c4 ?_
    refine g_iconst (v := (-1)) C dX11_wine_20 (by decide) ?_
    obtain ⟨rfl, rfl⟩ := os_e hf
    exact g_iret C rfl dX11_wine_21
  · refine g_if_eq_f (tgt := 20) C dX11_wine_9 (by decide) c4 ?_
    refine g_aload_n C dX11_wine_12 rfl 0 rfl ?_
    refine g_iload_n C dX11_wine_13 rfl 2 rfl ?_
    obtain ⟨r5, σ6, h7, hf⟩ := obp_e hf
    refine g_callVi (As := [.int x2]) (rest := []) C (a_98 ad cy _) rfl (c_X11_isHouse l dC dI ad cy x2) h7 hM_X11_186 cal_X11_isHouse ⟨Nat.zero_le _, Nat.zero_le _⟩ ⟨rfl, rfl⟩ ⟨Nat.le_of_ble_eq_true rfl, Nat.le_of_ble_eq_true rfl⟩ rfl rfl (Nat.le_of_ble_eq_true rfl) dX11_wine_14 ?_
    rcases oi_e hf with ⟨c8, hf⟩ | ⟨c8, hf⟩
    · refine g_if_ne_t (tgt := 22) C dX11_wine_17 (by decide) c8 ?_
      refine g_aload_n C dX11_wine_22 rfl 0 rfl ?_
      obtain ⟨r9, σ10, h11, hf⟩ := obp_e hf
      refine g_callVv (As := []) (rest := []) C (a_98 ad cy _) rfl (c_X11_noRung l dC dI ad cy ) h11 hM_X11_256 cal_X11_noRung ⟨Nat.zero_le _, Nat.zero_le _⟩ ⟨rfl, rfl⟩ ⟨Nat.le_of_ble_eq_true rfl, Nat.le_of_ble_eq_true rfl⟩ rfl rfl (Nat.le_of_ble_eq_true rfl) dX11_wine_23 ?_
      refine g_iconst (v := 0) C dX11_wine_26 (by decide) ?_
      refine g_istore_n (lv2 := [(0, .ref (ad 98)), (1, .int x1), (2, .int x2), (3, .int 0)]) C dX11_wine_27 rfl (by decide) [1, 2, 3, 0] rfl ?_
      exact g_sub [0, 1, 2, 3] rfl (fX11_wine_h28_ok C 400 σ10 x1 x2 0 hf)
    · refine g_if_ne_f (tgt := 22) C dX11_wine_17 (by decide) (Decidable.of_not_not c8) ?_
      refine g_iconst (v := (-1)) C dX11_wine_20 (by decide) ?_
      obtain ⟨rfl, rfl⟩ := os_e hf
      exact g_iret C rfl dX11_wine_21
theorem c_X11_wine (l : Launch) (dC : Nat → ClassId) (dI : Nat → Nat → Nat) (ad : Nat → Nat) (cy : Nat → ClassId) (x1 : Int32) (x2 : Int32) : ConI l yX11_wine cX11_wine 9 (some .int) rm_X11_wine dC dI ad cy [.ref (ad 98), .int x1, .int x2] (fun σ => fX11_wine σ x1 x2) := con_i (own := RX11) (by decide) rfl (Nat.le_of_ble_eq_true rfl) (fun _ _ _ _ _ _ _ _ σ _ _ C hf => fX11_wine_ok C σ x1 x2 hf)
theorem cal_X11_wine : CalV yX11_wine RX11 cX11_wine 9 (some .int) 2 := ⟨hI_X11_wine, hS_X11_wine, hIni_X11, hC_X11_wine, by decide +kernel⟩
end
section
abbrev rm_X11_hear : Room := { frames := 2, cells := 0, slots := 0, locals := 46 }
def fX11_hear_b16  (σ : S0) (x1 : Int32) : Option (Int32 × S0) := og (¬ (((66 : Int32)) < 0 ∨ 240 ≤ ((66 : Int32)).toNatClampNeg)) (ol (σ 99 ((66 : Int32)).toNatClampNeg) (fun v2 => if ¬ v2 = 12 then (og (¬ (((66 : Int32)) < 0 ∨ 240 ≤ ((66 : Int32)).toNatClampNeg)) (ol (σ 99 ((66 : Int32)).toNatClampNeg) (fun v5 => ol (67 + v5) (fun v6 => og (¬ (v6 < 0 ∨ 240 ≤ v6.toNatClampNeg)) (ol (su σ 99 v6.toNatClampNeg x1) (fun σ8 => og (¬ (((66 : Int32)) < 0 ∨ 240 ≤ ((66 : Int32)).toNatClampNeg)) (ol (σ8 99 ((66 : Int32)).toNatClampNeg) (fun v10 => ol (v10 + 1) (fun v11 => og (¬ (((66 : Int32)) < 0 ∨ 240 ≤ ((66 : Int32)).toNatClampNeg)) (ol (su σ8 99 ((66 : Int32)).toNatClampNeg v11) (fun σ13 => og (¬ (((66 : Int32)) < 0 ∨ 240 ≤ ((66 : Int32)).toNatClampNeg)) (ol (σ13 99 ((66 : Int32)).toNatClampNeg) (fun v15 => some (v15, σ13)))))))))))))) else (some ((-3), σ))))
set_option maxHeartbeats 1000000 in
set_option maxRecDepth 100000 in
theorem fX11_hear_b16_ok {p : Program} {l : Launch} {e : Env} {s : State} {m : MethodId} {args : Array Value} {below : List Frame} {meth : Method} {c : Code} {dC : Nat → ClassId} {dI : Nat → Nat → Nat} {ad : Nat → Nat} {cy : Nat → ClassId} {sz : Nat} (C : Cx p s m args meth c RX11 cX11_hear 2 (some .int) dC dI ad cy sz) {rr : Int32} {ρ : S0}  (σ : S0) (x1 : Int32)  (hf : fX11_hear_b16 σ x1 = some (rr, ρ)) : Gw p l e rm_X11_hear s m args below meth c (MQ below (QcI dC dI ad cy sz rr ρ) args s 0 0 (AW ad sz)) dC dI ad cy 2 sz 0 0 16 [(0, .ref (ad 98)), (1, .int x1)] [] σ := by
  unfold fX11_hear_b16 at hf
  refine g_aload_n C dX11_hear_16 rfl 0 rfl ?_
  refine g_get C (a_98 ad cy _) rfl hin_X11 0 (by decide) hF_X11_7 rfl rfl dX11_hear_17 ?_
  refine g_bipush (v := 66) C dX11_hear_20 (by decide) ?_
  obtain ⟨h1, hf⟩ := og_e hf
  refine g_iald C (a_99 ad cy _) h1 dX11_hear_22 ?_
  obtain ⟨v2, ev2, hf⟩ := ol_e hf
  refine g_nm ev2 ?_
  refine g_bipush (v := 12) C dX11_hear_23 (by decide) ?_
  rcases oi_e hf with ⟨c3, hf⟩ | ⟨c3, hf⟩
  · refine g_icmp_ne_t (tgt := 31) C dX11_hear_25 (by decide) c3 ?_
    refine g_aload_n C dX11_hear_31 rfl 0 rfl ?_
    refine g_get C (a_98 ad cy _) rfl hin_X11 0 (by decide) hF_X11_7 rfl rfl dX11_hear_32 ?_
    refine g_bipush (v := 67) C dX11_hear_35 (by decide) ?_
    refine g_aload_n C dX11_hear_37 rfl 0 rfl ?_
    refine g_get C (a_98 ad cy _) rfl hin_X11 0 (by decide) hF_X11_7 rfl rfl dX11_hear_38 ?_
    refine g_bipush (v := 66) C dX11_hear_41 (by decide) ?_
    obtain ⟨h4, hf⟩ := og_e hf
    refine g_iald C (a_99 ad cy _) h4 dX11_hear_43 ?_
    obtain ⟨v5, ev5, hf⟩ := ol_e hf
    refine g_nm ev5 ?_
    refine g_iadd C dX11_hear_44 ?_
    refine g_iload_n C dX11_hear_45 rfl 1 rfl ?_
    obtain ⟨v6, ev6, hf⟩ := ol_e hf
    refine g_nm2 ev6 ?_
    obtain ⟨h7, hf⟩ := og_e hf
    obtain ⟨σ8, eσ8, hf⟩ := ol_e hf
    refine g_iast C (a_99 ad cy _) h7 (w_99 ad cy _) eσ8 dX11_hear_46 ?_
    refine g_aload_n C dX11_hear_47 rfl 0 rfl ?_
    refine g_get C (a_98 ad cy _) rfl hin_X11 0 (by decide) hF_X11_7 rfl rfl dX11_hear_48 ?_
    refine g_bipush (v := 66) C dX11_hear_51 (by decide) ?_
    refine g_dup2 C dX11_hear_53 rfl rfl ?_
    obtain ⟨h9, hf⟩ := og_e hf
    refine g_iald C (a_99 ad cy _) h9 dX11_hear_54 ?_
    obtain ⟨v10, ev10, hf⟩ := ol_e hf
    refine g_nm ev10 ?_
    refine g_iconst (v := 1) C dX11_hear_55 (by decide) ?_
    refine g_iadd C dX11_hear_56 ?_
    obtain ⟨v11, ev11, hf⟩ := ol_e hf
    refine g_nm ev11 ?_
    obtain ⟨h12, hf⟩ := og_e hf
    obtain ⟨σ13, eσ13, hf⟩ := ol_e hf
    refine g_iast C (a_99 ad cy _) h12 (w_99 ad cy _) eσ13 dX11_hear_57 ?_
    refine g_aload_n C dX11_hear_58 rfl 0 rfl ?_
    refine g_get C (a_98 ad cy _) rfl hin_X11 0 (by decide) hF_X11_7 rfl rfl dX11_hear_59 ?_
    refine g_bipush (v := 66) C dX11_hear_62 (by decide) ?_
    obtain ⟨h14, hf⟩ := og_e hf
    refine g_iald C (a_99 ad cy _) h14 dX11_hear_64 ?_
    obtain ⟨v15, ev15, hf⟩ := ol_e hf
    refine g_nm ev15 ?_
    obtain ⟨rfl, rfl⟩ := os_e hf
    exact g_iret C rfl dX11_hear_65
  · refine g_icmp_ne_f (tgt := 31) C dX11_hear_25 (by decide) (Decidable.of_not_not c3) ?_
    refine g_bipush (v := (-3)) C dX11_hear_28 (by decide) ?_
    obtain ⟨rfl, rfl⟩ := os_e hf
    exact g_iret C rfl dX11_hear_30
def fX11_hear (σ : S0) (x1 : Int32) : Option (Int32 × S0) := if x1 = ((-4)) then (fX11_hear_b16 σ x1) else (obp (fX11_isBell σ x1) (fun r2 σ3 => if ¬ r2 = 0 then (fX11_hear_b16 σ3 x1) else (some ((-1), σ3))))
set_option maxHeartbeats 1000000 in
set_option maxRecDepth 100000 in
theorem fX11_hear_ok {p : Program} {l : Launch} {e : Env} {s : State} {m : MethodId} {args : Array Value} {below : List Frame} {meth : Method} {c : Code} {dC : Nat → ClassId} {dI : Nat → Nat → Nat} {ad : Nat → Nat} {cy : Nat → ClassId} {sz : Nat} (C : Cx p s m args meth c RX11 cX11_hear 2 (some .int) dC dI ad cy sz) {rr : Int32} {ρ : S0} (σ : S0) (x1 : Int32)  (hf : fX11_hear σ x1 = some (rr, ρ)) : Gw p l e rm_X11_hear s m args below meth c (MQ below (QcI dC dI ad cy sz rr ρ) args s 0 0 (AW ad sz)) dC dI ad cy 2 sz 0 0 0 [(0, .ref (ad 98)), (1, .int x1)] [] σ := by
  unfold fX11_hear at hf
  refine g_iload_n C dX11_hear_0 rfl 1 rfl ?_
  refine g_bipush (v := (-4)) C dX11_hear_1 (by decide) ?_
  rcases oi_e hf with ⟨c1, hf⟩ | ⟨c1, hf⟩
  · refine g_icmp_eq_t (tgt := 16) C dX11_hear_3 (by decide) c1 ?_
    exact g_sub [0, 1] rfl (fX11_hear_b16_ok C σ x1 hf)
  · refine g_icmp_eq_f (tgt := 16) C dX11_hear_3 (by decide) c1 ?_
    refine g_aload_n C dX11_hear_6 rfl 0 rfl ?_
    refine g_iload_n C dX11_hear_7 rfl 1 rfl ?_
    obtain ⟨r2, σ3, h4, hf⟩ := obp_e hf
    refine g_callVi (As := [.int x1]) (rest := []) C (a_98 ad cy _) rfl (c_X11_isBell l dC dI ad cy x1) h4 hM_X11_166 cal_X11_isBell ⟨Nat.zero_le _, Nat.zero_le _⟩ ⟨rfl, rfl⟩ ⟨Nat.le_of_ble_eq_true rfl, Nat.le_of_ble_eq_true rfl⟩ rfl rfl (Nat.le_of_ble_eq_true rfl) dX11_hear_8 ?_
    rcases oi_e hf with ⟨c5, hf⟩ | ⟨c5, hf⟩
    · refine g_if_ne_t (tgt := 16) C dX11_hear_11 (by decide) c5 ?_
      exact g_sub [0, 1] rfl (fX11_hear_b16_ok C σ3 x1 hf)
    · refine g_if_ne_f (tgt := 16) C dX11_hear_11 (by decide) (Decidable.of_not_not c5) ?_
      refine g_iconst (v := (-1)) C dX11_hear_14 (by decide) ?_
      obtain ⟨rfl, rfl⟩ := os_e hf
      exact g_iret C rfl dX11_hear_15
theorem c_X11_hear (l : Launch) (dC : Nat → ClassId) (dI : Nat → Nat → Nat) (ad : Nat → Nat) (cy : Nat → ClassId) (x1 : Int32) : ConI l yX11_hear cX11_hear 2 (some .int) rm_X11_hear dC dI ad cy [.ref (ad 98), .int x1] (fun σ => fX11_hear σ x1) := con_i (own := RX11) (by decide) rfl (Nat.le_of_ble_eq_true rfl) (fun _ _ _ _ _ _ _ _ σ _ _ C hf => fX11_hear_ok C σ x1 hf)
theorem cal_X11_hear : CalV yX11_hear RX11 cX11_hear 2 (some .int) 1 := ⟨hI_X11_hear, hS_X11_hear, hIni_X11, hC_X11_hear, by decide +kernel⟩
abbrev rm_X11_hush : Room := { frames := 0, cells := 0, slots := 0, locals := 0 }
def fX11_hush (σ : S0)  : Option (Int32 × S0) := og (¬ (((66 : Int32)) < 0 ∨ 240 ≤ ((66 : Int32)).toNatClampNeg)) (ol (σ 99 ((66 : Int32)).toNatClampNeg) (fun v2 => og (¬ (((66 : Int32)) < 0 ∨ 240 ≤ ((66 : Int32)).toNatClampNeg)) (ol (su σ 99 ((66 : Int32)).toNatClampNeg 0) (fun σ4 => some (v2, σ4)))))
set_option maxHeartbeats 1000000 in
set_option maxRecDepth 100000 in
theorem fX11_hush_ok {p : Program} {l : Launch} {e : Env} {s : State} {m : MethodId} {args : Array Value} {below : List Frame} {meth : Method} {c : Code} {dC : Nat → ClassId} {dI : Nat → Nat → Nat} {ad : Nat → Nat} {cy : Nat → ClassId} {sz : Nat} (C : Cx p s m args meth c RX11 cX11_hush 2 (some .int) dC dI ad cy sz) {rr : Int32} {ρ : S0} (σ : S0)   (hf : fX11_hush σ = some (rr, ρ)) : Gw p l e rm_X11_hush s m args below meth c (MQ below (QcI dC dI ad cy sz rr ρ) args s 0 0 (AW ad sz)) dC dI ad cy 2 sz 0 0 0 [(0, .ref (ad 98))] [] σ := by
  unfold fX11_hush at hf
  refine g_aload_n C dX11_hush_0 rfl 0 rfl ?_
  refine g_get C (a_98 ad cy _) rfl hin_X11 0 (by decide) hF_X11_7 rfl rfl dX11_hush_1 ?_
  refine g_bipush (v := 66) C dX11_hush_4 (by decide) ?_
  obtain ⟨h1, hf⟩ := og_e hf
  refine g_iald C (a_99 ad cy _) h1 dX11_hush_6 ?_
  obtain ⟨v2, ev2, hf⟩ := ol_e hf
  refine g_nm ev2 ?_
  refine g_istore_n (lv2 := [(0, .ref (ad 98)), (1, .int v2)]) C dX11_hush_7 rfl (by decide) [1, 0] rfl ?_
  refine g_aload_n C dX11_hush_8 rfl 0 rfl ?_
  refine g_get C (a_98 ad cy _) rfl hin_X11 0 (by decide) hF_X11_7 rfl rfl dX11_hush_9 ?_
  refine g_bipush (v := 66) C dX11_hush_12 (by decide) ?_
  refine g_iconst (v := 0) C dX11_hush_14 (by decide) ?_
  obtain ⟨h3, hf⟩ := og_e hf
  obtain ⟨σ4, eσ4, hf⟩ := ol_e hf
  refine g_iast C (a_99 ad cy _) h3 (w_99 ad cy _) eσ4 dX11_hush_15 ?_
  refine g_iload_n C dX11_hush_16 rfl 1 rfl ?_
  obtain ⟨rfl, rfl⟩ := os_e hf
  exact g_iret C rfl dX11_hush_17
theorem c_X11_hush (l : Launch) (dC : Nat → ClassId) (dI : Nat → Nat → Nat) (ad : Nat → Nat) (cy : Nat → ClassId)  : ConI l yX11_hush cX11_hush 2 (some .int) rm_X11_hush dC dI ad cy [.ref (ad 98)] (fun σ => fX11_hush σ) := con_i (own := RX11) (by decide) rfl (Nat.le_of_ble_eq_true rfl) (fun _ _ _ _ _ _ _ _ σ _ _ C hf => fX11_hush_ok C σ  hf)
theorem cal_X11_hush : CalV yX11_hush RX11 cX11_hush 2 (some .int) 0 := ⟨hI_X11_hush, hS_X11_hush, hIni_X11, hC_X11_hush, by decide +kernel⟩
abbrev rm_X11_isFit : Room := { frames := 1, cells := 0, slots := 0, locals := 22 }
def fX11_isFit_b139 (sf_31 : S0 → Int32 → Int32 → Int32 → Int32 → Option (Int32 × S0)) (σ : S0) (x1 : Int32) (x2 : Int32) (x4 : Int32) (t0 : Int32) : Option (Int32 × S0) := ol (x4 + 1) (fun v1 => sf_31 σ x1 x2 t0 v1)
set_option maxHeartbeats 1000000 in
set_option maxRecDepth 100000 in
theorem fX11_isFit_b139_ok {p : Program} {l : Launch} {e : Env} {s : State} {m : MethodId} {args : Array Value} {below : List Frame} {meth : Method} {c : Code} {dC : Nat → ClassId} {dI : Nat → Nat → Nat} {ad : Nat → Nat} {cy : Nat → ClassId} {sz : Nat} (C : Cx p s m args meth c RX11 cX11_isFit 7 (some .boolean) dC dI ad cy sz) {rr : Int32} {ρ : S0} (sf_31 : S0 → Int32 → Int32 → Int32 → Int32 → Option (Int32 × S0)) (hs_31 : ∀ (σ : S0) (x1 : Int32) (x2 : Int32) (x3 : Int32) (x4 : Int32) , sf_31 σ x1 x2 x3 x4 = some (rr, ρ) → Gw p l e rm_X11_isFit s m args below meth c (MQ below (QcI dC dI ad cy sz rr ρ) args s 0 0 (AW ad sz)) dC dI ad cy 7 sz 0 0 31 [(0, .ref (ad 98)), (1, .int x1), (2, .int x2), (3, .int x3), (4, .int x4)] [] σ) (σ : S0) (x1 : Int32) (x2 : Int32) (x4 : Int32) (t0 : Int32)  (hf : fX11_isFit_b139 sf_31 σ x1 x2 x4 t0 = some (rr, ρ)) : Gw p l e rm_X11_isFit s m args below meth c (MQ below (QcI dC dI ad cy sz rr ρ) args s 0 0 (AW ad sz)) dC dI ad cy 7 sz 0 0 139 [(0, .ref (ad 98)), (1, .int x1), (2, .int x2), (4, .int x4)] [.int t0] σ := by
  unfold fX11_isFit_b139 at hf
  refine g_istore_n (lv2 := [(0, .ref (ad 98)), (1, .int x1), (2, .int x2), (3, .int t0), (4, .int x4)]) C dX11_isFit_139 rfl (by decide) [1, 2, 3, 0, 4] rfl ?_
  obtain ⟨v1, ev1, hf⟩ := ol_e hf
  refine g_iinc (j := 4) (w := 1) (lv2 := [(0, .ref (ad 98)), (1, .int x1), (2, .int x2), (3, .int t0), (4, .int v1)]) C dX11_isFit_140 rfl (by decide) ev1 (by decide) [1, 2, 3, 4, 0] rfl ?_
  refine g_goto (tgt := 31) C dX11_isFit_143 (by decide) ?_
  exact g_sub [0, 1, 2, 3, 4] rfl (hs_31 σ x1 x2 t0 v1 hf)
def fX11_isFit_b134 (sf_31 : S0 → Int32 → Int32 → Int32 → Int32 → Option (Int32 × S0)) (σ : S0) (x1 : Int32) (x2 : Int32) (x4 : Int32) : Option (Int32 × S0) := fX11_isFit_b139 sf_31 σ x1 x2 x4 1
set_option maxHeartbeats 1000000 in
set_option maxRecDepth 100000 in
theorem fX11_isFit_b134_ok {p : Program} {l : Launch} {e : Env} {s : State} {m : MethodId} {args : Array Value} {below : List Frame} {meth : Method} {c : Code} {dC : Nat → ClassId} {dI : Nat → Nat → Nat} {ad : Nat → Nat} {cy : Nat → ClassId} {sz : Nat} (C : Cx p s m args meth c RX11 cX11_isFit 7 (some .boolean) dC dI ad cy sz) {rr : Int32} {ρ : S0} (sf_31 : S0 → Int32 → Int32 → Int32 → Int32 → Option (Int32 × S0)) (hs_31 : ∀ (σ : S0) (x1 : Int32) (x2 : Int32) (x3 : Int32) (x4 : Int32) , sf_31 σ x1 x2 x3 x4 = some (rr, ρ) → Gw p l e rm_X11_isFit s m args below meth c (MQ below (QcI dC dI ad cy sz rr ρ) args s 0 0 (AW ad sz)) dC dI ad cy 7 sz 0 0 31 [(0, .ref (ad 98)), (1, .int x1), (2, .int x2), (3, .int x3), (4, .int x4)] [] σ) (σ : S0) (x1 : Int32) (x2 : Int32) (x4 : Int32)  (hf : fX11_isFit_b134 sf_31 σ x1 x2 x4 = some (rr, ρ)) : Gw p l e rm_X11_isFit s m args below meth c (MQ below (QcI dC dI ad cy sz rr ρ) args s 0 0 (AW ad sz)) dC dI ad cy 7 sz 0 0 134 [(0, .ref (ad 98)), (1, .int x1), (2, .int x2), (4, .int x4)] [] σ := by
  unfold fX11_isFit_b134 at hf
  refine g_iconst (v := 1) C dX11_isFit_134 (by decide) ?_
  refine g_goto (tgt := 139) C dX11_isFit_135 (by decide) ?_
  exact g_sub [0, 1, 2, 3] rfl (fX11_isFit_b139_ok C sf_31 hs_31 σ x1 x2 x4 1 hf)
def fX11_isFit_b113 (sf_31 : S0 → Int32 → Int32 → Int32 → Int32 → Option (Int32 × S0)) (σ : S0) (x1 : Int32) (x4 : Int32) (x5 : Int32) (t0 : Int32) (t1 : Int32) : Option (Int32 × S0) := ol (t1 ||| t0) (fun v1 => if x5 = ((-4)) then (fX11_isFit_b134 sf_31 σ x1 v1 x4) else (obp (fX11_stroke σ x1 x4) (fun r3 σ4 => if ¬ x5 = r3 then (fX11_isFit_b139 sf_31 σ4 x1 v1 x4 0) else (fX11_isFit_b134 sf_31 σ4 x1 v1 x4))))
set_option maxHeartbeats 1000000 in
set_option maxRecDepth 100000 in
theorem fX11_isFit_b113_ok {p : Program} {l : Launch} {e : Env} {s : State} {m : MethodId} {args : Array Value} {below : List Frame} {meth : Method} {c : Code} {dC : Nat → ClassId} {dI : Nat → Nat → Nat} {ad : Nat → Nat} {cy : Nat → ClassId} {sz : Nat} (C : Cx p s m args meth c RX11 cX11_isFit 7 (some .boolean) dC dI ad cy sz) {rr : Int32} {ρ : S0} (sf_31 : S0 → Int32 → Int32 → Int32 → Int32 → Option (Int32 × S0)) (hs_31 : ∀ (σ : S0) (x1 : Int32) (x2 : Int32) (x3 : Int32) (x4 : Int32) , sf_31 σ x1 x2 x3 x4 = some (rr, ρ) → Gw p l e rm_X11_isFit s m args below meth c (MQ below (QcI dC dI ad cy sz rr ρ) args s 0 0 (AW ad sz)) dC dI ad cy 7 sz 0 0 31 [(0, .ref (ad 98)), (1, .int x1), (2, .int x2), (3, .int x3), (4, .int x4)] [] σ) (σ : S0) (x1 : Int32) (x4 : Int32) (x5 : Int32) (t0 : Int32) (t1 : Int32)  (hf : fX11_isFit_b113 sf_31 σ x1 x4 x5 t0 t1 = some (rr, ρ)) : Gw p l e rm_X11_isFit s m args below meth c (MQ below (QcI dC dI ad cy sz rr ρ) args s 0 0 (AW ad sz)) dC dI ad cy 7 sz 0 0 113 [(0, .ref (ad 98)), (1, .int x1), (4, .int x4), (5, .int x5)] [.int t0, .int t1] σ := by
  unfold fX11_isFit_b113 at hf
  refine g_ior C dX11_isFit_113 ?_
  obtain ⟨v1, ev1, hf⟩ := ol_e hf
  refine g_nm ev1 ?_
  refine g_istore_n (lv2 := [(0, .ref (ad 98)), (1, .int x1), (2, .int v1), (4, .int x4), (5, .int x5)]) C dX11_isFit_114 rfl (by decide) [1, 2, 0, 3, 4] rfl ?_
  refine g_iload C dX11_isFit_115 4 rfl ?_
  refine g_bipush (v := (-4)) C dX11_isFit_117 (by decide) ?_
  rcases oi_e hf with ⟨c2, hf⟩ | ⟨c2, hf⟩
  · refine g_icmp_eq_t (tgt := 134) C dX11_isFit_119 (by decide) c2 ?_
    exact g_sub [0, 1, 2, 3] rfl (fX11_isFit_b134_ok C sf_31 hs_31 σ x1 v1 x4 hf)
  · refine g_icmp_eq_f (tgt := 134) C dX11_isFit_119 (by decide) c2 ?_
    refine g_iload C dX11_isFit_122 4 rfl ?_
    refine g_aload_n C dX11_isFit_124 rfl 0 rfl ?_
    refine g_iload_n C dX11_isFit_125 rfl 1 rfl ?_
    refine g_iload C dX11_isFit_126 3 rfl ?_
    obtain ⟨r3, σ4, h5, hf⟩ := obp_e hf
    refine g_callVi (As := [.int x1, .int x4]) (rest := [.int x5]) C (a_98 ad cy _) rfl (c_X11_stroke l dC dI ad cy x1 x4) h5 hM_X11_183 cal_X11_stroke ⟨Nat.zero_le _, Nat.zero_le _⟩ ⟨rfl, rfl⟩ ⟨Nat.le_of_ble_eq_true rfl, Nat.le_of_ble_eq_true rfl⟩ rfl rfl (Nat.le_of_ble_eq_true rfl) dX11_isFit_128 ?_
    rcases oi_e hf with ⟨c6, hf⟩ | ⟨c6, hf⟩
    · refine g_icmp_ne_t (tgt := 138) C dX11_isFit_131 (by decide) c6 ?_
      refine g_iconst (v := 0) C dX11_isFit_138 (by decide) ?_
      exact g_sub [0, 1, 2, 3] rfl (fX11_isFit_b139_ok C sf_31 hs_31 σ4 x1 v1 x4 0 hf)
    · refine g_icmp_ne_f (tgt := 138) C dX11_isFit_131 (by decide) (Decidable.of_not_not c6) ?_
      exact g_sub [0, 1, 2, 3] rfl (fX11_isFit_b134_ok C sf_31 hs_31 σ4 x1 v1 x4 hf)
def fX11_isFit_b93 (sf_31 : S0 → Int32 → Int32 → Int32 → Int32 → Option (Int32 × S0)) (σ : S0) (x1 : Int32) (x2 : Int32) (x4 : Int32) (x5 : Int32) (x6 : Int32) (t0 : Int32) (t1 : Int32) : Option (Int32 × S0) := ol (t1 ||| t0) (fun v1 => ol (su σ 98 35 v1) (fun σ2 => if ¬ x5 = ((-4)) then (fX11_isFit_b113 sf_31 σ2 x1 x4 x5 ((1 : Int32) <<< (x6 &&& 31)) x2) else (fX11_isFit_b113 sf_31 σ2 x1 x4 x5 0 x2)))
set_option maxHeartbeats 1000000 in
set_option maxRecDepth 100000 in
theorem fX11_isFit_b93_ok {p : Program} {l : Launch} {e : Env} {s : State} {m : MethodId} {args : Array Value} {below : List Frame} {meth : Method} {c : Code} {dC : Nat → ClassId} {dI : Nat → Nat → Nat} {ad : Nat → Nat} {cy : Nat → ClassId} {sz : Nat} (C : Cx p s m args meth c RX11 cX11_isFit 7 (some .boolean) dC dI ad cy sz) {rr : Int32} {ρ : S0} (sf_31 : S0 → Int32 → Int32 → Int32 → Int32 → Option (Int32 × S0)) (hs_31 : ∀ (σ : S0) (x1 : Int32) (x2 : Int32) (x3 : Int32) (x4 : Int32) , sf_31 σ x1 x2 x3 x4 = some (rr, ρ) → Gw p l e rm_X11_isFit s m args below meth c (MQ below (QcI dC dI ad cy sz rr ρ) args s 0 0 (AW ad sz)) dC dI ad cy 7 sz 0 0 31 [(0, .ref (ad 98)), (1, .int x1), (2, .int x2), (3, .int x3), (4, .int x4)] [] σ) (σ : S0) (x1 : Int32) (x2 : Int32) (x4 : Int32) (x5 : Int32) (x6 : Int32) (t0 : Int32) (t1 : Int32)  (hf : fX11_isFit_b93 sf_31 σ x1 x2 x4 x5 x6 t0 t1 = some (rr, ρ)) : Gw p l e rm_X11_isFit s m args below meth c (MQ below (QcI dC dI ad cy sz rr ρ) args s 0 0 (AW ad sz)) dC dI ad cy 7 sz 0 0 93 [(0, .ref (ad 98)), (1, .int x1), (2, .int x2), (4, .int x4), (5, .int x5), (6, .int x6)] [.int t0, .int t1, .ref (ad 98)] σ := by
  unfold fX11_isFit_b93 at hf
  refine g_ior C dX11_isFit_93 ?_
  obtain ⟨v1, ev1, hf⟩ := ol_e hf
  refine g_nm ev1 ?_
  obtain ⟨σ2, eσ2, hf⟩ := ol_e hf
  refine g_put (ty := .int) C (a_98 ad cy _) rfl hin_X11 tyX11 tyX11_ok nmX11 35 (by decide) hF_X11_297 rfl rfl (by decide +kernel) rfl rfl (Nat.le_of_ble_eq_true rfl) (p_98_35 ad cy _ _) eσ2 dX11_isFit_94 ?_
  refine g_iload_n C dX11_isFit_97 rfl 2 rfl ?_
  refine g_iload C dX11_isFit_98 4 rfl ?_
  refine g_bipush (v := (-4)) C dX11_isFit_100 (by decide) ?_
  rcases oi_e hf with ⟨c3, hf⟩ | ⟨c3, hf⟩
  · refine g_icmp_ne_t (tgt := 109) C dX11_isFit_102 (by decide) c3 ?_
    refine g_iconst (v := 1) C dX11_isFit_109 (by decide) ?_
    refine g_iload C dX11_isFit_110 5 rfl ?_
    refine g_ishl C dX11_isFit_112 ?_
    exact g_sub [0, 1, 3, 4] rfl (fX11_isFit_b113_ok C sf_31 hs_31 σ2 x1 x4 x5 ((1 : Int32) <<< (x6 &&& 31)) x2 hf)
  · refine g_icmp_ne_f (tgt := 109) C dX11_isFit_102 (by decide) (Decidable.of_not_not c3) ?_
    refine g_iconst (v := 0) C dX11_isFit_105 (by decide) ?_
    refine g_goto (tgt := 113) C dX11_isFit_106 (by decide) ?_
    exact g_sub [0, 1, 3, 4] rfl (fX11_isFit_b113_ok C sf_31 hs_31 σ2 x1 x4 x5 0 x2 hf)
def fX11_isFit_b146  (σ : S0) (x2 : Int32) (x3 : Int32) : Option (Int32 × S0) := if x3 = 0 then (some (0, σ)) else (if ¬ (x2 &&& (σ 98 35)) = 0 then (some (0, σ)) else (some (1, σ)))
set_option maxHeartbeats 1000000 in
set_option maxRecDepth 100000 in
theorem fX11_isFit_b146_ok {p : Program} {l : Launch} {e : Env} {s : State} {m : MethodId} {args : Array Value} {below : List Frame} {meth : Method} {c : Code} {dC : Nat → ClassId} {dI : Nat → Nat → Nat} {ad : Nat → Nat} {cy : Nat → ClassId} {sz : Nat} (C : Cx p s m args meth c RX11 cX11_isFit 7 (some .boolean) dC dI ad cy sz) {rr : Int32} {ρ : S0}  (σ : S0) (x2 : Int32) (x3 : Int32)  (hf : fX11_isFit_b146 σ x2 x3 = some (rr, ρ)) : Gw p l e rm_X11_isFit s m args below meth c (MQ below (QcI dC dI ad cy sz rr ρ) args s 0 0 (AW ad sz)) dC dI ad cy 7 sz 0 0 146 [(0, .ref (ad 98)), (2, .int x2), (3, .int x3)] [] σ := by
  unfold fX11_isFit_b146 at hf
  refine g_iload_n C dX11_isFit_146 rfl 2 rfl ?_
  rcases oi_e hf with ⟨c1, hf⟩ | ⟨c1, hf⟩
  · refine g_if_eq_t (tgt := 163) C dX11_isFit_147 (by decide) c1 ?_
    refine g_iconst (v := 0) C dX11_isFit_163 (by decide) ?_
    obtain ⟨rfl, rfl⟩ := os_e hf
    exact g_zret C rfl (by decide) dX11_isFit_164
  · refine g_if_eq_f (tgt := 163) C dX11_isFit_147 (by decide) c1 ?_
    refine g_iload_n C dX11_isFit_150 rfl 1 rfl ?_
    refine g_aload_n C dX11_isFit_151 rfl 0 rfl ?_
    refine g_get C (a_98 ad cy _) rfl hin_X11 35 (by decide) hF_X11_297 rfl rfl dX11_isFit_152 ?_
    refine g_iand C dX11_isFit_155 ?_
    rcases oi_e hf with ⟨c2, hf⟩ | ⟨c2, hf⟩
    · refine g_if_ne_t (tgt := 163) C dX11_isFit_156 (by decide) c2 ?_
      refine g_iconst (v := 0) C dX11_isFit_163 (by decide) ?_
      obtain ⟨rfl, rfl⟩ := os_e hf
      exact g_zret C rfl (by decide) dX11_isFit_164
    · refine g_if_ne_f (tgt := 163) C dX11_isFit_156 (by decide) (Decidable.of_not_not c2) ?_
      refine g_iconst (v := 1) C dX11_isFit_159 (by decide) ?_
      refine g_goto (tgt := 164) C dX11_isFit_160 (by decide) ?_
      obtain ⟨rfl, rfl⟩ := os_e hf
      exact g_zret C rfl (by decide) dX11_isFit_164
def fX11_isFit_b31 (sf_31 : S0 → Int32 → Int32 → Int32 → Int32 → Option (Int32 × S0)) (σ : S0) (x1 : Int32) (x2 : Int32) (x3 : Int32) (x4 : Int32) : Option (Int32 × S0) := og (¬ (((66 : Int32)) < 0 ∨ 240 ≤ ((66 : Int32)).toNatClampNeg)) (ol (σ 99 ((66 : Int32)).toNatClampNeg) (fun v2 => if v2 ≤ x4 then (fX11_isFit_b146 σ x2 x3) else (if x3 = 0 then (fX11_isFit_b146 σ x2 x3) else (ol (67 + x4) (fun v5 => og (¬ (v5 < 0 ∨ 240 ≤ v5.toNatClampNeg)) (ol (σ 99 v5.toNatClampNeg) (fun v7 => obp (fX11_stroke σ x1 x4) (fun r8 σ9 => obp (fX11_of σ9 r8 ((0 : Int32))) (fun r11 σ12 => if ¬ v7 = ((-4)) then (fX11_isFit_b93 sf_31 σ12 x1 x2 x4 v7 r11 0 (σ12 98 35)) else (fX11_isFit_b93 sf_31 σ12 x1 x2 x4 v7 r11 ((1 : Int32) <<< (r11 &&& 31)) (σ12 98 35)))))))))))
set_option maxHeartbeats 1000000 in
set_option maxRecDepth 100000 in
theorem fX11_isFit_b31_ok {p : Program} {l : Launch} {e : Env} {s : State} {m : MethodId} {args : Array Value} {below : List Frame} {meth : Method} {c : Code} {dC : Nat → ClassId} {dI : Nat → Nat → Nat} {ad : Nat → Nat} {cy : Nat → ClassId} {sz : Nat} (C : Cx p s m args meth c RX11 cX11_isFit 7 (some .boolean) dC dI ad cy sz) {rr : Int32} {ρ : S0} (sf_31 : S0 → Int32 → Int32 → Int32 → Int32 → Option (Int32 × S0)) (hs_31 : ∀ (σ : S0) (x1 : Int32) (x2 : Int32) (x3 : Int32) (x4 : Int32) , sf_31 σ x1 x2 x3 x4 = some (rr, ρ) → Gw p l e rm_X11_isFit s m args below meth c (MQ below (QcI dC dI ad cy sz rr ρ) args s 0 0 (AW ad sz)) dC dI ad cy 7 sz 0 0 31 [(0, .ref (ad 98)), (1, .int x1), (2, .int x2), (3, .int x3), (4, .int x4)] [] σ) (σ : S0) (x1 : Int32) (x2 : Int32) (x3 : Int32) (x4 : Int32)  (hf : fX11_isFit_b31 sf_31 σ x1 x2 x3 x4 = some (rr, ρ)) : Gw p l e rm_X11_isFit s m args below meth c (MQ below (QcI dC dI ad cy sz rr ρ) args s 0 0 (AW ad sz)) dC dI ad cy 7 sz 0 0 31 [(0, .ref (ad 98)), (1, .int x1), (2, .int x2), (3, .int x3), (4, .int x4)] [] σ := by
  unfold fX11_isFit_b31 at hf
  refine g_iload C dX11_isFit_31 4 rfl ?_
  refine g_aload_n C dX11_isFit_33 rfl 0 rfl ?_
  refine g_get C (a_98 ad cy _) rfl hin_X11 0 (by decide) hF_X11_7 rfl rfl dX11_isFit_34 ?_
  refine g_bipush (v := 66) C dX11_isFit_37 (by decide) ?_
  obtain ⟨h1, hf⟩ := og_e hf
  refine g_iald C (a_99 ad cy _) h1 dX11_isFit_39 ?_
  obtain ⟨v2, ev2, hf⟩ := ol_e hf
  refine g_nm ev2 ?_
  rcases oi_e hf with ⟨c3, hf⟩ | ⟨c3, hf⟩
  · refine g_icmp_ge_t (tgt := 146) C dX11_isFit_40 (by decide) c3 ?_
    exact g_sub [0, 2, 3] rfl (fX11_isFit_b146_ok C σ x2 x3 hf)
  · refine g_icmp_ge_f (tgt := 146) C dX11_isFit_40 (by decide) c3 ?_
    refine g_iload_n C dX11_isFit_43 rfl 3 rfl ?_
    rcases oi_e hf with ⟨c4, hf⟩ | ⟨c4, hf⟩
    · refine g_if_eq_t (tgt := 146) C dX11_isFit_44 (by decide) c4 ?_
      exact g_sub [0, 2, 3] rfl (fX11_isFit_b146_ok C σ x2 x3 hf)
    · refine g_if_eq_f (tgt := 146) C dX11_isFit_44 (by decide) c4 ?_
      refine g_aload_n C dX11_isFit_47 rfl 0 rfl ?_
      refine g_get C (a_98 ad cy _) rfl hin_X11 0 (by decide) hF_X11_7 rfl rfl dX11_isFit_48 ?_
      refine g_bipush (v := 67) C dX11_isFit_51 (by decide) ?_
      refine g_iload C dX11_isFit_53 4 rfl ?_
      refine g_iadd C dX11_isFit_55 ?_
      obtain ⟨v5, ev5, hf⟩ := ol_e hf
      refine g_nm ev5 ?_
      obtain ⟨h6, hf⟩ := og_e hf
      refine g_iald C (a_99 ad cy _) h6 dX11_isFit_56 ?_
      obtain ⟨v7, ev7, hf⟩ := ol_e hf
      refine g_nm ev7 ?_
      refine g_istore (lv2 := [(0, .ref (ad 98)), (1, .int x1), (2, .int x2), (3, .int x3), (4, .int x4), (5, .int v7)]) C dX11_isFit_57 (by decide) [1, 2, 3, 4, 5, 0] rfl ?_
      refine g_aload_n C dX11_isFit_59 rfl 0 rfl ?_
      refine g_aload_n C dX11_isFit_60 rfl 0 rfl ?_
      refine g_iload_n C dX11_isFit_61 rfl 1 rfl ?_
      refine g_iload C dX11_isFit_62 4 rfl ?_
      obtain ⟨r8, σ9, h10, hf⟩ := obp_e hf
      refine g_callVi (As := [.int x1, .int x4]) (rest := [.ref (ad 98)]) C (a_98 ad cy _) rfl (c_X11_stroke l dC dI ad cy x1 x4) h10 hM_X11_183 cal_X11_stroke ⟨Nat.zero_le _, Nat.zero_le _⟩ ⟨rfl, rfl⟩ ⟨Nat.le_of_ble_eq_true rfl, Nat.le_of_ble_eq_true rfl⟩ rfl rfl (Nat.le_of_ble_eq_true rfl) dX11_isFit_64 ?_
      refine g_iconst (v := 0) C dX11_isFit_67 (by decide) ?_
      obtain ⟨r11, σ12, h13, hf⟩ := obp_e hf
      refine g_callVi (As := [.int r8, .int 0]) (rest := []) C (a_98 ad cy _) rfl (c_X11_of l dC dI ad cy r8 ((0 : Int32))) h13 hM_X11_172 cal_X11_of ⟨Nat.zero_le _, Nat.zero_le _⟩ ⟨rfl, rfl⟩ ⟨Nat.le_of_ble_eq_true rfl, Nat.le_of_ble_eq_true rfl⟩ rfl rfl (Nat.le_of_ble_eq_true rfl) dX11_isFit_68 ?_
      refine g_istore (lv2 := [(0, .ref (ad 98)), (1, .int x1), (2, .int x2), (3, .int x3), (4, .int x4), (5, .int v7), (6, .int r11)]) C dX11_isFit_71 (by decide) [1, 2, 3, 4, 5, 6, 0] rfl ?_
      refine g_aload_n C dX11_isFit_73 rfl 0 rfl ?_
      refine g_dup C dX11_isFit_74 rfl ?_
      refine g_get C (a_98 ad cy _) rfl hin_X11 35 (by decide) hF_X11_297 rfl rfl dX11_isFit_75 ?_
      refine g_iload C dX11_isFit_78 5 rfl ?_
      refine g_bipush (v := (-4)) C dX11_isFit_80 (by decide) ?_
      rcases oi_e hf with ⟨c14, hf⟩ | ⟨c14, hf⟩
      · refine g_icmp_ne_t (tgt := 92) C dX11_isFit_82 (by decide) c14 ?_
        refine g_iconst (v := 0) C dX11_isFit_92 (by decide) ?_
        exact g_sub [0, 1, 2, 4, 5, 6] rfl (fX11_isFit_b93_ok C sf_31 hs_31 σ12 x1 x2 x4 v7 r11 0 (σ12 98 35) hf)
      · refine g_icmp_ne_f (tgt := 92) C dX11_isFit_82 (by decide) (Decidable.of_not_not c14) ?_
        refine g_iconst (v := 1) C dX11_isFit_85 (by decide) ?_
        refine g_iload C dX11_isFit_86 6 rfl ?_
        refine g_ishl C dX11_isFit_88 ?_
        refine g_goto (tgt := 93) C dX11_isFit_89 (by decide) ?_
        exact g_sub [0, 1, 2, 4, 5, 6] rfl (fX11_isFit_b93_ok C sf_31 hs_31 σ12 x1 x2 x4 v7 r11 ((1 : Int32) <<< (r11 &&& 31)) (σ12 98 35) hf)
def fX11_isFit_h31  : Nat → S0 → Int32 → Int32 → Int32 → Int32 → Option (Int32 × S0)
  | 0 => fun _ _ _ _ _ => none
  | n + 1 => fun σ x1 x2 x3 x4 => fX11_isFit_b31  (fX11_isFit_h31  n) σ x1 x2 x3 x4
set_option maxHeartbeats 1000000 in
set_option maxRecDepth 100000 in
theorem fX11_isFit_h31_ok {p : Program} {l : Launch} {e : Env} {s : State} {m : MethodId} {args : Array Value} {below : List Frame} {meth : Method} {c : Code} {dC : Nat → ClassId} {dI : Nat → Nat → Nat} {ad : Nat → Nat} {cy : Nat → ClassId} {sz : Nat} (C : Cx p s m args meth c RX11 cX11_isFit 7 (some .boolean) dC dI ad cy sz) {rr : Int32} {ρ : S0}  : ∀ (n : Nat) (σ : S0) (x1 : Int32) (x2 : Int32) (x3 : Int32) (x4 : Int32)  (_hf : fX11_isFit_h31  n σ x1 x2 x3 x4 = some (rr, ρ)), Gw p l e rm_X11_isFit s m args below meth c (MQ below (QcI dC dI ad cy sz rr ρ) args s 0 0 (AW ad sz)) dC dI ad cy 7 sz 0 0 31 [(0, .ref (ad 98)), (1, .int x1), (2, .int x2), (3, .int x3), (4, .int x4)] [] σ
  | 0, _, _, _, _, _, hf => by cases hf
  | n + 1, σ, x1, x2, x3, x4, hf => fX11_isFit_b31_ok C  (fX11_isFit_h31  n) (fX11_isFit_h31_ok C  n) σ x1 x2 x3 x4 hf
def fX11_isFit_b27  (σ : S0) (x1 : Int32) (x2 : Int32) (t0 : Int32) : Option (Int32 × S0) := fX11_isFit_h31 400 σ x1 x2 t0 0
set_option maxHeartbeats 1000000 in
set_option maxRecDepth 100000 in
theorem fX11_isFit_b27_ok {p : Program} {l : Launch} {e : Env} {s : State} {m : MethodId} {args : Array Value} {below : List Frame} {meth : Method} {c : Code} {dC : Nat → ClassId} {dI : Nat → Nat → Nat} {ad : Nat → Nat} {cy : Nat → ClassId} {sz : Nat} (C : Cx p s m args meth c RX11 cX11_isFit 7 (some .boolean) dC dI ad cy sz) {rr : Int32} {ρ : S0}  (σ : S0) (x1 : Int32) (x2 : Int32) (t0 : Int32)  (hf : fX11_isFit_b27 σ x1 x2 t0 = some (rr, ρ)) : Gw p l e rm_X11_isFit s m args below meth c (MQ below (QcI dC dI ad cy sz rr ρ) args s 0 0 (AW ad sz)) dC dI ad cy 7 sz 0 0 27 [(0, .ref (ad 98)), (1, .int x1), (2, .int x2)] [.int t0] σ := by
  unfold fX11_isFit_b27 at hf
  refine g_istore_n (lv2 := [(0, .ref (ad 98)), (1, .int x1), (2, .int x2), (3, .int t0)]) C dX11_isFit_27 rfl (by decide) [1, 2, 3, 0] rfl ?_
  refine g_iconst (v := 0) C dX11_isFit_28 (by decide) ?_
  refine g_istore (lv2 := [(0, .ref (ad 98)), (1, .int x1), (2, .int x2), (3, .int t0), (4, .int 0)]) C dX11_isFit_29 (by decide) [1, 2, 3, 4, 0] rfl ?_
  exact g_sub [0, 1, 2, 3, 4] rfl (fX11_isFit_h31_ok C 400 σ x1 x2 t0 0 hf)
def fX11_isFit (σ : S0) (x1 : Int32) : Option (Int32 × S0) := ol (su σ 98 35 0) (fun σ1 => obp (fX11_strokes σ1 x1) (fun r2 σ3 => og (¬ (((66 : Int32)) < 0 ∨ 240 ≤ ((66 : Int32)).toNatClampNeg)) (ol (σ3 99 ((66 : Int32)).toNatClampNeg) (fun v6 => if ¬ r2 = v6 then (fX11_isFit_b27 σ3 x1 0 0) else (fX11_isFit_b27 σ3 x1 0 1)))))
set_option maxHeartbeats 1000000 in
set_option maxRecDepth 100000 in
theorem fX11_isFit_ok {p : Program} {l : Launch} {e : Env} {s : State} {m : MethodId} {args : Array Value} {below : List Frame} {meth : Method} {c : Code} {dC : Nat → ClassId} {dI : Nat → Nat → Nat} {ad : Nat → Nat} {cy : Nat → ClassId} {sz : Nat} (C : Cx p s m args meth c RX11 cX11_isFit 7 (some .boolean) dC dI ad cy sz) {rr : Int32} {ρ : S0} (σ : S0) (x1 : Int32)  (hf : fX11_isFit σ x1 = some (rr, ρ)) : Gw p l e rm_X11_isFit s m args below meth c (MQ below (QcI dC dI ad cy sz rr ρ) args s 0 0 (AW ad sz)) dC dI ad cy 7 sz 0 0 0 [(0, .ref (ad 98)), (1, .int x1)] [] σ := by
  unfold fX11_isFit at hf
  refine g_aload_n C dX11_isFit_0 rfl 0 rfl ?_
  refine g_iconst (v := 0) C dX11_isFit_1 (by decide) ?_
  obtain ⟨σ1, eσ1, hf⟩ := ol_e hf
  refine g_put (ty := .int) C (a_98 ad cy _) rfl hin_X11 tyX11 tyX11_ok nmX11 35 (by decide) hF_X11_297 rfl rfl (by decide +kernel) rfl rfl (Nat.le_of_ble_eq_true rfl) (p_98_35 ad cy _ _) eσ1 dX11_isFit_2 ?_
  refine g_iconst (v := 0) C dX11_isFit_5 (by decide) ?_
  refine g_istore_n (lv2 := [(0, .ref (ad 98)), (1, .int x1), (2, .int 0)]) C dX11_isFit_6 rfl (by decide) [1, 2, 0] rfl ?_
  refine g_aload_n C dX11_isFit_7 rfl 0 rfl ?_
  refine g_iload_n C dX11_isFit_8 rfl 1 rfl ?_
  obtain ⟨r2, σ3, h4, hf⟩ := obp_e hf
  refine g_callVi (As := [.int x1]) (rest := []) C (a_98 ad cy _) rfl (c_X11_strokes l dC dI ad cy x1) h4 hM_X11_180 cal_X11_strokes ⟨Nat.zero_le _, Nat.zero_le _⟩ ⟨rfl, rfl⟩ ⟨Nat.le_of_ble_eq_true rfl, Nat.le_of_ble_eq_true rfl⟩ rfl rfl (Nat.le_of_ble_eq_true rfl) dX11_isFit_9 ?_
  refine g_aload_n C dX11_isFit_12 rfl 0 rfl ?_
  refine g_get C (a_98 ad cy _) rfl hin_X11 0 (by decide) hF_X11_7 rfl rfl dX11_isFit_13 ?_
  refine g_bipush (v := 66) C dX11_isFit_16 (by decide) ?_
  obtain ⟨h5, hf⟩ := og_e hf
  refine g_iald C (a_99 ad cy _) h5 dX11_isFit_18 ?_
  obtain ⟨v6, ev6, hf⟩ := ol_e hf
  refine g_nm ev6 ?_
  rcases oi_e hf with ⟨c7, hf⟩ | ⟨c7, hf⟩
  · refine g_icmp_ne_t (tgt := 26) C dX11_isFit_19 (by decide) c7 ?_
    refine g_iconst (v := 0) C dX11_isFit_26 (by decide) ?_
    exact g_sub [0, 1, 2] rfl (fX11_isFit_b27_ok C σ3 x1 0 0 hf)
  · refine g_icmp_ne_f (tgt := 26) C dX11_isFit_19 (by decide) (Decidable.of_not_not c7) ?_
    refine g_iconst (v := 1) C dX11_isFit_22 (by decide) ?_
    refine g_goto (tgt := 27) C dX11_isFit_23 (by decide) ?_
    exact g_sub [0, 1, 2] rfl (fX11_isFit_b27_ok C σ3 x1 0 1 hf)
theorem c_X11_isFit (l : Launch) (dC : Nat → ClassId) (dI : Nat → Nat → Nat) (ad : Nat → Nat) (cy : Nat → ClassId) (x1 : Int32) : ConI l yX11_isFit cX11_isFit 7 (some .boolean) rm_X11_isFit dC dI ad cy [.ref (ad 98), .int x1] (fun σ => fX11_isFit σ x1) := con_i (own := RX11) (by decide) rfl (Nat.le_of_ble_eq_true rfl) (fun _ _ _ _ _ _ _ _ σ _ _ C hf => fX11_isFit_ok C σ x1 hf)
theorem cal_X11_isFit : CalV yX11_isFit RX11 cX11_isFit 7 (some .boolean) 1 := ⟨hI_X11_isFit, hS_X11_isFit, hIni_X11, hC_X11_isFit, by decide +kernel⟩
abbrev rm_X11_fits : Room := { frames := 2, cells := 0, slots := 0, locals := 48 }
def fX11_fits (σ : S0) (x1 : Int32) : Option (Int32 × S0) := obp (fX11_isTune σ x1) (fun r1 σ2 => if ¬ r1 = 0 then (og (¬ (((66 : Int32)) < 0 ∨ 240 ≤ ((66 : Int32)).toNatClampNeg)) (ol (σ2 99 ((66 : Int32)).toNatClampNeg) (fun v6 => if ¬ v6 = 0 then (obp (fX11_isFit σ2 x1) (fun r8 σ9 => obp (fX11_flag σ9 r8) (fun r11 σ12 => some (r11, σ12)))) else (some ((-2), σ2))))) else (some ((-1), σ2)))
set_option maxHeartbeats 1000000 in
set_option maxRecDepth 100000 in
theorem fX11_fits_ok {p : Program} {l : Launch} {e : Env} {s : State} {m : MethodId} {args : Array Value} {below : List Frame} {meth : Method} {c : Code} {dC : Nat → ClassId} {dI : Nat → Nat → Nat} {ad : Nat → Nat} {cy : Nat → ClassId} {sz : Nat} (C : Cx p s m args meth c RX11 cX11_fits 2 (some .int) dC dI ad cy sz) {rr : Int32} {ρ : S0} (σ : S0) (x1 : Int32)  (hf : fX11_fits σ x1 = some (rr, ρ)) : Gw p l e rm_X11_fits s m args below meth c (MQ below (QcI dC dI ad cy sz rr ρ) args s 0 0 (AW ad sz)) dC dI ad cy 2 sz 0 0 0 [(0, .ref (ad 98)), (1, .int x1)] [] σ := by
  unfold fX11_fits at hf
  refine g_aload_n C dX11_fits_0 rfl 0 rfl ?_
  refine g_iload_n C dX11_fits_1 rfl 1 rfl ?_
  obtain ⟨r1, σ2, h3, hf⟩ := obp_e hf
  refine g_callVi (As := [.int x1]) (rest := []) C (a_98 ad cy _) rfl (c_X11_isTune l dC dI ad cy x1) h3 hM_X11_175 cal_X11_isTune ⟨Nat.zero_le _, Nat.zero_le _⟩ ⟨rfl, rfl⟩ ⟨Nat.le_of_ble_eq_true rfl, Nat.le_of_ble_eq_true rfl⟩ rfl rfl (Nat.le_of_ble_eq_true rfl) dX11_fits_2 ?_
  rcases oi_e hf with ⟨c4, hf⟩ | ⟨c4, hf⟩
  · refine g_if_ne_t (tgt := 10) C dX11_fits_5 (by decide) c4 ?_
    refine g_aload_n C dX11_fits_10 rfl 0 rfl ?_
    refine g_get C (a_98 ad cy _) rfl hin_X11 0 (by decide) hF_X11_7 rfl rfl dX11_fits_11 ?_
    refine g_bipush (v := 66) C dX11_fits_14 (by decide) ?_
    obtain ⟨h5, hf⟩ := og_e hf
    refine g_iald C (a_99 ad cy _) h5 dX11_fits_16 ?_
    obtain ⟨v6, ev6, hf⟩ := ol_e hf
    refine g_nm ev6 ?_
    rcases oi_e hf with ⟨c7, hf⟩ | ⟨c7, hf⟩
    · refine g_if_ne_t (tgt := 25) C dX11_fits_17 (by decide) c7 ?_
      refine g_aload_n C dX11_fits_25 rfl 0 rfl ?_
      refine g_iload_n C dX11_fits_26 rfl 1 rfl ?_
      obtain ⟨r8, σ9, h10, hf⟩ := obp_e hf
      refine g_callVi (As := [.int x1]) (rest := []) C (a_98 ad cy _) rfl (c_X11_isFit l dC dI ad cy x1) h10 hM_X11_300 cal_X11_isFit ⟨Nat.zero_le _, Nat.zero_le _⟩ ⟨rfl, rfl⟩ ⟨Nat.le_of_ble_eq_true rfl, Nat.le_of_ble_eq_true rfl⟩ rfl rfl (Nat.le_of_ble_eq_true rfl) dX11_fits_27 ?_
      obtain ⟨r11, σ12, h13, hf⟩ := obp_e hf
      refine g_callSi (As := [.int r8]) (rest := []) C (c_X11_flag l dC dI ad cy r8) h13 hM_X11_191 cal_X11_flag ⟨Nat.zero_le _, Nat.zero_le _⟩ ⟨rfl, rfl⟩ ⟨Nat.le_of_ble_eq_true rfl, Nat.le_of_ble_eq_true rfl⟩ rfl rfl (Nat.le_of_ble_eq_true rfl) dX11_fits_30 ?_
      obtain ⟨rfl, rfl⟩ := os_e hf
      exact g_iret C rfl dX11_fits_33
    · refine g_if_ne_f (tgt := 25) C dX11_fits_17 (by decide) (Decidable.of_not_not c7) ?_
      refine g_bipush (v := (-2)) C dX11_fits_20 (by decide) ?_
      refine g_goto (tgt := 33) C dX11_fits_22 (by decide) ?_
      obtain ⟨rfl, rfl⟩ := os_e hf
      exact g_iret C rfl dX11_fits_33
  · refine g_if_ne_f (tgt := 10) C dX11_fits_5 (by decide) (Decidable.of_not_not c4) ?_
    refine g_iconst (v := (-1)) C dX11_fits_8 (by decide) ?_
    obtain ⟨rfl, rfl⟩ := os_e hf
    exact g_iret C rfl dX11_fits_9
theorem c_X11_fits (l : Launch) (dC : Nat → ClassId) (dI : Nat → Nat → Nat) (ad : Nat → Nat) (cy : Nat → ClassId) (x1 : Int32) : ConI l yX11_fits cX11_fits 2 (some .int) rm_X11_fits dC dI ad cy [.ref (ad 98), .int x1] (fun σ => fX11_fits σ x1) := con_i (own := RX11) (by decide) rfl (Nat.le_of_ble_eq_true rfl) (fun _ _ _ _ _ _ _ _ σ _ _ C hf => fX11_fits_ok C σ x1 hf)
theorem cal_X11_fits : CalV yX11_fits RX11 cX11_fits 2 (some .int) 1 := ⟨hI_X11_fits, hS_X11_fits, hIni_X11, hC_X11_fits, by decide +kernel⟩
abbrev rm_X11_which : Room := { frames := 2, cells := 0, slots := 0, locals := 48 }
def fX11_which_b99 (sf_43 : S0 → Int32 → Int32 → Int32 → Int32 → Int32 → Int32 → Option (Int32 × S0)) (σ : S0) (x1 : Int32) (x2 : Int32) (x3 : Int32) (x4 : Int32) (x5 : Int32) (x6 : Int32) : Option (Int32 × S0) := ol (x6 + 1) (fun v1 => sf_43 σ x1 x2 x3 x4 x5 v1)
set_option maxHeartbeats 1000000 in
set_option maxRecDepth 100000 in
theorem fX11_which_b99_ok {p : Program} {l : Launch} {e : Env} {s : State} {m : MethodId} {args : Array Value} {below : List Frame} {meth : Method} {c : Code} {dC : Nat → ClassId} {dI : Nat → Nat → Nat} {ad : Nat → Nat} {cy : Nat → ClassId} {sz : Nat} (C : Cx p s m args meth c RX11 cX11_which 7 (some .int) dC dI ad cy sz) {rr : Int32} {ρ : S0} (sf_43 : S0 → Int32 → Int32 → Int32 → Int32 → Int32 → Int32 → Option (Int32 × S0)) (hs_43 : ∀ (σ : S0) (x1 : Int32) (x2 : Int32) (x3 : Int32) (x4 : Int32) (x5 : Int32) (x6 : Int32) , sf_43 σ x1 x2 x3 x4 x5 x6 = some (rr, ρ) → Gw p l e rm_X11_which s m args below meth c (MQ below (QcI dC dI ad cy sz rr ρ) args s 0 0 (AW ad sz)) dC dI ad cy 7 sz 0 0 43 [(0, .ref (ad 98)), (1, .int x1), (2, .int x2), (3, .int x3), (4, .int x4), (5, .int x5), (6, .int x6)] [] σ) (σ : S0) (x1 : Int32) (x2 : Int32) (x3 : Int32) (x4 : Int32) (x5 : Int32) (x6 : Int32)  (hf : fX11_which_b99 sf_43 σ x1 x2 x3 x4 x5 x6 = some (rr, ρ)) : Gw p l e rm_X11_which s m args below meth c (MQ below (QcI dC dI ad cy sz rr ρ) args s 0 0 (AW ad sz)) dC dI ad cy 7 sz 0 0 99 [(0, .ref (ad 98)), (1, .int x1), (2, .int x2), (3, .int x3), (4, .int x4), (5, .int x5), (6, .int x6)] [] σ := by
  unfold fX11_which_b99 at hf
  obtain ⟨v1, ev1, hf⟩ := ol_e hf
  refine g_iinc (j := 6) (w := 1) (lv2 := [(0, .ref (ad 98)), (1, .int x1), (2, .int x2), (3, .int x3), (4, .int x4), (5, .int x5), (6, .int v1)]) C dX11_which_99 rfl (by decide) ev1 (by decide) [1, 2, 3, 4, 5, 6, 0] rfl ?_
  refine g_goto (tgt := 43) C dX11_which_102 (by decide) ?_
  exact g_sub [0, 1, 2, 3, 4, 5, 6] rfl (hs_43 σ x1 x2 x3 x4 x5 v1 hf)
def fX11_which_b85 (sf_43 : S0 → Int32 → Int32 → Int32 → Int32 → Int32 → Int32 → Option (Int32 × S0)) (σ : S0) (x1 : Int32) (x2 : Int32) (x3 : Int32) (x5 : Int32) (x6 : Int32) (t0 : Int32) : Option (Int32 × S0) := ol (x5 &&& (σ 98 35)) (fun v1 => ol (x2 + 1) (fun v2 => fX11_which_b99 sf_43 σ x1 v2 x3 t0 v1 x6))
set_option maxHeartbeats 1000000 in
set_option maxRecDepth 100000 in
theorem fX11_which_b85_ok {p : Program} {l : Launch} {e : Env} {s : State} {m : MethodId} {args : Array Value} {below : List Frame} {meth : Method} {c : Code} {dC : Nat → ClassId} {dI : Nat → Nat → Nat} {ad : Nat → Nat} {cy : Nat → ClassId} {sz : Nat} (C : Cx p s m args meth c RX11 cX11_which 7 (some .int) dC dI ad cy sz) {rr : Int32} {ρ : S0} (sf_43 : S0 → Int32 → Int32 → Int32 → Int32 → Int32 → Int32 → Option (Int32 × S0)) (hs_43 : ∀ (σ : S0) (x1 : Int32) (x2 : Int32) (x3 : Int32) (x4 : Int32) (x5 : Int32) (x6 : Int32) , sf_43 σ x1 x2 x3 x4 x5 x6 = some (rr, ρ) → Gw p l e rm_X11_which s m args below meth c (MQ below (QcI dC dI ad cy sz rr ρ) args s 0 0 (AW ad sz)) dC dI ad cy 7 sz 0 0 43 [(0, .ref (ad 98)), (1, .int x1), (2, .int x2), (3, .int x3), (4, .int x4), (5, .int x5), (6, .int x6)] [] σ) (σ : S0) (x1 : Int32) (x2 : Int32) (x3 : Int32) (x5 : Int32) (x6 : Int32) (t0 : Int32)  (hf : fX11_which_b85 sf_43 σ x1 x2 x3 x5 x6 t0 = some (rr, ρ)) : Gw p l e rm_X11_which s m args below meth c (MQ below (QcI dC dI ad cy sz rr ρ) args s 0 0 (AW ad sz)) dC dI ad cy 7 sz 0 0 85 [(0, .ref (ad 98)), (1, .int x1), (2, .int x2), (3, .int x3), (5, .int x5), (6, .int x6)] [.int t0] σ := by
  unfold fX11_which_b85 at hf
  refine g_istore (lv2 := [(0, .ref (ad 98)), (1, .int x1), (2, .int x2), (3, .int x3), (4, .int t0), (5, .int x5), (6, .int x6)]) C dX11_which_85 (by decide) [1, 2, 3, 4, 0, 5, 6] rfl ?_
  refine g_iload C dX11_which_87 5 rfl ?_
  refine g_aload_n C dX11_which_89 rfl 0 rfl ?_
  refine g_get C (a_98 ad cy _) rfl hin_X11 35 (by decide) hF_X11_297 rfl rfl dX11_which_90 ?_
  refine g_iand C dX11_which_93 ?_
  obtain ⟨v1, ev1, hf⟩ := ol_e hf
  refine g_nm ev1 ?_
  refine g_istore (lv2 := [(0, .ref (ad 98)), (1, .int x1), (2, .int x2), (3, .int x3), (4, .int t0), (5, .int v1), (6, .int x6)]) C dX11_which_94 (by decide) [1, 2, 3, 4, 5, 0, 6] rfl ?_
  obtain ⟨v2, ev2, hf⟩ := ol_e hf
  refine g_iinc (j := 2) (w := 1) (lv2 := [(0, .ref (ad 98)), (1, .int x1), (2, .int v2), (3, .int x3), (4, .int t0), (5, .int v1), (6, .int x6)]) C dX11_which_96 rfl (by decide) ev2 (by decide) [1, 2, 0, 3, 4, 5, 6] rfl ?_
  exact g_sub [0, 1, 2, 3, 4, 5, 6] rfl (fX11_which_b99_ok C sf_43 hs_43 σ x1 v2 x3 t0 v1 x6 hf)
def fX11_which_b71 (sf_43 : S0 → Int32 → Int32 → Int32 → Int32 → Int32 → Int32 → Option (Int32 × S0)) (σ : S0) (x1 : Int32) (x2 : Int32) (x4 : Int32) (x5 : Int32) (x6 : Int32) (t0 : Int32) : Option (Int32 × S0) := if ¬ x2 = 0 then (fX11_which_b85 sf_43 σ x1 x2 t0 x5 x6 x4) else (fX11_which_b85 sf_43 σ x1 x2 t0 x5 x6 (σ 98 35))
set_option maxHeartbeats 1000000 in
set_option maxRecDepth 100000 in
theorem fX11_which_b71_ok {p : Program} {l : Launch} {e : Env} {s : State} {m : MethodId} {args : Array Value} {below : List Frame} {meth : Method} {c : Code} {dC : Nat → ClassId} {dI : Nat → Nat → Nat} {ad : Nat → Nat} {cy : Nat → ClassId} {sz : Nat} (C : Cx p s m args meth c RX11 cX11_which 7 (some .int) dC dI ad cy sz) {rr : Int32} {ρ : S0} (sf_43 : S0 → Int32 → Int32 → Int32 → Int32 → Int32 → Int32 → Option (Int32 × S0)) (hs_43 : ∀ (σ : S0) (x1 : Int32) (x2 : Int32) (x3 : Int32) (x4 : Int32) (x5 : Int32) (x6 : Int32) , sf_43 σ x1 x2 x3 x4 x5 x6 = some (rr, ρ) → Gw p l e rm_X11_which s m args below meth c (MQ below (QcI dC dI ad cy sz rr ρ) args s 0 0 (AW ad sz)) dC dI ad cy 7 sz 0 0 43 [(0, .ref (ad 98)), (1, .int x1), (2, .int x2), (3, .int x3), (4, .int x4), (5, .int x5), (6, .int x6)] [] σ) (σ : S0) (x1 : Int32) (x2 : Int32) (x4 : Int32) (x5 : Int32) (x6 : Int32) (t0 : Int32)  (hf : fX11_which_b71 sf_43 σ x1 x2 x4 x5 x6 t0 = some (rr, ρ)) : Gw p l e rm_X11_which s m args below meth c (MQ below (QcI dC dI ad cy sz rr ρ) args s 0 0 (AW ad sz)) dC dI ad cy 7 sz 0 0 71 [(0, .ref (ad 98)), (1, .int x1), (2, .int x2), (4, .int x4), (5, .int x5), (6, .int x6)] [.int t0] σ := by
  unfold fX11_which_b71 at hf
  refine g_istore_n (lv2 := [(0, .ref (ad 98)), (1, .int x1), (2, .int x2), (3, .int t0), (4, .int x4), (5, .int x5), (6, .int x6)]) C dX11_which_71 rfl (by decide) [1, 2, 3, 0, 4, 5, 6] rfl ?_
  refine g_iload_n C dX11_which_72 rfl 2 rfl ?_
  rcases oi_e hf with ⟨c1, hf⟩ | ⟨c1, hf⟩
  · refine g_if_ne_t (tgt := 83) C dX11_which_73 (by decide) c1 ?_
    refine g_iload C dX11_which_83 4 rfl ?_
    exact g_sub [0, 1, 2, 3, 5, 6] rfl (fX11_which_b85_ok C sf_43 hs_43 σ x1 x2 t0 x5 x6 x4 hf)
  · refine g_if_ne_f (tgt := 83) C dX11_which_73 (by decide) (Decidable.of_not_not c1) ?_
    refine g_aload_n C dX11_which_76 rfl 0 rfl ?_
    refine g_get C (a_98 ad cy _) rfl hin_X11 35 (by decide) hF_X11_297 rfl rfl dX11_which_77 ?_
    refine g_goto (tgt := 85) C dX11_which_80 (by decide) ?_
    exact g_sub [0, 1, 2, 3, 5, 6] rfl (fX11_which_b85_ok C sf_43 hs_43 σ x1 x2 t0 x5 x6 (σ 98 35) hf)
def fX11_which_b43 (sf_43 : S0 → Int32 → Int32 → Int32 → Int32 → Int32 → Int32 → Option (Int32 × S0)) (σ : S0) (x1 : Int32) (x2 : Int32) (x3 : Int32) (x4 : Int32) (x5 : Int32) (x6 : Int32) : Option (Int32 × S0) := if (σ 98 5) ≤ x6 then (if ¬ x1 = 0 then (if ¬ x2 = 0 then (if ¬ x1 = 1 then (if ¬ x1 = 2 then (some (x5, σ)) else (some (x4, σ))) else (some (x3, σ))) else (some ((-4), σ))) else (some (x2, σ))) else (obp (fX11_isFit σ x6) (fun r6 σ7 => if r6 = 0 then (fX11_which_b99 sf_43 σ7 x1 x2 x3 x4 x5 x6) else (if ¬ x2 = 0 then (fX11_which_b71 sf_43 σ7 x1 x2 x4 x5 x6 x3) else (fX11_which_b71 sf_43 σ7 x1 x2 x4 x5 x6 x6))))
set_option maxHeartbeats 1000000 in
set_option maxRecDepth 100000 in
theorem fX11_which_b43_ok {p : Program} {l : Launch} {e : Env} {s : State} {m : MethodId} {args : Array Value} {below : List Frame} {meth : Method} {c : Code} {dC : Nat → ClassId} {dI : Nat → Nat → Nat} {ad : Nat → Nat} {cy : Nat → ClassId} {sz : Nat} (C : Cx p s m args meth c RX11 cX11_which 7 (some .int) dC dI ad cy sz) {rr : Int32} {ρ : S0} (sf_43 : S0 → Int32 → Int32 → Int32 → Int32 → Int32 → Int32 → Option (Int32 × S0)) (hs_43 : ∀ (σ : S0) (x1 : Int32) (x2 : Int32) (x3 : Int32) (x4 : Int32) (x5 : Int32) (x6 : Int32) , sf_43 σ x1 x2 x3 x4 x5 x6 = some (rr, ρ) → Gw p l e rm_X11_which s m args below meth c (MQ below (QcI dC dI ad cy sz rr ρ) args s 0 0 (AW ad sz)) dC dI ad cy 7 sz 0 0 43 [(0, .ref (ad 98)), (1, .int x1), (2, .int x2), (3, .int x3), (4, .int x4), (5, .int x5), (6, .int x6)] [] σ) (σ : S0) (x1 : Int32) (x2 : Int32) (x3 : Int32) (x4 : Int32) (x5 : Int32) (x6 : Int32)  (hf : fX11_which_b43 sf_43 σ x1 x2 x3 x4 x5 x6 = some (rr, ρ)) : Gw p l e rm_X11_which s m args below meth c (MQ below (QcI dC dI ad cy sz rr ρ) args s 0 0 (AW ad sz)) dC dI ad cy 7 sz 0 0 43 [(0, .ref (ad 98)), (1, .int x1), (2, .int x2), (3, .int x3), (4, .int x4), (5, .int x5), (6, .int x6)] [] σ := by
  unfold fX11_which_b43 at hf
  refine g_iload C dX11_which_43 6 rfl ?_
  refine g_aload_n C dX11_which_45 rfl 0 rfl ?_
  refine g_get C (a_98 ad cy _) rfl hin_X11 5 (by decide) hF_X11_84 rfl rfl dX11_which_46 ?_
  rcases oi_e hf with ⟨c1, hf⟩ | ⟨c1, hf⟩
  · refine g_icmp_ge_t (tgt := 105) C dX11_which_49 (by decide) c1 ?_
    refine g_iload_n C dX11_which_105 rfl 1 rfl ?_
    rcases oi_e hf with ⟨c2, hf⟩ | ⟨c2, hf⟩
    · refine g_if_ne_t (tgt := 113) C dX11_which_106 (by decide) c2 ?_
      refine g_iload_n C dX11_which_113 rfl 2 rfl ?_
      rcases oi_e hf with ⟨c3, hf⟩ | ⟨c3, hf⟩
      · refine g_if_ne_t (tgt := 122) C dX11_which_114 (by decide) c3 ?_
        refine g_iload_n C dX11_which_122 rfl 1 rfl ?_
        refine g_iconst (v := 1) C dX11_which_123 (by decide) ?_
        rcases oi_e hf with ⟨c4, hf⟩ | ⟨c4, hf⟩
        · refine g_icmp_ne_t (tgt := 131) C dX11_which_124 (by decide) c4 ?_
          refine g_iload_n C dX11_which_131 rfl 1 rfl ?_
          refine g_iconst (v := 2) C dX11_which_132 (by decide) ?_
          rcases oi_e hf with ⟨c5, hf⟩ | ⟨c5, hf⟩
          · refine g_icmp_ne_t (tgt := 141) C dX11_which_133 (by decide) c5 ?_
            refine g_iload C dX11_which_141 5 rfl ?_
            obtain ⟨rfl, rfl⟩ := os_e hf
            exact g_iret C rfl dX11_which_143
          · refine g_icmp_ne_f (tgt := 141) C dX11_which_133 (by decide) (Decidable.of_not_not c5) ?_
            refine g_iload C dX11_which_136 4 rfl ?_
            refine g_goto (tgt := 143) C dX11_which_138 (by decide) ?_
            obtain ⟨rfl, rfl⟩ := os_e hf
            exact g_iret C rfl dX11_which_143
        · refine g_icmp_ne_f (tgt := 131) C dX11_which_124 (by decide) (Decidable.of_not_not c4) ?_
          refine g_iload_n C dX11_which_127 rfl 3 rfl ?_
          refine g_goto (tgt := 143) C dX11_which_128 (by decide) ?_
          obtain ⟨rfl, rfl⟩ := os_e hf
          exact g_iret C rfl dX11_which_143
      · refine g_if_ne_f (tgt := 122) C dX11_which_114 (by decide) (Decidable.of_not_not c3) ?_
        refine g_bipush (v := (-4)) C dX11_which_117 (by decide) ?_
        refine g_goto (tgt := 143) C dX11_which_119 (by decide) ?_
        obtain ⟨rfl, rfl⟩ := os_e hf
        exact g_iret C rfl dX11_which_143
    · refine g_if_ne_f (tgt := 113) C dX11_which_106 (by decide) (Decidable.of_not_not c2) ?_
      refine g_iload_n C dX11_which_109 rfl 2 rfl ?_
      refine g_goto (tgt := 143) C dX11_which_110 (by decide) ?_
      obtain ⟨rfl, rfl⟩ := os_e hf
      exact g_iret C rfl dX11_which_143
  · refine g_icmp_ge_f (tgt := 105) C dX11_which_49 (by decide) c1 ?_
    refine g_aload_n C dX11_which_52 rfl 0 rfl ?_
    refine g_iload C dX11_which_53 6 rfl ?_
    obtain ⟨r6, σ7, h8, hf⟩ := obp_e hf
    refine g_callVi (As := [.int x6]) (rest := []) C (a_98 ad cy _) rfl (c_X11_isFit l dC dI ad cy x6) h8 hM_X11_300 cal_X11_isFit ⟨Nat.zero_le _, Nat.zero_le _⟩ ⟨rfl, rfl⟩ ⟨Nat.le_of_ble_eq_true rfl, Nat.le_of_ble_eq_true rfl⟩ rfl rfl (Nat.le_of_ble_eq_true rfl) dX11_which_55 ?_
    rcases oi_e hf with ⟨c9, hf⟩ | ⟨c9, hf⟩
    · refine g_if_eq_t (tgt := 99) C dX11_which_58 (by decide) c9 ?_
      exact g_sub [0, 1, 2, 3, 4, 5, 6] rfl (fX11_which_b99_ok C sf_43 hs_43 σ7 x1 x2 x3 x4 x5 x6 hf)
    · refine g_if_eq_f (tgt := 99) C dX11_which_58 (by decide) c9 ?_
      refine g_iload_n C dX11_which_61 rfl 2 rfl ?_
      rcases oi_e hf with ⟨c10, hf⟩ | ⟨c10, hf⟩
      · refine g_if_ne_t (tgt := 70) C dX11_which_62 (by decide) c10 ?_
        refine g_iload_n C dX11_which_70 rfl 3 rfl ?_
        exact g_sub [0, 1, 2, 4, 5, 6] rfl (fX11_which_b71_ok C sf_43 hs_43 σ7 x1 x2 x4 x5 x6 x3 hf)
      · refine g_if_ne_f (tgt := 70) C dX11_which_62 (by decide) (Decidable.of_not_not c10) ?_
        refine g_iload C dX11_which_65 6 rfl ?_
        refine g_goto (tgt := 71) C dX11_which_67 (by decide) ?_
        exact g_sub [0, 1, 2, 4, 5, 6] rfl (fX11_which_b71_ok C sf_43 hs_43 σ7 x1 x2 x4 x5 x6 x6 hf)
def fX11_which_h43  : Nat → S0 → Int32 → Int32 → Int32 → Int32 → Int32 → Int32 → Option (Int32 × S0)
  | 0 => fun _ _ _ _ _ _ _ => none
  | n + 1 => fun σ x1 x2 x3 x4 x5 x6 => fX11_which_b43  (fX11_which_h43  n) σ x1 x2 x3 x4 x5 x6
set_option maxHeartbeats 1000000 in
set_option maxRecDepth 100000 in
theorem fX11_which_h43_ok {p : Program} {l : Launch} {e : Env} {s : State} {m : MethodId} {args : Array Value} {below : List Frame} {meth : Method} {c : Code} {dC : Nat → ClassId} {dI : Nat → Nat → Nat} {ad : Nat → Nat} {cy : Nat → ClassId} {sz : Nat} (C : Cx p s m args meth c RX11 cX11_which 7 (some .int) dC dI ad cy sz) {rr : Int32} {ρ : S0}  : ∀ (n : Nat) (σ : S0) (x1 : Int32) (x2 : Int32) (x3 : Int32) (x4 : Int32) (x5 : Int32) (x6 : Int32)  (_hf : fX11_which_h43  n σ x1 x2 x3 x4 x5 x6 = some (rr, ρ)), Gw p l e rm_X11_which s m args below meth c (MQ below (QcI dC dI ad cy sz rr ρ) args s 0 0 (AW ad sz)) dC dI ad cy 7 sz 0 0 43 [(0, .ref (ad 98)), (1, .int x1), (2, .int x2), (3, .int x3), (4, .int x4), (5, .int x5), (6, .int x6)] [] σ
  | 0, _, _, _, _, _, _, _, hf => by cases hf
  | n + 1, σ, x1, x2, x3, x4, x5, x6, hf => fX11_which_b43_ok C  (fX11_which_h43  n) (fX11_which_h43_ok C  n) σ x1 x2 x3 x4 x5 x6 hf
def fX11_which (σ : S0) (x1 : Int32) : Option (Int32 × S0) := obp (fX11_in σ x1.toInt64 ((0 : Int64)) ((3 : Int64))) (fun r1 σ2 => if ¬ r1 = 0 then (og (¬ (((66 : Int32)) < 0 ∨ 240 ≤ ((66 : Int32)).toNatClampNeg)) (ol (σ2 99 ((66 : Int32)).toNatClampNeg) (fun v6 => if ¬ v6 = 0 then (fX11_which_h43 400 σ2 x1 0 ((-4)) ((-4)) 63 0) else (some ((-2), σ2))))) else (some ((-1), σ2)))
set_option maxHeartbeats 1000000 in
set_option maxRecDepth 100000 in
theorem fX11_which_ok {p : Program} {l : Launch} {e : Env} {s : State} {m : MethodId} {args : Array Value} {below : List Frame} {meth : Method} {c : Code} {dC : Nat → ClassId} {dI : Nat → Nat → Nat} {ad : Nat → Nat} {cy : Nat → ClassId} {sz : Nat} (C : Cx p s m args meth c RX11 cX11_which 7 (some .int) dC dI ad cy sz) {rr : Int32} {ρ : S0} (σ : S0) (x1 : Int32)  (hf : fX11_which σ x1 = some (rr, ρ)) : Gw p l e rm_X11_which s m args below meth c (MQ below (QcI dC dI ad cy sz rr ρ) args s 0 0 (AW ad sz)) dC dI ad cy 7 sz 0 0 0 [(0, .ref (ad 98)), (1, .int x1)] [] σ := by
  unfold fX11_which at hf
  refine g_iload_n C dX11_which_0 rfl 1 rfl ?_
  refine g_i2l C dX11_which_1 ?_
  refine g_lconst (v := 0) C dX11_which_2 (by decide) ?_
  refine g_ldc2 (v := 3) C dX11_which_3 hK_X11_303 ?_
  obtain ⟨r1, σ2, h3, hf⟩ := obp_e hf
  refine g_callSi (As := [.long x1.toInt64, .long 0, .long 3]) (rest := []) C (c_X11_in l dC dI ad cy x1.toInt64 ((0 : Int64)) ((3 : Int64))) h3 hM_X11_92 cal_X11_in ⟨Nat.zero_le _, Nat.zero_le _⟩ ⟨rfl, rfl⟩ ⟨Nat.le_of_ble_eq_true rfl, Nat.le_of_ble_eq_true rfl⟩ rfl rfl (Nat.le_of_ble_eq_true rfl) dX11_which_6 ?_
  rcases oi_e hf with ⟨c4, hf⟩ | ⟨c4, hf⟩
  · refine g_if_ne_t (tgt := 14) C dX11_which_9 (by decide) c4 ?_
    refine g_aload_n C dX11_which_14 rfl 0 rfl ?_
    refine g_get C (a_98 ad cy _) rfl hin_X11 0 (by decide) hF_X11_7 rfl rfl dX11_which_15 ?_
    refine g_bipush (v := 66) C dX11_which_18 (by decide) ?_
    obtain ⟨h5, hf⟩ := og_e hf
    refine g_iald C (a_99 ad cy _) h5 dX11_which_20 ?_
    obtain ⟨v6, ev6, hf⟩ := ol_e hf
    refine g_nm ev6 ?_
    rcases oi_e hf with ⟨c7, hf⟩ | ⟨c7, hf⟩
    · refine g_if_ne_t (tgt := 27) C dX11_which_21 (by decide) c7 ?_
      refine g_iconst (v := 0) C dX11_which_27 (by decide) ?_
      refine g_istore_n (lv2 := [(0, .ref (ad 98)), (1, .int x1), (2, .int 0)]) C dX11_which_28 rfl (by decide) [1, 2, 0] rfl ?_
      refine g_bipush (v := (-4)) C dX11_which_29 (by decide) ?_
      refine g_istore_n (lv2 := [(0, .ref (ad 98)), (1, .int x1), (2, .int 0), (3, .int ((-4)))]) C dX11_which_31 rfl (by decide) [1, 2, 3, 0] rfl ?_
      refine g_bipush (v := (-4)) C dX11_which_32 (by decide) ?_
      refine g_istore (lv2 := [(0, .ref (ad 98)), (1, .int x1), (2, .int 0), (3, .int ((-4))), (4, .int ((-4)))]) C dX11_which_34 (by decide) [1, 2, 3, 4, 0] rfl ?_
      refine g_bipush (v := 63) C dX11_which_36 (by decide) ?_
      refine g_istore (lv2 := [(0, .ref (ad 98)), (1, .int x1), (2, .int 0), (3, .int ((-4))), (4, .int ((-4))), (5, .int 63)]) C dX11_which_38 (by decide) [1, 2, 3, 4, 5, 0] rfl ?_
      refine g_iconst (v := 0) C dX11_which_40 (by decide) ?_
      refine g_istore (lv2 := [(0, .ref (ad 98)), (1, .int x1), (2, .int 0), (3, .int ((-4))), (4, .int ((-4))), (5, .int 63), (6, .int 0)]) C dX11_which_41 (by decide) [1, 2, 3, 4, 5, 6, 0] rfl ?_
      exact g_sub [0, 1, 2, 3, 4, 5, 6] rfl (fX11_which_h43_ok C 400 σ2 x1 0 ((-4)) ((-4)) 63 0 hf)
    · refine g_if_ne_f (tgt := 27) C dX11_which_21 (by decide) (Decidable.of_not_not c7) ?_
      refine g_bipush (v := (-2)) C dX11_which_24 (by decide) ?_
      obtain ⟨rfl, rfl⟩ := os_e hf
      exact g_iret C rfl dX11_which_26
  · refine g_if_ne_f (tgt := 14) C dX11_which_9 (by decide) (Decidable.of_not_not c4) ?_
    refine g_iconst (v := (-1)) C dX11_which_12 (by decide) ?_
    obtain ⟨rfl, rfl⟩ := os_e hf
    exact g_iret C rfl dX11_which_13
theorem c_X11_which (l : Launch) (dC : Nat → ClassId) (dI : Nat → Nat → Nat) (ad : Nat → Nat) (cy : Nat → ClassId) (x1 : Int32) : ConI l yX11_which cX11_which 7 (some .int) rm_X11_which dC dI ad cy [.ref (ad 98), .int x1] (fun σ => fX11_which σ x1) := con_i (own := RX11) (by decide) rfl (Nat.le_of_ble_eq_true rfl) (fun _ _ _ _ _ _ _ _ σ _ _ C hf => fX11_which_ok C σ x1 hf)
theorem cal_X11_which : CalV yX11_which RX11 cX11_which 7 (some .int) 1 := ⟨hI_X11_which, hS_X11_which, hIni_X11, hC_X11_which, by decide +kernel⟩
abbrev rm_X11_copies : Room := { frames := 0, cells := 0, slots := 0, locals := 0 }
def fX11_copies_b2 (sf_2 : S0 → Int32 → Int32 → Int32 → Option (Int32 × S0)) (σ : S0) (x1 : Int32) (x2 : Int32) (x3 : Int32) : Option (Int32 × S0) := if (80 : Int32) ≤ x3 then (some (0, σ)) else (ol (x2 + x3) (fun v2 => og (¬ (v2 < 0 ∨ 240 ≤ v2.toNatClampNeg)) (ol (σ 99 v2.toNatClampNeg) (fun v4 => ol (x1 + x3) (fun v5 => og (¬ (v5 < 0 ∨ 240 ≤ v5.toNatClampNeg)) (ol (su σ 99 v5.toNatClampNeg v4) (fun σ7 => ol (x3 + 1) (fun v8 => sf_2 σ7 x1 x2 v8))))))))
set_option maxHeartbeats 1000000 in
set_option maxRecDepth 100000 in
theorem fX11_copies_b2_ok {p : Program} {l : Launch} {e : Env} {s : State} {m : MethodId} {args : Array Value} {below : List Frame} {meth : Method} {c : Code} {dC : Nat → ClassId} {dI : Nat → Nat → Nat} {ad : Nat → Nat} {cy : Nat → ClassId} {sz : Nat} (C : Cx p s m args meth c RX11 cX11_copies 4 none dC dI ad cy sz) {rr : Int32} {ρ : S0} (sf_2 : S0 → Int32 → Int32 → Int32 → Option (Int32 × S0)) (hs_2 : ∀ (σ : S0) (x1 : Int32) (x2 : Int32) (x3 : Int32) , sf_2 σ x1 x2 x3 = some (rr, ρ) → Gw p l e rm_X11_copies s m args below meth c (MQ below (QcV dC dI ad cy sz ρ) args s 0 0 (AW ad sz)) dC dI ad cy 4 sz 0 0 2 [(0, .ref (ad 98)), (1, .int x1), (2, .int x2), (3, .int x3)] [] σ) (σ : S0) (x1 : Int32) (x2 : Int32) (x3 : Int32)  (hf : fX11_copies_b2 sf_2 σ x1 x2 x3 = some (rr, ρ)) : Gw p l e rm_X11_copies s m args below meth c (MQ below (QcV dC dI ad cy sz ρ) args s 0 0 (AW ad sz)) dC dI ad cy 4 sz 0 0 2 [(0, .ref (ad 98)), (1, .int x1), (2, .int x2), (3, .int x3)] [] σ := by
  unfold fX11_copies_b2 at hf
  refine g_iload_n C dX11_copies_2 rfl 3 rfl ?_
  refine g_bipush (v := 80) C dX11_copies_3 (by decide) ?_
  rcases oi_e hf with ⟨c1, hf⟩ | ⟨c1, hf⟩
  · refine g_icmp_ge_t (tgt := 30) C dX11_copies_5 (by decide) c1 ?_
    obtain ⟨rfl, rfl⟩ := os_e hf
    exact g_vret C rfl dX11_copies_30
  · refine g_icmp_ge_f (tgt := 30) C dX11_copies_5 (by decide) c1 ?_
    refine g_aload_n C dX11_copies_8 rfl 0 rfl ?_
    refine g_get C (a_98 ad cy _) rfl hin_X11 0 (by decide) hF_X11_7 rfl rfl dX11_copies_9 ?_
    refine g_iload_n C dX11_copies_12 rfl 1 rfl ?_
    refine g_iload_n C dX11_copies_13 rfl 3 rfl ?_
    refine g_iadd C dX11_copies_14 ?_
    refine g_aload_n C dX11_copies_15 rfl 0 rfl ?_
    refine g_get C (a_98 ad cy _) rfl hin_X11 0 (by decide) hF_X11_7 rfl rfl dX11_copies_16 ?_
    refine g_iload_n C dX11_copies_19 rfl 2 rfl ?_
    refine g_iload_n C dX11_copies_20 rfl 3 rfl ?_
    refine g_iadd C dX11_copies_21 ?_
    obtain ⟨v2, ev2, hf⟩ := ol_e hf
    refine g_nm ev2 ?_
    obtain ⟨h3, hf⟩ := og_e hf
    refine g_iald C (a_99 ad cy _) h3 dX11_copies_22 ?_
    obtain ⟨v4, ev4, hf⟩ := ol_e hf
    refine g_nm ev4 ?_
    obtain ⟨v5, ev5, hf⟩ := ol_e hf
    refine g_nm2 ev5 ?_
    obtain ⟨h6, hf⟩ := og_e hf
    obtain ⟨σ7, eσ7, hf⟩ := ol_e hf
    refine g_iast C (a_99 ad cy _) h6 (w_99 ad cy _) eσ7 dX11_copies_23 ?_
    obtain ⟨v8, ev8, hf⟩ := ol_e hf
    refine g_iinc (j := 3) (w := 1) (lv2 := [(0, .ref (ad 98)), (1, .int x1), (2, .int x2), (3, .int v8)]) C dX11_copies_24 rfl (by decide) ev8 (by decide) [1, 2, 3, 0] rfl ?_
    refine g_goto (tgt := 2) C dX11_copies_27 (by decide) ?_
    exact g_sub [0, 1, 2, 3] rfl (hs_2 σ7 x1 x2 v8 hf)
def fX11_copies_h2  : Nat → S0 → Int32 → Int32 → Int32 → Option (Int32 × S0)
  | 0 => fun _ _ _ _ => none
  | n + 1 => fun σ x1 x2 x3 => fX11_copies_b2  (fX11_copies_h2  n) σ x1 x2 x3
set_option maxHeartbeats 1000000 in
set_option maxRecDepth 100000 in
theorem fX11_copies_h2_ok {p : Program} {l : Launch} {e : Env} {s : State} {m : MethodId} {args : Array Value} {below : List Frame} {meth : Method} {c : Code} {dC : Nat → ClassId} {dI : Nat → Nat → Nat} {ad : Nat → Nat} {cy : Nat → ClassId} {sz : Nat} (C : Cx p s m args meth c RX11 cX11_copies 4 none dC dI ad cy sz) {rr : Int32} {ρ : S0}  : ∀ (n : Nat) (σ : S0) (x1 : Int32) (x2 : Int32) (x3 : Int32)  (_hf : fX11_copies_h2  n σ x1 x2 x3 = some (rr, ρ)), Gw p l e rm_X11_copies s m args below meth c (MQ below (QcV dC dI ad cy sz ρ) args s 0 0 (AW ad sz)) dC dI ad cy 4 sz 0 0 2 [(0, .ref (ad 98)), (1, .int x1), (2, .int x2), (3, .int x3)] [] σ
  | 0, _, _, _, _, hf => by cases hf
  | n + 1, σ, x1, x2, x3, hf => fX11_copies_b2_ok C  (fX11_copies_h2  n) (fX11_copies_h2_ok C  n) σ x1 x2 x3 hf
def fX11_copies (σ : S0) (x1 : Int32) (x2 : Int32) : Option (Int32 × S0) := fX11_copies_h2 400 σ x1 x2 0
set_option maxHeartbeats 1000000 in
set_option maxRecDepth 100000 in
theorem fX11_copies_ok {p : Program} {l : Launch} {e : Env} {s : State} {m : MethodId} {args : Array Value} {below : List Frame} {meth : Method} {c : Code} {dC : Nat → ClassId} {dI : Nat → Nat → Nat} {ad : Nat → Nat} {cy : Nat → ClassId} {sz : Nat} (C : Cx p s m args meth c RX11 cX11_copies 4 none dC dI ad cy sz) {rr : Int32} {ρ : S0} (σ : S0) (x1 : Int32) (x2 : Int32)  (hf : fX11_copies σ x1 x2 = some (rr, ρ)) : Gw p l e rm_X11_copies s m args below meth c (MQ below (QcV dC dI ad cy sz ρ) args s 0 0 (AW ad sz)) dC dI ad cy 4 sz 0 0 0 [(0, .ref (ad 98)), (1, .int x1), (2, .int x2)] [] σ := by
  unfold fX11_copies at hf
  refine g_iconst (v := 0) C dX11_copies_0 (by decide) ?_
  refine g_istore_n (lv2 := [(0, .ref (ad 98)), (1, .int x1), (2, .int x2), (3, .int 0)]) C dX11_copies_1 rfl (by decide) [1, 2, 3, 0] rfl ?_
  exact g_sub [0, 1, 2, 3] rfl (fX11_copies_h2_ok C 400 σ x1 x2 0 hf)
theorem c_X11_copies (l : Launch) (dC : Nat → ClassId) (dI : Nat → Nat → Nat) (ad : Nat → Nat) (cy : Nat → ClassId) (x1 : Int32) (x2 : Int32) : ConV l yX11_copies cX11_copies 4 none rm_X11_copies dC dI ad cy [.ref (ad 98), .int x1, .int x2] (fun σ => fX11_copies σ x1 x2) := con_v (own := RX11) (by decide) rfl (Nat.le_of_ble_eq_true rfl) (fun _ _ _ _ _ _ _ _ σ _ _ C hf => fX11_copies_ok C σ x1 x2 hf)
theorem cal_X11_copies : CalV yX11_copies RX11 cX11_copies 4 none 2 := ⟨hI_X11_copies, hS_X11_copies, hIni_X11, hC_X11_copies, by decide +kernel⟩
abbrev rm_X11_keep : Room := { frames := 1, cells := 0, slots := 0, locals := 25 }
def fX11_keep (σ : S0) (x1 : Int32) : Option (Int32 × S0) := obp (fX11_in σ x1.toInt64 ((0 : Int64)) ((1 : Int64))) (fun r1 σ2 => if ¬ r1 = 0 then (og (¬ (x1 < 0 ∨ 2 ≤ x1.toNatClampNeg)) (ol (σ2 100 x1.toNatClampNeg) (fun v6 => obp (fX11_flag σ2 v6) (fun r7 σ8 => og (¬ (x1 < 0 ∨ 2 ≤ x1.toNatClampNeg)) (ol (su σ8 100 x1.toNatClampNeg (vp_nar .boolean 1)) (fun σ11 => obp (fX11_copies σ11 (80 * (x1 + 1)) ((0 : Int32))) (fun r12 σ13 => some (r7, σ13)))))))) else (some ((-1), σ2)))
set_option maxHeartbeats 1000000 in
set_option maxRecDepth 100000 in
theorem fX11_keep_ok {p : Program} {l : Launch} {e : Env} {s : State} {m : MethodId} {args : Array Value} {below : List Frame} {meth : Method} {c : Code} {dC : Nat → ClassId} {dI : Nat → Nat → Nat} {ad : Nat → Nat} {cy : Nat → ClassId} {sz : Nat} (C : Cx p s m args meth c RX11 cX11_keep 3 (some .int) dC dI ad cy sz) {rr : Int32} {ρ : S0} (σ : S0) (x1 : Int32)  (hf : fX11_keep σ x1 = some (rr, ρ)) : Gw p l e rm_X11_keep s m args below meth c (MQ below (QcI dC dI ad cy sz rr ρ) args s 0 0 (AW ad sz)) dC dI ad cy 3 sz 0 0 0 [(0, .ref (ad 98)), (1, .int x1)] [] σ := by
  unfold fX11_keep at hf
  refine g_iload_n C dX11_keep_0 rfl 1 rfl ?_
  refine g_i2l C dX11_keep_1 ?_
  refine g_lconst (v := 0) C dX11_keep_2 (by decide) ?_
  refine g_lconst (v := 1) C dX11_keep_3 (by decide) ?_
  obtain ⟨r1, σ2, h3, hf⟩ := obp_e hf
  refine g_callSi (As := [.long x1.toInt64, .long 0, .long 1]) (rest := []) C (c_X11_in l dC dI ad cy x1.toInt64 ((0 : Int64)) ((1 : Int64))) h3 hM_X11_92 cal_X11_in ⟨Nat.zero_le _, Nat.zero_le _⟩ ⟨rfl, rfl⟩ ⟨Nat.le_of_ble_eq_true rfl, Nat.le_of_ble_eq_true rfl⟩ rfl rfl (Nat.le_of_ble_eq_true rfl) dX11_keep_4 ?_
  rcases oi_e hf with ⟨c4, hf⟩ | ⟨c4, hf⟩
  · refine g_if_ne_t (tgt := 12) C dX11_keep_7 (by decide) c4 ?_
    refine g_aload_n C dX11_keep_12 rfl 0 rfl ?_
    refine g_get C (a_98 ad cy _) rfl hin_X11 1 (by decide) hF_X11_13 rfl rfl dX11_keep_13 ?_
    refine g_iload_n C dX11_keep_16 rfl 1 rfl ?_
    obtain ⟨h5, hf⟩ := og_e hf
    refine g_zald C (a_100 ad cy _) h5 dX11_keep_17 ?_
    obtain ⟨v6, ev6, hf⟩ := ol_e hf
    refine g_nm ev6 ?_
    obtain ⟨r7, σ8, h9, hf⟩ := obp_e hf
    refine g_callSi (As := [.int v6]) (rest := []) C (c_X11_flag l dC dI ad cy v6) h9 hM_X11_191 cal_X11_flag ⟨Nat.zero_le _, Nat.zero_le _⟩ ⟨rfl, rfl⟩ ⟨Nat.le_of_ble_eq_true rfl, Nat.le_of_ble_eq_true rfl⟩ rfl rfl (Nat.le_of_ble_eq_true rfl) dX11_keep_18 ?_
    refine g_istore_n (lv2 := [(0, .ref (ad 98)), (1, .int x1), (2, .int r7)]) C dX11_keep_21 rfl (by decide) [1, 2, 0] rfl ?_
    refine g_aload_n C dX11_keep_22 rfl 0 rfl ?_
    refine g_get C (a_98 ad cy _) rfl hin_X11 1 (by decide) hF_X11_13 rfl rfl dX11_keep_23 ?_
    refine g_iload_n C dX11_keep_26 rfl 1 rfl ?_
    refine g_iconst (v := 1) C dX11_keep_27 (by decide) ?_
    obtain ⟨h10, hf⟩ := og_e hf
    obtain ⟨σ11, eσ11, hf⟩ := ol_e hf
    refine g_zast C (a_100 ad cy _) h10 (w_100 ad cy _) eσ11 dX11_keep_28 ?_
    refine g_aload_n C dX11_keep_29 rfl 0 rfl ?_
    refine g_bipush (v := 80) C dX11_keep_30 (by decide) ?_
    refine g_iload_n C dX11_keep_32 rfl 1 rfl ?_
    refine g_iconst (v := 1) C dX11_keep_33 (by decide) ?_
    refine g_iadd C dX11_keep_34 ?_
    refine g_imul C dX11_keep_35 ?_
    refine g_iconst (v := 0) C dX11_keep_36 (by decide) ?_
    obtain ⟨r12, σ13, h14, hf⟩ := obp_e hf
    refine g_callVv (As := [.int (80 * (x1 + 1)), .int 0]) (rest := []) C (a_98 ad cy _) rfl (c_X11_copies l dC dI ad cy (80 * (x1 + 1)) ((0 : Int32))) h14 hM_X11_305 cal_X11_copies ⟨Nat.zero_le _, Nat.zero_le _⟩ ⟨rfl, rfl⟩ ⟨Nat.le_of_ble_eq_true rfl, Nat.le_of_ble_eq_true rfl⟩ rfl rfl (Nat.le_of_ble_eq_true rfl) dX11_keep_37 ?_
    refine g_iload_n C dX11_keep_40 rfl 2 rfl ?_
    obtain ⟨rfl, rfl⟩ := os_e hf
    exact g_iret C rfl dX11_keep_41
  · refine g_if_ne_f (tgt := 12) C dX11_keep_7 (by decide) (Decidable.of_not_not c4) ?_
    refine g_iconst (v := (-1)) C dX11_keep_10 (by decide) ?_
    obtain ⟨rfl, rfl⟩ := os_e hf
    exact g_iret C rfl dX11_keep_11
theorem c_X11_keep (l : Launch) (dC : Nat → ClassId) (dI : Nat → Nat → Nat) (ad : Nat → Nat) (cy : Nat → ClassId) (x1 : Int32) : ConI l yX11_keep cX11_keep 3 (some .int) rm_X11_keep dC dI ad cy [.ref (ad 98), .int x1] (fun σ => fX11_keep σ x1) := con_i (own := RX11) (by decide) rfl (Nat.le_of_ble_eq_true rfl) (fun _ _ _ _ _ _ _ _ σ _ _ C hf => fX11_keep_ok C σ x1 hf)
theorem cal_X11_keep : CalV yX11_keep RX11 cX11_keep 3 (some .int) 1 := ⟨hI_X11_keep, hS_X11_keep, hIni_X11, hC_X11_keep, by decide +kernel⟩
abbrev rm_X11_back : Room := { frames := 4, cells := 0, slots := 0, locals := 92 }
def fX11_back (σ : S0) (x1 : Int32) : Option (Int32 × S0) := obp (fX11_in σ x1.toInt64 ((0 : Int64)) ((1 : Int64))) (fun r1 σ2 => if ¬ r1 = 0 then (og (¬ (x1 < 0 ∨ 2 ≤ x1.toNatClampNeg)) (ol (σ2 100 x1.toNatClampNeg) (fun v6 => if ¬ v6 = 0 then (obp (fX11_copies σ2 ((0 : Int32)) (80 * (x1 + 1))) (fun r8 σ9 => obp (fX11_takenNow σ9) (fun r11 σ12 => some (r11, σ12)))) else (some ((-2), σ2))))) else (some ((-1), σ2)))
set_option maxHeartbeats 1000000 in
set_option maxRecDepth 100000 in
theorem fX11_back_ok {p : Program} {l : Launch} {e : Env} {s : State} {m : MethodId} {args : Array Value} {below : List Frame} {meth : Method} {c : Code} {dC : Nat → ClassId} {dI : Nat → Nat → Nat} {ad : Nat → Nat} {cy : Nat → ClassId} {sz : Nat} (C : Cx p s m args meth c RX11 cX11_back 2 (some .int) dC dI ad cy sz) {rr : Int32} {ρ : S0} (σ : S0) (x1 : Int32)  (hf : fX11_back σ x1 = some (rr, ρ)) : Gw p l e rm_X11_back s m args below meth c (MQ below (QcI dC dI ad cy sz rr ρ) args s 0 0 (AW ad sz)) dC dI ad cy 2 sz 0 0 0 [(0, .ref (ad 98)), (1, .int x1)] [] σ := by
  unfold fX11_back at hf
  refine g_iload_n C dX11_back_0 rfl 1 rfl ?_
  refine g_i2l C dX11_back_1 ?_
  refine g_lconst (v := 0) C dX11_back_2 (by decide) ?_
  refine g_lconst (v := 1) C dX11_back_3 (by decide) ?_
  obtain ⟨r1, σ2, h3, hf⟩ := obp_e hf
  refine g_callSi (As := [.long x1.toInt64, .long 0, .long 1]) (rest := []) C (c_X11_in l dC dI ad cy x1.toInt64 ((0 : Int64)) ((1 : Int64))) h3 hM_X11_92 cal_X11_in ⟨Nat.zero_le _, Nat.zero_le _⟩ ⟨rfl, rfl⟩ ⟨Nat.le_of_ble_eq_true rfl, Nat.le_of_ble_eq_true rfl⟩ rfl rfl (Nat.le_of_ble_eq_true rfl) dX11_back_4 ?_
  rcases oi_e hf with ⟨c4, hf⟩ | ⟨c4, hf⟩
  · refine g_if_ne_t (tgt := 12) C dX11_back_7 (by decide) c4 ?_
    refine g_aload_n C dX11_back_12 rfl 0 rfl ?_
    refine g_get C (a_98 ad cy _) rfl hin_X11 1 (by decide) hF_X11_13 rfl rfl dX11_back_13 ?_
    refine g_iload_n C dX11_back_16 rfl 1 rfl ?_
    obtain ⟨h5, hf⟩ := og_e hf
    refine g_zald C (a_100 ad cy _) h5 dX11_back_17 ?_
    obtain ⟨v6, ev6, hf⟩ := ol_e hf
    refine g_nm ev6 ?_
    rcases oi_e hf with ⟨c7, hf⟩ | ⟨c7, hf⟩
    · refine g_if_ne_t (tgt := 24) C dX11_back_18 (by decide) c7 ?_
      refine g_aload_n C dX11_back_24 rfl 0 rfl ?_
      refine g_iconst (v := 0) C dX11_back_25 (by decide) ?_
      refine g_bipush (v := 80) C dX11_back_26 (by decide) ?_
      refine g_iload_n C dX11_back_28 rfl 1 rfl ?_
      refine g_iconst (v := 1) C dX11_back_29 (by decide) ?_
      refine g_iadd C dX11_back_30 ?_
      refine g_imul C dX11_back_31 ?_
      obtain ⟨r8, σ9, h10, hf⟩ := obp_e hf
      refine g_callVv (As := [.int 0, .int (80 * (x1 + 1))]) (rest := []) C (a_98 ad cy _) rfl (c_X11_copies l dC dI ad cy ((0 : Int32)) (80 * (x1 + 1))) h10 hM_X11_305 cal_X11_copies ⟨Nat.zero_le _, Nat.zero_le _⟩ ⟨rfl, rfl⟩ ⟨Nat.le_of_ble_eq_true rfl, Nat.le_of_ble_eq_true rfl⟩ rfl rfl (Nat.le_of_ble_eq_true rfl) dX11_back_32 ?_
      refine g_aload_n C dX11_back_35 rfl 0 rfl ?_
      obtain ⟨r11, σ12, h13, hf⟩ := obp_e hf
      refine g_callVi (As := []) (rest := []) C (a_98 ad cy _) rfl (c_X11_takenNow l dC dI ad cy ) h13 hM_X11_223 cal_X11_takenNow ⟨Nat.zero_le _, Nat.zero_le _⟩ ⟨rfl, rfl⟩ ⟨Nat.le_of_ble_eq_true rfl, Nat.le_of_ble_eq_true rfl⟩ rfl rfl (Nat.le_of_ble_eq_true rfl) dX11_back_36 ?_
      obtain ⟨rfl, rfl⟩ := os_e hf
      exact g_iret C rfl dX11_back_39
    · refine g_if_ne_f (tgt := 24) C dX11_back_18 (by decide) (Decidable.of_not_not c7) ?_
      refine g_bipush (v := (-2)) C dX11_back_21 (by decide) ?_
      obtain ⟨rfl, rfl⟩ := os_e hf
      exact g_iret C rfl dX11_back_23
  · refine g_if_ne_f (tgt := 12) C dX11_back_7 (by decide) (Decidable.of_not_not c4) ?_
    refine g_iconst (v := (-1)) C dX11_back_10 (by decide) ?_
    obtain ⟨rfl, rfl⟩ := os_e hf
    exact g_iret C rfl dX11_back_11
theorem c_X11_back (l : Launch) (dC : Nat → ClassId) (dI : Nat → Nat → Nat) (ad : Nat → Nat) (cy : Nat → ClassId) (x1 : Int32) : ConI l yX11_back cX11_back 2 (some .int) rm_X11_back dC dI ad cy [.ref (ad 98), .int x1] (fun σ => fX11_back σ x1) := con_i (own := RX11) (by decide) rfl (Nat.le_of_ble_eq_true rfl) (fun _ _ _ _ _ _ _ _ σ _ _ C hf => fX11_back_ok C σ x1 hf)
theorem cal_X11_back : CalV yX11_back RX11 cX11_back 2 (some .int) 1 := ⟨hI_X11_back, hS_X11_back, hIni_X11, hC_X11_back, by decide +kernel⟩
abbrev rm_X11_isSheet : Room := { frames := 1, cells := 0, slots := 0, locals := 25 }
def fX11_isSheet (σ : S0) (x0 : Int32) (x1 : Int32) : Option (Int32 × S0) := obp (fX11_in σ x0.toInt64 ((0 : Int64)) ((3 : Int64))) (fun r1 σ2 => if r1 = 0 then (some (0, σ2)) else (obp (fX11_in σ2 x1.toInt64 ((0 : Int64)) ((2 : Int64))) (fun r5 σ6 => if r5 = 0 then (some (0, σ6)) else (some (1, σ6)))))
set_option maxHeartbeats 1000000 in
set_option maxRecDepth 100000 in
theorem fX11_isSheet_ok {p : Program} {l : Launch} {e : Env} {s : State} {m : MethodId} {args : Array Value} {below : List Frame} {meth : Method} {c : Code} {dC : Nat → ClassId} {dI : Nat → Nat → Nat} {ad : Nat → Nat} {cy : Nat → ClassId} {sz : Nat} (C : Cx p s m args meth c RX11 cX11_isSheet 2 (some .boolean) dC dI ad cy sz) {rr : Int32} {ρ : S0} (σ : S0) (x0 : Int32) (x1 : Int32)  (hf : fX11_isSheet σ x0 x1 = some (rr, ρ)) : Gw p l e rm_X11_isSheet s m args below meth c (MQ below (QcI dC dI ad cy sz rr ρ) args s 0 0 (AW ad sz)) dC dI ad cy 2 sz 0 0 0 [(0, .int x0), (1, .int x1)] [] σ := by
  unfold fX11_isSheet at hf
  refine g_iload_n C dX11_isSheet_0 rfl 0 rfl ?_
  refine g_i2l C dX11_isSheet_1 ?_
  refine g_lconst (v := 0) C dX11_isSheet_2 (by decide) ?_
  refine g_ldc2 (v := 3) C dX11_isSheet_3 hK_X11_303 ?_
  obtain ⟨r1, σ2, h3, hf⟩ := obp_e hf
  refine g_callSi (As := [.long x0.toInt64, .long 0, .long 3]) (rest := []) C (c_X11_in l dC dI ad cy x0.toInt64 ((0 : Int64)) ((3 : Int64))) h3 hM_X11_92 cal_X11_in ⟨Nat.zero_le _, Nat.zero_le _⟩ ⟨rfl, rfl⟩ ⟨Nat.le_of_ble_eq_true rfl, Nat.le_of_ble_eq_true rfl⟩ rfl rfl (Nat.le_of_ble_eq_true rfl) dX11_isSheet_6 ?_
  rcases oi_e hf with ⟨c4, hf⟩ | ⟨c4, hf⟩
  · refine g_if_eq_t (tgt := 28) C dX11_isSheet_9 (by decide) c4 ?_
    refine g_iconst (v := 0) C dX11_isSheet_28 (by decide) ?_
    obtain ⟨rfl, rfl⟩ := os_e hf
    exact g_zret C rfl (by decide) dX11_isSheet_29
  · refine g_if_eq_f (tgt := 28) C dX11_isSheet_9 (by decide) c4 ?_
    refine g_iload_n C dX11_isSheet_12 rfl 1 rfl ?_
    refine g_i2l C dX11_isSheet_13 ?_
    refine g_lconst (v := 0) C dX11_isSheet_14 (by decide) ?_
    refine g_ldc2 (v := 2) C dX11_isSheet_15 hK_X11_308 ?_
    obtain ⟨r5, σ6, h7, hf⟩ := obp_e hf
    refine g_callSi (As := [.long x1.toInt64, .long 0, .long 2]) (rest := []) C (c_X11_in l dC dI ad cy x1.toInt64 ((0 : Int64)) ((2 : Int64))) h7 hM_X11_92 cal_X11_in ⟨Nat.zero_le _, Nat.zero_le _⟩ ⟨rfl, rfl⟩ ⟨Nat.le_of_ble_eq_true rfl, Nat.le_of_ble_eq_true rfl⟩ rfl rfl (Nat.le_of_ble_eq_true rfl) dX11_isSheet_18 ?_
    rcases oi_e hf with ⟨c8, hf⟩ | ⟨c8, hf⟩
    · refine g_if_eq_t (tgt := 28) C dX11_isSheet_21 (by decide) c8 ?_
      refine g_iconst (v := 0) C dX11_isSheet_28 (by decide) ?_
      obtain ⟨rfl, rfl⟩ := os_e hf
      exact g_zret C rfl (by decide) dX11_isSheet_29
    · refine g_if_eq_f (tgt := 28) C dX11_isSheet_21 (by decide) c8 ?_
      refine g_iconst (v := 1) C dX11_isSheet_24 (by decide) ?_
      refine g_goto (tgt := 29) C dX11_isSheet_25 (by decide) ?_
      obtain ⟨rfl, rfl⟩ := os_e hf
      exact g_zret C rfl (by decide) dX11_isSheet_29
theorem c_X11_isSheet (l : Launch) (dC : Nat → ClassId) (dI : Nat → Nat → Nat) (ad : Nat → Nat) (cy : Nat → ClassId) (x0 : Int32) (x1 : Int32) : ConI l yX11_isSheet cX11_isSheet 2 (some .boolean) rm_X11_isSheet dC dI ad cy [.int x0, .int x1] (fun σ => fX11_isSheet σ x0 x1) := con_i (own := RX11) (by decide) rfl (Nat.le_of_ble_eq_true rfl) (fun _ _ _ _ _ _ _ _ σ _ _ C hf => fX11_isSheet_ok C σ x0 x1 hf)
theorem cal_X11_isSheet : CalS yX11_isSheet cX11_isSheet 2 (some .boolean) 2 := ⟨hSt_X11_isSheet, hIni_X11, hC_X11_isSheet, by decide +kernel⟩
abbrev rm_X11_sheet : Room := { frames := 2, cells := 0, slots := 0, locals := 46 }
def fX11_sheet_b40 (sf_40 : S0 → Int32 → Int32 → Option (Int32 × S0)) (σ : S0) (x1 : Int32) (x4 : Int32) : Option (Int32 × S0) := if (40 : Int32) ≤ x4 then (some (1, σ)) else (ol ((40 * x1) + x4) (fun v2 => og (¬ (v2 < 0 ∨ 160 ≤ v2.toNatClampNeg)) (ol (su σ 110 v2.toNatClampNeg 0) (fun σ4 => ol (x4 + 1) (fun v5 => sf_40 σ4 x1 v5)))))
set_option maxHeartbeats 1000000 in
set_option maxRecDepth 100000 in
theorem fX11_sheet_b40_ok {p : Program} {l : Launch} {e : Env} {s : State} {m : MethodId} {args : Array Value} {below : List Frame} {meth : Method} {c : Code} {dC : Nat → ClassId} {dI : Nat → Nat → Nat} {ad : Nat → Nat} {cy : Nat → ClassId} {sz : Nat} (C : Cx p s m args meth c RX11 cX11_sheet 5 (some .int) dC dI ad cy sz) {rr : Int32} {ρ : S0} (sf_40 : S0 → Int32 → Int32 → Option (Int32 × S0)) (hs_40 : ∀ (σ : S0) (x1 : Int32) (x4 : Int32) , sf_40 σ x1 x4 = some (rr, ρ) → Gw p l e rm_X11_sheet s m args below meth c (MQ below (QcI dC dI ad cy sz rr ρ) args s 0 0 (AW ad sz)) dC dI ad cy 5 sz 0 0 40 [(0, .ref (ad 98)), (1, .int x1), (4, .int x4)] [] σ) (σ : S0) (x1 : Int32) (x4 : Int32)  (hf : fX11_sheet_b40 sf_40 σ x1 x4 = some (rr, ρ)) : Gw p l e rm_X11_sheet s m args below meth c (MQ below (QcI dC dI ad cy sz rr ρ) args s 0 0 (AW ad sz)) dC dI ad cy 5 sz 0 0 40 [(0, .ref (ad 98)), (1, .int x1), (4, .int x4)] [] σ := by
  unfold fX11_sheet_b40 at hf
  refine g_iload C dX11_sheet_40 2 rfl ?_
  refine g_bipush (v := 40) C dX11_sheet_42 (by decide) ?_
  rcases oi_e hf with ⟨c1, hf⟩ | ⟨c1, hf⟩
  · refine g_icmp_ge_t (tgt := 66) C dX11_sheet_44 (by decide) c1 ?_
    refine g_iconst (v := 1) C dX11_sheet_66 (by decide) ?_
    obtain ⟨rfl, rfl⟩ := os_e hf
    exact g_iret C rfl dX11_sheet_67
  · refine g_icmp_ge_f (tgt := 66) C dX11_sheet_44 (by decide) c1 ?_
    refine g_aload_n C dX11_sheet_47 rfl 0 rfl ?_
    refine g_get C (a_98 ad cy _) rfl hin_X11 38 (by decide) hF_X11_44 rfl rfl dX11_sheet_48 ?_
    refine g_bipush (v := 40) C dX11_sheet_51 (by decide) ?_
    refine g_iload_n C dX11_sheet_53 rfl 1 rfl ?_
    refine g_imul C dX11_sheet_54 ?_
    refine g_iload C dX11_sheet_55 2 rfl ?_
    refine g_iadd C dX11_sheet_57 ?_
    refine g_iconst (v := 0) C dX11_sheet_58 (by decide) ?_
    obtain ⟨v2, ev2, hf⟩ := ol_e hf
    refine g_nm2 ev2 ?_
    obtain ⟨h3, hf⟩ := og_e hf
    obtain ⟨σ4, eσ4, hf⟩ := ol_e hf
    refine g_iast C (a_110 ad cy _) h3 (w_110 ad cy _) eσ4 dX11_sheet_59 ?_
    obtain ⟨v5, ev5, hf⟩ := ol_e hf
    refine g_iinc (j := 2) (w := 1) (lv2 := [(0, .ref (ad 98)), (1, .int x1), (4, .int v5)]) C dX11_sheet_60 rfl (by decide) ev5 (by decide) [1, 2, 0] rfl ?_
    refine g_goto (tgt := 40) C dX11_sheet_63 (by decide) ?_
    exact g_sub [0, 1, 2] rfl (hs_40 σ4 x1 v5 hf)
def fX11_sheet_h40  : Nat → S0 → Int32 → Int32 → Option (Int32 × S0)
  | 0 => fun _ _ _ => none
  | n + 1 => fun σ x1 x4 => fX11_sheet_b40  (fX11_sheet_h40  n) σ x1 x4
set_option maxHeartbeats 1000000 in
set_option maxRecDepth 100000 in
theorem fX11_sheet_h40_ok {p : Program} {l : Launch} {e : Env} {s : State} {m : MethodId} {args : Array Value} {below : List Frame} {meth : Method} {c : Code} {dC : Nat → ClassId} {dI : Nat → Nat → Nat} {ad : Nat → Nat} {cy : Nat → ClassId} {sz : Nat} (C : Cx p s m args meth c RX11 cX11_sheet 5 (some .int) dC dI ad cy sz) {rr : Int32} {ρ : S0}  : ∀ (n : Nat) (σ : S0) (x1 : Int32) (x4 : Int32)  (_hf : fX11_sheet_h40  n σ x1 x4 = some (rr, ρ)), Gw p l e rm_X11_sheet s m args below meth c (MQ below (QcI dC dI ad cy sz rr ρ) args s 0 0 (AW ad sz)) dC dI ad cy 5 sz 0 0 40 [(0, .ref (ad 98)), (1, .int x1), (4, .int x4)] [] σ
  | 0, _, _, _, hf => by cases hf
  | n + 1, σ, x1, x4, hf => fX11_sheet_b40_ok C  (fX11_sheet_h40  n) (fX11_sheet_h40_ok C  n) σ x1 x4 hf
def fX11_sheet (σ : S0) (x1 : Int32) (x2 : Int32) (x3 : Int32) : Option (Int32 × S0) := obp (fX11_isSheet σ x1 x2) (fun r1 σ2 => if r1 = 0 then (some ((-1), σ2)) else (if x3 ≤ 40 then (if 0 ≤ x3 then (og (¬ (x1 < 0 ∨ 4 ≤ x1.toNatClampNeg)) (ol (su σ2 108 x1.toNatClampNeg x2) (fun σ8 => og (¬ (x1 < 0 ∨ 4 ≤ x1.toNatClampNeg)) (ol (su σ8 109 x1.toNatClampNeg x3) (fun σ10 => fX11_sheet_h40 400 σ10 x1 0))))) else (some ((-14), σ2))) else (some ((-1), σ2))))
set_option maxHeartbeats 1000000 in
set_option maxRecDepth 100000 in
theorem fX11_sheet_ok {p : Program} {l : Launch} {e : Env} {s : State} {m : MethodId} {args : Array Value} {below : List Frame} {meth : Method} {c : Code} {dC : Nat → ClassId} {dI : Nat → Nat → Nat} {ad : Nat → Nat} {cy : Nat → ClassId} {sz : Nat} (C : Cx p s m args meth c RX11 cX11_sheet 5 (some .int) dC dI ad cy sz) {rr : Int32} {ρ : S0} (σ : S0) (x1 : Int32) (x2 : Int32) (x3 : Int32)  (hf : fX11_sheet σ x1 x2 x3 = some (rr, ρ)) : Gw p l e rm_X11_sheet s m args below meth c (MQ below (QcI dC dI ad cy sz rr ρ) args s 0 0 (AW ad sz)) dC dI ad cy 5 sz 0 0 0 [(0, .ref (ad 98)), (1, .int x1), (2, .int x2), (3, .int x3)] [] σ := by
  unfold fX11_sheet at hf
  refine g_iload_n C dX11_sheet_0 rfl 1 rfl ?_
  refine g_iload_n C dX11_sheet_1 rfl 2 rfl ?_
  obtain ⟨r1, σ2, h3, hf⟩ := obp_e hf
  refine g_callSi (As := [.int x1, .int x2]) (rest := []) C (c_X11_isSheet l dC dI ad cy x1 x2) h3 hM_X11_310 cal_X11_isSheet ⟨Nat.zero_le _, Nat.zero_le _⟩ ⟨rfl, rfl⟩ ⟨Nat.le_of_ble_eq_true rfl, Nat.le_of_ble_eq_true rfl⟩ rfl rfl (Nat.le_of_ble_eq_true rfl) dX11_sheet_2 ?_
  rcases oi_e hf with ⟨c4, hf⟩ | ⟨c4, hf⟩
  · refine g_if_eq_t (tgt := 14) C dX11_sheet_5 (by decide) c4 ?_
    refine g_iconst (v := (-1)) C dX11_sheet_14 (by decide) ?_
    obtain ⟨rfl, rfl⟩ := os_e hf
    exact g_iret C rfl dX11_sheet_15
  · refine g_if_eq_f (tgt := 14) C dX11_sheet_5 (by decide) c4 ?_
    refine g_iload_n C dX11_sheet_8 rfl 3 rfl ?_
    refine g_bipush (v := 40) C dX11_sheet_9 (by decide) ?_
    rcases oi_e hf with ⟨c5, hf⟩ | ⟨c5, hf⟩
    · refine g_icmp_le_t (tgt := 16) C dX11_sheet_11 (by decide) c5 ?_
      refine g_iload_n C dX11_sheet_16 rfl 3 rfl ?_
      rcases oi_e hf with ⟨c6, hf⟩ | ⟨c6, hf⟩
      · refine g_if_ge_t (tgt := 23) C dX11_sheet_17 (by decide) c6 ?_
        refine g_aload_n C dX11_sheet_23 rfl 0 rfl ?_
        refine g_get C (a_98 ad cy _) rfl hin_X11 36 (by decide) hF_X11_38 rfl rfl dX11_sheet_24 ?_
        refine g_iload_n C dX11_sheet_27 rfl 1 rfl ?_
        refine g_iload_n C dX11_sheet_28 rfl 2 rfl ?_
        obtain ⟨h7, hf⟩ := og_e hf
        obtain ⟨σ8, eσ8, hf⟩ := ol_e hf
        refine g_iast C (a_108 ad cy _) h7 (w_108 ad cy _) eσ8 dX11_sheet_29 ?_
        refine g_aload_n C dX11_sheet_30 rfl 0 rfl ?_
        refine g_get C (a_98 ad cy _) rfl hin_X11 37 (by decide) hF_X11_41 rfl rfl dX11_sheet_31 ?_
        refine g_iload_n C dX11_sheet_34 rfl 1 rfl ?_
        refine g_iload_n C dX11_sheet_35 rfl 3 rfl ?_
        obtain ⟨h9, hf⟩ := og_e hf
        obtain ⟨σ10, eσ10, hf⟩ := ol_e hf
        refine g_iast C (a_109 ad cy _) h9 (w_109 ad cy _) eσ10 dX11_sheet_36 ?_
        refine g_iconst (v := 0) C dX11_sheet_37 (by decide) ?_
        refine g_istore (lv2 := [(0, .ref (ad 98)), (1, .int x1), (2, .int x2), (3, .int x3), (4, .int 0)]) C dX11_sheet_38 (by decide) [1, 2, 3, 4, 0] rfl ?_
        exact g_sub [0, 1, 4] rfl (fX11_sheet_h40_ok C 400 σ10 x1 0 hf)
      · refine g_if_ge_f (tgt := 23) C dX11_sheet_17 (by decide) c6 ?_
        refine g_bipush (v := (-14)) C dX11_sheet_20 (by decide) ?_
        obtain ⟨rfl, rfl⟩ := os_e hf
        exact g_iret C rfl dX11_sheet_22
    · refine g_icmp_le_f (tgt := 16) C dX11_sheet_11 (by decide) c5 ?_
      refine g_iconst (v := (-1)) C dX11_sheet_14 (by decide) ?_
      obtain ⟨rfl, rfl⟩ := os_e hf
      exact g_iret C rfl dX11_sheet_15
theorem c_X11_sheet (l : Launch) (dC : Nat → ClassId) (dI : Nat → Nat → Nat) (ad : Nat → Nat) (cy : Nat → ClassId) (x1 : Int32) (x2 : Int32) (x3 : Int32) : ConI l yX11_sheet cX11_sheet 5 (some .int) rm_X11_sheet dC dI ad cy [.ref (ad 98), .int x1, .int x2, .int x3] (fun σ => fX11_sheet σ x1 x2 x3) := con_i (own := RX11) (by decide) rfl (Nat.le_of_ble_eq_true rfl) (fun _ _ _ _ _ _ _ _ σ _ _ C hf => fX11_sheet_ok C σ x1 x2 x3 hf)
theorem cal_X11_sheet : CalV yX11_sheet RX11 cX11_sheet 5 (some .int) 3 := ⟨hI_X11_sheet, hS_X11_sheet, hIni_X11, hC_X11_sheet, by decide +kernel⟩
abbrev rm_X11_lay : Room := { frames := 2, cells := 0, slots := 0, locals := 46 }
def fX11_lay_b85  (σ : S0) (t0 : Int32) (t1 : Int32) : Option (Int32 × S0) := og (¬ (t1 < 0 ∨ 160 ≤ t1.toNatClampNeg)) (ol (su σ 110 t1.toNatClampNeg t0) (fun σ2 => some (1, σ2)))
set_option maxHeartbeats 1000000 in
set_option maxRecDepth 100000 in
theorem fX11_lay_b85_ok {p : Program} {l : Launch} {e : Env} {s : State} {m : MethodId} {args : Array Value} {below : List Frame} {meth : Method} {c : Code} {dC : Nat → ClassId} {dI : Nat → Nat → Nat} {ad : Nat → Nat} {cy : Nat → ClassId} {sz : Nat} (C : Cx p s m args meth c RX11 cX11_lay 4 (some .int) dC dI ad cy sz) {rr : Int32} {ρ : S0}  (σ : S0) (t0 : Int32) (t1 : Int32)  (hf : fX11_lay_b85 σ t0 t1 = some (rr, ρ)) : Gw p l e rm_X11_lay s m args below meth c (MQ below (QcI dC dI ad cy sz rr ρ) args s 0 0 (AW ad sz)) dC dI ad cy 4 sz 0 0 85 [] [.int t0, .int t1, .ref (ad 110)] σ := by
  unfold fX11_lay_b85 at hf
  obtain ⟨h1, hf⟩ := og_e hf
  obtain ⟨σ2, eσ2, hf⟩ := ol_e hf
  refine g_iast C (a_110 ad cy _) h1 (w_110 ad cy _) eσ2 dX11_lay_85 ?_
  refine g_iconst (v := 1) C dX11_lay_86 (by decide) ?_
  obtain ⟨rfl, rfl⟩ := os_e hf
  exact g_iret C rfl dX11_lay_87
def fX11_lay (σ : S0) (x1 : Int32) (x2 : Int32) (x3 : Int32) : Option (Int32 × S0) := obp (fX11_isSheet σ x1 ((0 : Int32))) (fun r1 σ2 => if ¬ r1 = 0 then (og (¬ (x1 < 0 ∨ 4 ≤ x1.toNatClampNeg)) (ol (σ2 108 x1.toNatClampNeg) (fun v6 => if ¬ v6 = ((-4)) then (og (¬ (x1 < 0 ∨ 4 ≤ x1.toNatClampNeg)) (ol (σ2 109 x1.toNatClampNeg) (fun v9 => obp (fX11_in σ2 x2.toInt64 ((0 : Int64)) ((v9 - 1).toInt64)) (fun r10 σ11 => if ¬ r10 = 0 then (og (¬ (x1 < 0 ∨ 4 ≤ x1.toNatClampNeg)) (ol (σ11 108 x1.toNatClampNeg) (fun v15 => if ¬ v15 = 0 then (og (¬ (x1 < 0 ∨ 4 ≤ x1.toNatClampNeg)) (ol (σ11 108 x1.toNatClampNeg) (fun v18 => if ¬ v18 = 1 then (fX11_lay_b85 σ11 x3 ((40 * x1) + x2)) else (fX11_lay_b85 σ11 x3.toInt16.toInt32 ((40 * x1) + x2))))) else (fX11_lay_b85 σ11 x3.toInt8.toInt32 ((40 * x1) + x2))))) else (some ((-12), σ11)))))) else (some ((-11), σ2))))) else (some ((-1), σ2)))
set_option maxHeartbeats 1000000 in
set_option maxRecDepth 100000 in
theorem fX11_lay_ok {p : Program} {l : Launch} {e : Env} {s : State} {m : MethodId} {args : Array Value} {below : List Frame} {meth : Method} {c : Code} {dC : Nat → ClassId} {dI : Nat → Nat → Nat} {ad : Nat → Nat} {cy : Nat → ClassId} {sz : Nat} (C : Cx p s m args meth c RX11 cX11_lay 4 (some .int) dC dI ad cy sz) {rr : Int32} {ρ : S0} (σ : S0) (x1 : Int32) (x2 : Int32) (x3 : Int32)  (hf : fX11_lay σ x1 x2 x3 = some (rr, ρ)) : Gw p l e rm_X11_lay s m args below meth c (MQ below (QcI dC dI ad cy sz rr ρ) args s 0 0 (AW ad sz)) dC dI ad cy 4 sz 0 0 0 [(0, .ref (ad 98)), (1, .int x1), (2, .int x2), (3, .int x3)] [] σ := by
  unfold fX11_lay at hf
  refine g_iload_n C dX11_lay_0 rfl 1 rfl ?_
  refine g_iconst (v := 0) C dX11_lay_1 (by decide) ?_
  obtain ⟨r1, σ2, h3, hf⟩ := obp_e hf
  refine g_callSi (As := [.int x1, .int 0]) (rest := []) C (c_X11_isSheet l dC dI ad cy x1 ((0 : Int32))) h3 hM_X11_310 cal_X11_isSheet ⟨Nat.zero_le _, Nat.zero_le _⟩ ⟨rfl, rfl⟩ ⟨Nat.le_of_ble_eq_true rfl, Nat.le_of_ble_eq_true rfl⟩ rfl rfl (Nat.le_of_ble_eq_true rfl) dX11_lay_2 ?_
  rcases oi_e hf with ⟨c4, hf⟩ | ⟨c4, hf⟩
  · refine g_if_ne_t (tgt := 10) C dX11_lay_5 (by decide) c4 ?_
    refine g_aload_n C dX11_lay_10 rfl 0 rfl ?_
    refine g_get C (a_98 ad cy _) rfl hin_X11 36 (by decide) hF_X11_38 rfl rfl dX11_lay_11 ?_
    refine g_iload_n C dX11_lay_14 rfl 1 rfl ?_
    obtain ⟨h5, hf⟩ := og_e hf
    refine g_iald C (a_108 ad cy _) h5 dX11_lay_15 ?_
    obtain ⟨v6, ev6, hf⟩ := ol_e hf
    refine g_nm ev6 ?_
    refine g_bipush (v := (-4)) C dX11_lay_16 (by decide) ?_
    rcases oi_e hf with ⟨c7, hf⟩ | ⟨c7, hf⟩
    · refine g_icmp_ne_t (tgt := 24) C dX11_lay_18 (by decide) c7 ?_
      refine g_iload_n C dX11_lay_24 rfl 2 rfl ?_
      refine g_i2l C dX11_lay_25 ?_
      refine g_lconst (v := 0) C dX11_lay_26 (by decide) ?_
      refine g_aload_n C dX11_lay_27 rfl 0 rfl ?_
      refine g_get C (a_98 ad cy _) rfl hin_X11 37 (by decide) hF_X11_41 rfl rfl dX11_lay_28 ?_
      refine g_iload_n C dX11_lay_31 rfl 1 rfl ?_
      obtain ⟨h8, hf⟩ := og_e hf
      refine g_iald C (a_109 ad cy _) h8 dX11_lay_32 ?_
      obtain ⟨v9, ev9, hf⟩ := ol_e hf
      refine g_nm ev9 ?_
      refine g_iconst (v := 1) C dX11_lay_33 (by decide) ?_
      refine g_isub C dX11_lay_34 ?_
      refine g_i2l C dX11_lay_35 ?_
      obtain ⟨r10, σ11, h12, hf⟩ := obp_e hf
      refine g_callSi (As := [.long x2.toInt64, .long 0, .long ((v9 - 1).toInt64)]) (rest := []) C (c_X11_in l dC dI ad cy x2.toInt64 ((0 : Int64)) ((v9 - 1).toInt64)) h12 hM_X11_92 cal_X11_in ⟨Nat.zero_le _, Nat.zero_le _⟩ ⟨rfl, rfl⟩ ⟨Nat.le_of_ble_eq_true rfl, Nat.le_of_ble_eq_true rfl⟩ rfl rfl (Nat.le_of_ble_eq_true rfl) dX11_lay_36 ?_
      rcases oi_e hf with ⟨c13, hf⟩ | ⟨c13, hf⟩
      · refine g_if_ne_t (tgt := 45) C dX11_lay_39 (by decide) c13 ?_
        refine g_aload_n C dX11_lay_45 rfl 0 rfl ?_
        refine g_get C (a_98 ad cy _) rfl hin_X11 38 (by decide) hF_X11_44 rfl rfl dX11_lay_46 ?_
        refine g_bipush (v := 40) C dX11_lay_49 (by decide) ?_
        refine g_iload_n C dX11_lay_51 rfl 1 rfl ?_
        refine g_imul C dX11_lay_52 ?_
        refine g_iload_n C dX11_lay_53 rfl 2 rfl ?_
        refine g_iadd C dX11_lay_54 ?_
        refine g_aload_n C dX11_lay_55 rfl 0 rfl ?_
        refine g_get C (a_98 ad cy _) rfl hin_X11 36 (by decide) hF_X11_38 rfl rfl dX11_lay_56 ?_
        refine g_iload_n C dX11_lay_59 rfl 1 rfl ?_
        obtain ⟨h14, hf⟩ := og_e hf
        refine g_iald C (a_108 ad cy _) h14 dX11_lay_60 ?_
        obtain ⟨v15, ev15, hf⟩ := ol_e hf
        refine g_nm ev15 ?_
        rcases oi_e hf with ⟨c16, hf⟩ | ⟨c16, hf⟩
        · refine g_if_ne_t (tgt := 69) C dX11_lay_61 (by decide) c16 ?_
          refine g_aload_n C dX11_lay_69 rfl 0 rfl ?_
          refine g_get C (a_98 ad cy _) rfl hin_X11 36 (by decide) hF_X11_38 rfl rfl dX11_lay_70 ?_
          refine g_iload_n C dX11_lay_73 rfl 1 rfl ?_
          obtain ⟨h17, hf⟩ := og_e hf
          refine g_iald C (a_108 ad cy _) h17 dX11_lay_74 ?_
          obtain ⟨v18, ev18, hf⟩ := ol_e hf
          refine g_nm ev18 ?_
          refine g_iconst (v := 1) C dX11_lay_75 (by decide) ?_
          rcases oi_e hf with ⟨c19, hf⟩ | ⟨c19, hf⟩
          · refine g_icmp_ne_t (tgt := 84) C dX11_lay_76 (by decide) c19 ?_
            refine g_iload_n C dX11_lay_84 rfl 3 rfl ?_
            exact g_sub [] rfl (fX11_lay_b85_ok C σ11 x3 ((40 * x1) + x2) hf)
          · refine g_icmp_ne_f (tgt := 84) C dX11_lay_76 (by decide) (Decidable.of_not_not c19) ?_
            refine g_iload_n C dX11_lay_79 rfl 3 rfl ?_
            refine g_i2s C dX11_lay_80 ?_
            refine g_goto (tgt := 85) C dX11_lay_81 (by decide) ?_
            exact g_sub [] rfl (fX11_lay_b85_ok C σ11 x3.toInt16.toInt32 ((40 * x1) + x2) hf)
        · refine g_if_ne_f (tgt := 69) C dX11_lay_61 (by decide) (Decidable.of_not_not c16) ?_
          refine g_iload_n C dX11_lay_64 rfl 3 rfl ?_
          refine g_i2b C dX11_lay_65 ?_
          refine g_goto (tgt := 85) C dX11_lay_66 (by decide) ?_
          exact g_sub [] rfl (fX11_lay_b85_ok C σ11 x3.toInt8.toInt32 ((40 * x1) + x2) hf)
      · refine g_if_ne_f (tgt := 45) C dX11_lay_39 (by decide) (Decidable.of_not_not c13) ?_
        refine g_bipush (v := (-12)) C dX11_lay_42 (by decide) ?_
        obtain ⟨rfl, rfl⟩ := os_e hf
        exact g_iret C rfl dX11_lay_44
    · refine g_icmp_ne_f (tgt := 24) C dX11_lay_18 (by decide) (Decidable.of_not_not c7) ?_
      refine g_bipush (v := (-11)) C dX11_lay_21 (by decide) ?_
      obtain ⟨rfl, rfl⟩ := os_e hf
      exact g_iret C rfl dX11_lay_23
  · refine g_if_ne_f (tgt := 10) C dX11_lay_5 (by decide) (Decidable.of_not_not c4) ?_
    refine g_iconst (v := (-1)) C dX11_lay_8 (by decide) ?_
    obtain ⟨rfl, rfl⟩ := os_e hf
    exact g_iret C rfl dX11_lay_9
theorem c_X11_lay (l : Launch) (dC : Nat → ClassId) (dI : Nat → Nat → Nat) (ad : Nat → Nat) (cy : Nat → ClassId) (x1 : Int32) (x2 : Int32) (x3 : Int32) : ConI l yX11_lay cX11_lay 4 (some .int) rm_X11_lay dC dI ad cy [.ref (ad 98), .int x1, .int x2, .int x3] (fun σ => fX11_lay σ x1 x2 x3) := con_i (own := RX11) (by decide) rfl (Nat.le_of_ble_eq_true rfl) (fun _ _ _ _ _ _ _ _ σ _ _ C hf => fX11_lay_ok C σ x1 x2 x3 hf)
theorem cal_X11_lay : CalV yX11_lay RX11 cX11_lay 4 (some .int) 3 := ⟨hI_X11_lay, hS_X11_lay, hIni_X11, hC_X11_lay, by decide +kernel⟩
abbrev rm_X11_read : Room := { frames := 3, cells := 0, slots := 0, locals := 67 }
def fX11_read_b176 (sf_41 : S0 → Int32 → Int32 → Int32 → Int32 → Int32 → Int32 → Int32 → Int32 → Option (Int32 × S0)) (σ : S0) (x1 : Int32) (x2 : Int32) (x3 : Int32) (x4 : Int32) (x5 : Int32) (x6 : Int32) (x7 : Int32) (x8 : Int32) : Option (Int32 × S0) := ol (x8 + 1) (fun v1 => sf_41 σ x1 x2 x3 x4 x5 x6 x7 v1)
set_option maxHeartbeats 1000000 in
set_option maxRecDepth 100000 in
theorem fX11_read_b176_ok {p : Program} {l : Launch} {e : Env} {s : State} {m : MethodId} {args : Array Value} {below : List Frame} {meth : Method} {c : Code} {dC : Nat → ClassId} {dI : Nat → Nat → Nat} {ad : Nat → Nat} {cy : Nat → ClassId} {sz : Nat} (C : Cx p s m args meth c RX11 cX11_read 12 (some .int) dC dI ad cy sz) {rr : Int32} {ρ : S0} (sf_41 : S0 → Int32 → Int32 → Int32 → Int32 → Int32 → Int32 → Int32 → Int32 → Option (Int32 × S0)) (hs_41 : ∀ (σ : S0) (x1 : Int32) (x2 : Int32) (x3 : Int32) (x4 : Int32) (x5 : Int32) (x6 : Int32) (x7 : Int32) (x8 : Int32) , sf_41 σ x1 x2 x3 x4 x5 x6 x7 x8 = some (rr, ρ) → Gw p l e rm_X11_read s m args below meth c (MQ below (QcI dC dI ad cy sz rr ρ) args s 0 0 (AW ad sz)) dC dI ad cy 12 sz 0 0 41 [(0, .ref (ad 98)), (1, .int x1), (2, .int x2), (3, .int x3), (4, .int x4), (5, .int x5), (6, .int x6), (7, .int x7), (8, .int x8)] [] σ) (σ : S0) (x1 : Int32) (x2 : Int32) (x3 : Int32) (x4 : Int32) (x5 : Int32) (x6 : Int32) (x7 : Int32) (x8 : Int32)  (hf : fX11_read_b176 sf_41 σ x1 x2 x3 x4 x5 x6 x7 x8 = some (rr, ρ)) : Gw p l e rm_X11_read s m args below meth c (MQ below (QcI dC dI ad cy sz rr ρ) args s 0 0 (AW ad sz)) dC dI ad cy 12 sz 0 0 176 [(0, .ref (ad 98)), (1, .int x1), (2, .int x2), (3, .int x3), (4, .int x4), (5, .int x5), (6, .int x6), (7, .int x7), (8, .int x8)] [] σ := by
  unfold fX11_read_b176 at hf
  obtain ⟨v1, ev1, hf⟩ := ol_e hf
  refine g_iinc (j := 8) (w := 1) (lv2 := [(0, .ref (ad 98)), (1, .int x1), (2, .int x2), (3, .int x3), (4, .int x4), (5, .int x5), (6, .int x6), (7, .int x7), (8, .int v1)]) C dX11_read_176 rfl (by decide) ev1 (by decide) [1, 2, 3, 4, 5, 6, 7, 8, 0] rfl ?_
  refine g_goto (tgt := 41) C dX11_read_179 (by decide) ?_
  exact g_sub [0, 1, 2, 3, 4, 5, 6, 7, 8] rfl (hs_41 σ x1 x2 x3 x4 x5 x6 x7 v1 hf)
def fX11_read_b115 (sf_41 : S0 → Int32 → Int32 → Int32 → Int32 → Int32 → Int32 → Int32 → Int32 → Option (Int32 × S0)) (σ : S0) (x1 : Int32) (x2 : Int32) (x3 : Int32) (x4 : Int32) (x5 : Int32) (x7 : Int32) (x8 : Int32) (t0 : Int32) : Option (Int32 × S0) := if ¬ t0 = 0 then (fX11_read_b176 sf_41 σ x1 x2 x3 x4 x5 t0 x7 x8) else (ol (((40 * x1) + x3) + x8) (fun v2 => og (¬ (v2 < 0 ∨ 160 ≤ v2.toNatClampNeg)) (ol (σ 110 v2.toNatClampNeg) (fun v4 => obp (fX11_hear σ v4) (fun r5 σ6 => if 0 ≤ r5 then (ol (x7 + 1) (fun v9 => fX11_read_b176 sf_41 σ6 x1 x2 x3 x4 x5 t0 v9 x8)) else (og (¬ (((66 : Int32)) < 0 ∨ 240 ≤ ((66 : Int32)).toNatClampNeg)) (ol (su σ6 99 ((66 : Int32)).toNatClampNeg x5) (fun σ11 => if ¬ r5 = ((-1)) then (some ((-3), σ11)) else (some (((-20)) - x8, σ11))))))))))
set_option maxHeartbeats 1000000 in
set_option maxRecDepth 100000 in
theorem fX11_read_b115_ok {p : Program} {l : Launch} {e : Env} {s : State} {m : MethodId} {args : Array Value} {below : List Frame} {meth : Method} {c : Code} {dC : Nat → ClassId} {dI : Nat → Nat → Nat} {ad : Nat → Nat} {cy : Nat → ClassId} {sz : Nat} (C : Cx p s m args meth c RX11 cX11_read 12 (some .int) dC dI ad cy sz) {rr : Int32} {ρ : S0} (sf_41 : S0 → Int32 → Int32 → Int32 → Int32 → Int32 → Int32 → Int32 → Int32 → Option (Int32 × S0)) (hs_41 : ∀ (σ : S0) (x1 : Int32) (x2 : Int32) (x3 : Int32) (x4 : Int32) (x5 : Int32) (x6 : Int32) (x7 : Int32) (x8 : Int32) , sf_41 σ x1 x2 x3 x4 x5 x6 x7 x8 = some (rr, ρ) → Gw p l e rm_X11_read s m args below meth c (MQ below (QcI dC dI ad cy sz rr ρ) args s 0 0 (AW ad sz)) dC dI ad cy 12 sz 0 0 41 [(0, .ref (ad 98)), (1, .int x1), (2, .int x2), (3, .int x3), (4, .int x4), (5, .int x5), (6, .int x6), (7, .int x7), (8, .int x8)] [] σ) (σ : S0) (x1 : Int32) (x2 : Int32) (x3 : Int32) (x4 : Int32) (x5 : Int32) (x7 : Int32) (x8 : Int32) (t0 : Int32)  (hf : fX11_read_b115 sf_41 σ x1 x2 x3 x4 x5 x7 x8 t0 = some (rr, ρ)) : Gw p l e rm_X11_read s m args below meth c (MQ below (QcI dC dI ad cy sz rr ρ) args s 0 0 (AW ad sz)) dC dI ad cy 12 sz 0 0 115 [(0, .ref (ad 98)), (1, .int x1), (2, .int x2), (3, .int x3), (4, .int x4), (5, .int x5), (7, .int x7), (8, .int x8)] [.int t0] σ := by
  unfold fX11_read_b115 at hf
  refine g_istore (lv2 := [(0, .ref (ad 98)), (1, .int x1), (2, .int x2), (3, .int x3), (4, .int x4), (5, .int x5), (6, .int t0), (7, .int x7), (8, .int x8)]) C dX11_read_115 (by decide) [1, 2, 3, 4, 5, 6, 0, 7, 8] rfl ?_
  refine g_iload C dX11_read_117 6 rfl ?_
  rcases oi_e hf with ⟨c1, hf⟩ | ⟨c1, hf⟩
  · refine g_if_ne_t (tgt := 176) C dX11_read_119 (by decide) c1 ?_
    exact g_sub [0, 1, 2, 3, 4, 5, 6, 7, 8] rfl (fX11_read_b176_ok C sf_41 hs_41 σ x1 x2 x3 x4 x5 t0 x7 x8 hf)
  · refine g_if_ne_f (tgt := 176) C dX11_read_119 (by decide) (Decidable.of_not_not c1) ?_
    refine g_aload_n C dX11_read_122 rfl 0 rfl ?_
    refine g_aload_n C dX11_read_123 rfl 0 rfl ?_
    refine g_get C (a_98 ad cy _) rfl hin_X11 38 (by decide) hF_X11_44 rfl rfl dX11_read_124 ?_
    refine g_bipush (v := 40) C dX11_read_127 (by decide) ?_
    refine g_iload_n C dX11_read_129 rfl 1 rfl ?_
    refine g_imul C dX11_read_130 ?_
    refine g_iload_n C dX11_read_131 rfl 3 rfl ?_
    refine g_iadd C dX11_read_132 ?_
    refine g_iload C dX11_read_133 8 rfl ?_
    refine g_iadd C dX11_read_135 ?_
    obtain ⟨v2, ev2, hf⟩ := ol_e hf
    refine g_nm ev2 ?_
    obtain ⟨h3, hf⟩ := og_e hf
    refine g_iald C (a_110 ad cy _) h3 dX11_read_136 ?_
    obtain ⟨v4, ev4, hf⟩ := ol_e hf
    refine g_nm ev4 ?_
    obtain ⟨r5, σ6, h7, hf⟩ := obp_e hf
    refine g_callVi (As := [.int v4]) (rest := []) C (a_98 ad cy _) rfl (c_X11_hear l dC dI ad cy v4) h7 hM_X11_315 cal_X11_hear ⟨Nat.zero_le _, Nat.zero_le _⟩ ⟨rfl, rfl⟩ ⟨Nat.le_of_ble_eq_true rfl, Nat.le_of_ble_eq_true rfl⟩ rfl rfl (Nat.le_of_ble_eq_true rfl) dX11_read_137 ?_
    refine g_istore (lv2 := [(0, .ref (ad 98)), (1, .int x1), (2, .int x2), (3, .int x3), (4, .int x4), (5, .int x5), (6, .int t0), (7, .int x7), (8, .int x8), (11, .int r5)]) C dX11_read_140 (by decide) [1, 2, 3, 4, 5, 6, 7, 8, 9, 0] rfl ?_
    refine g_iload C dX11_read_142 9 rfl ?_
    rcases oi_e hf with ⟨c8, hf⟩ | ⟨c8, hf⟩
    · refine g_if_ge_t (tgt := 173) C dX11_read_144 (by decide) c8 ?_
      obtain ⟨v9, ev9, hf⟩ := ol_e hf
      refine g_iinc (j := 7) (w := 1) (lv2 := [(0, .ref (ad 98)), (1, .int x1), (2, .int x2), (3, .int x3), (4, .int x4), (5, .int x5), (6, .int t0), (7, .int v9), (8, .int x8), (11, .int r5)]) C dX11_read_173 rfl (by decide) ev9 (by decide) [1, 2, 3, 4, 5, 6, 7, 0, 8, 9] rfl ?_
      exact g_sub [0, 1, 2, 3, 4, 5, 6, 7, 8] rfl (fX11_read_b176_ok C sf_41 hs_41 σ6 x1 x2 x3 x4 x5 t0 v9 x8 hf)
    · refine g_if_ge_f (tgt := 173) C dX11_read_144 (by decide) c8 ?_
      refine g_aload_n C dX11_read_147 rfl 0 rfl ?_
      refine g_get C (a_98 ad cy _) rfl hin_X11 0 (by decide) hF_X11_7 rfl rfl dX11_read_148 ?_
      refine g_bipush (v := 66) C dX11_read_151 (by decide) ?_
      refine g_iload C dX11_read_153 5 rfl ?_
      obtain ⟨h10, hf⟩ := og_e hf
      obtain ⟨σ11, eσ11, hf⟩ := ol_e hf
      refine g_iast C (a_99 ad cy _) h10 (w_99 ad cy _) eσ11 dX11_read_155 ?_
      refine g_iload C dX11_read_156 9 rfl ?_
      refine g_iconst (v := (-1)) C dX11_read_158 (by decide) ?_
      rcases oi_e hf with ⟨c12, hf⟩ | ⟨c12, hf⟩
      · refine g_icmp_ne_t (tgt := 170) C dX11_read_159 (by decide) c12 ?_
        refine g_bipush (v := (-3)) C dX11_read_170 (by decide) ?_
        obtain ⟨rfl, rfl⟩ := os_e hf
        exact g_iret C rfl dX11_read_172
      · refine g_icmp_ne_f (tgt := 170) C dX11_read_159 (by decide) (Decidable.of_not_not c12) ?_
        refine g_bipush (v := (-20)) C dX11_read_162 (by decide) ?_
        refine g_iload C dX11_read_164 8 rfl ?_
        refine g_isub C dX11_read_166 ?_
        refine g_goto (tgt := 172) C dX11_read_167 (by decide) ?_
        obtain ⟨rfl, rfl⟩ := os_e hf
        exact g_iret C rfl dX11_read_172
def fX11_read_b110 (sf_41 : S0 → Int32 → Int32 → Int32 → Int32 → Int32 → Int32 → Int32 → Int32 → Option (Int32 × S0)) (σ : S0) (x1 : Int32) (x2 : Int32) (x3 : Int32) (x4 : Int32) (x5 : Int32) (x7 : Int32) (x8 : Int32) : Option (Int32 × S0) := fX11_read_b115 sf_41 σ x1 x2 x3 x4 x5 x7 x8 2
set_option maxHeartbeats 1000000 in
set_option maxRecDepth 100000 in
theorem fX11_read_b110_ok {p : Program} {l : Launch} {e : Env} {s : State} {m : MethodId} {args : Array Value} {below : List Frame} {meth : Method} {c : Code} {dC : Nat → ClassId} {dI : Nat → Nat → Nat} {ad : Nat → Nat} {cy : Nat → ClassId} {sz : Nat} (C : Cx p s m args meth c RX11 cX11_read 12 (some .int) dC dI ad cy sz) {rr : Int32} {ρ : S0} (sf_41 : S0 → Int32 → Int32 → Int32 → Int32 → Int32 → Int32 → Int32 → Int32 → Option (Int32 × S0)) (hs_41 : ∀ (σ : S0) (x1 : Int32) (x2 : Int32) (x3 : Int32) (x4 : Int32) (x5 : Int32) (x6 : Int32) (x7 : Int32) (x8 : Int32) , sf_41 σ x1 x2 x3 x4 x5 x6 x7 x8 = some (rr, ρ) → Gw p l e rm_X11_read s m args below meth c (MQ below (QcI dC dI ad cy sz rr ρ) args s 0 0 (AW ad sz)) dC dI ad cy 12 sz 0 0 41 [(0, .ref (ad 98)), (1, .int x1), (2, .int x2), (3, .int x3), (4, .int x4), (5, .int x5), (6, .int x6), (7, .int x7), (8, .int x8)] [] σ) (σ : S0) (x1 : Int32) (x2 : Int32) (x3 : Int32) (x4 : Int32) (x5 : Int32) (x7 : Int32) (x8 : Int32)  (hf : fX11_read_b110 sf_41 σ x1 x2 x3 x4 x5 x7 x8 = some (rr, ρ)) : Gw p l e rm_X11_read s m args below meth c (MQ below (QcI dC dI ad cy sz rr ρ) args s 0 0 (AW ad sz)) dC dI ad cy 12 sz 0 0 110 [(0, .ref (ad 98)), (1, .int x1), (2, .int x2), (3, .int x3), (4, .int x4), (5, .int x5), (7, .int x7), (8, .int x8)] [] σ := by
  unfold fX11_read_b110 at hf
  refine g_iconst (v := 2) C dX11_read_110 (by decide) ?_
  refine g_goto (tgt := 115) C dX11_read_111 (by decide) ?_
  exact g_sub [0, 1, 2, 3, 4, 5, 6, 7] rfl (fX11_read_b115_ok C sf_41 hs_41 σ x1 x2 x3 x4 x5 x7 x8 2 hf)
def fX11_read_b182  (σ : S0) (x6 : Int32) (x7 : Int32) : Option (Int32 × S0) := ol (su σ 98 39 x6) (fun σ1 => some (x7, σ1))
set_option maxHeartbeats 1000000 in
set_option maxRecDepth 100000 in
theorem fX11_read_b182_ok {p : Program} {l : Launch} {e : Env} {s : State} {m : MethodId} {args : Array Value} {below : List Frame} {meth : Method} {c : Code} {dC : Nat → ClassId} {dI : Nat → Nat → Nat} {ad : Nat → Nat} {cy : Nat → ClassId} {sz : Nat} (C : Cx p s m args meth c RX11 cX11_read 12 (some .int) dC dI ad cy sz) {rr : Int32} {ρ : S0}  (σ : S0) (x6 : Int32) (x7 : Int32)  (hf : fX11_read_b182 σ x6 x7 = some (rr, ρ)) : Gw p l e rm_X11_read s m args below meth c (MQ below (QcI dC dI ad cy sz rr ρ) args s 0 0 (AW ad sz)) dC dI ad cy 12 sz 0 0 182 [(0, .ref (ad 98)), (6, .int x6), (7, .int x7)] [] σ := by
  unfold fX11_read_b182 at hf
  refine g_aload_n C dX11_read_182 rfl 0 rfl ?_
  refine g_iload C dX11_read_183 1 rfl ?_
  obtain ⟨σ1, eσ1, hf⟩ := ol_e hf
  refine g_put (ty := .int) C (a_98 ad cy _) rfl hin_X11 tyX11 tyX11_ok nmX11 39 (by decide) hF_X11_318 rfl rfl (by decide +kernel) rfl rfl (Nat.le_of_ble_eq_true rfl) (p_98_39 ad cy _ _) eσ1 dX11_read_185 ?_
  refine g_iload C dX11_read_188 2 rfl ?_
  obtain ⟨rfl, rfl⟩ := os_e hf
  exact g_iret C rfl dX11_read_190
def fX11_read_b41 (sf_41 : S0 → Int32 → Int32 → Int32 → Int32 → Int32 → Int32 → Int32 → Int32 → Option (Int32 × S0)) (σ : S0) (x1 : Int32) (x2 : Int32) (x3 : Int32) (x4 : Int32) (x5 : Int32) (x6 : Int32) (x7 : Int32) (x8 : Int32) : Option (Int32 × S0) := if x4 ≤ x8 then (fX11_read_b182 σ x6 x7) else (if ¬ x6 = 0 then (fX11_read_b182 σ x6 x7) else (ol (x3.toInt64 + x8.toInt64) (fun w3 => og (¬ (x1 < 0 ∨ 4 ≤ x1.toNatClampNeg)) (ol (σ 108 x1.toNatClampNeg) (fun v5 => if ¬ v5 = ((-4)) then (og (¬ (x1 < 0 ∨ 4 ≤ x1.toNatClampNeg)) (ol (σ 108 x1.toNatClampNeg) (fun v8 => if v8 = x2 then (if (lg_cmp w3 0) < 0 then (fX11_read_b110 sf_41 σ x1 x2 x3 x4 x5 x7 x8) else (og (¬ (x1 < 0 ∨ 4 ≤ x1.toNatClampNeg)) (ol (σ 109 x1.toNatClampNeg) (fun v12 => if (lg_cmp w3 v12.toInt64) < 0 then (fX11_read_b115 sf_41 σ x1 x2 x3 x4 x5 x7 x8 0) else (fX11_read_b110 sf_41 σ x1 x2 x3 x4 x5 x7 x8))))) else (fX11_read_b115 sf_41 σ x1 x2 x3 x4 x5 x7 x8 3)))) else (fX11_read_b115 sf_41 σ x1 x2 x3 x4 x5 x7 x8 1))))))
set_option maxHeartbeats 1000000 in
set_option maxRecDepth 100000 in
theorem fX11_read_b41_ok {p : Program} {l : Launch} {e : Env} {s : State} {m : MethodId} {args : Array Value} {below : List Frame} {meth : Method} {c : Code} {dC : Nat → ClassId} {dI : Nat → Nat → Nat} {ad : Nat → Nat} {cy : Nat → ClassId} {sz : Nat} (C : Cx p s m args meth c RX11 cX11_read 12 (some .int) dC dI ad cy sz) {rr : Int32} {ρ : S0} (sf_41 : S0 → Int32 → Int32 → Int32 → Int32 → Int32 → Int32 → Int32 → Int32 → Option (Int32 × S0)) (hs_41 : ∀ (σ : S0) (x1 : Int32) (x2 : Int32) (x3 : Int32) (x4 : Int32) (x5 : Int32) (x6 : Int32) (x7 : Int32) (x8 : Int32) , sf_41 σ x1 x2 x3 x4 x5 x6 x7 x8 = some (rr, ρ) → Gw p l e rm_X11_read s m args below meth c (MQ below (QcI dC dI ad cy sz rr ρ) args s 0 0 (AW ad sz)) dC dI ad cy 12 sz 0 0 41 [(0, .ref (ad 98)), (1, .int x1), (2, .int x2), (3, .int x3), (4, .int x4), (5, .int x5), (6, .int x6), (7, .int x7), (8, .int x8)] [] σ) (σ : S0) (x1 : Int32) (x2 : Int32) (x3 : Int32) (x4 : Int32) (x5 : Int32) (x6 : Int32) (x7 : Int32) (x8 : Int32)  (hf : fX11_read_b41 sf_41 σ x1 x2 x3 x4 x5 x6 x7 x8 = some (rr, ρ)) : Gw p l e rm_X11_read s m args below meth c (MQ below (QcI dC dI ad cy sz rr ρ) args s 0 0 (AW ad sz)) dC dI ad cy 12 sz 0 0 41 [(0, .ref (ad 98)), (1, .int x1), (2, .int x2), (3, .int x3), (4, .int x4), (5, .int x5), (6, .int x6), (7, .int x7), (8, .int x8)] [] σ := by
  unfold fX11_read_b41 at hf
  refine g_iload C dX11_read_41 8 rfl ?_
  refine g_iload C dX11_read_43 4 rfl ?_
  rcases oi_e hf with ⟨c1, hf⟩ | ⟨c1, hf⟩
  · refine g_icmp_ge_t (tgt := 182) C dX11_read_45 (by decide) c1 ?_
    exact g_sub [0, 6, 7] rfl (fX11_read_b182_ok C σ x6 x7 hf)
  · refine g_icmp_ge_f (tgt := 182) C dX11_read_45 (by decide) c1 ?_
    refine g_iload C dX11_read_48 6 rfl ?_
    rcases oi_e hf with ⟨c2, hf⟩ | ⟨c2, hf⟩
    · refine g_if_ne_t (tgt := 182) C dX11_read_50 (by decide) c2 ?_
      exact g_sub [0, 6, 7] rfl (fX11_read_b182_ok C σ x6 x7 hf)
    · refine g_if_ne_f (tgt := 182) C dX11_read_50 (by decide) (Decidable.of_not_not c2) ?_
      refine g_iload_n C dX11_read_53 rfl 3 rfl ?_
      refine g_i2l C dX11_read_54 ?_
      refine g_iload C dX11_read_55 8 rfl ?_
      refine g_i2l C dX11_read_57 ?_
      refine g_ladd C dX11_read_58 ?_
      obtain ⟨w3, ew3, hf⟩ := ol_e hf
      refine g_nml ew3 ?_
      refine g_lstore (lv2 := [(0, .ref (ad 98)), (1, .int x1), (2, .int x2), (3, .int x3), (4, .int x4), (5, .int x5), (6, .int x6), (7, .int x7), (8, .int x8), (9, .long w3)]) C dX11_read_59 (by decide) [1, 2, 3, 4, 5, 6, 7, 8, 9, 0] rfl ?_
      refine g_aload_n C dX11_read_61 rfl 0 rfl ?_
      refine g_get C (a_98 ad cy _) rfl hin_X11 36 (by decide) hF_X11_38 rfl rfl dX11_read_62 ?_
      refine g_iload_n C dX11_read_65 rfl 1 rfl ?_
      obtain ⟨h4, hf⟩ := og_e hf
      refine g_iald C (a_108 ad cy _) h4 dX11_read_66 ?_
      obtain ⟨v5, ev5, hf⟩ := ol_e hf
      refine g_nm ev5 ?_
      refine g_bipush (v := (-4)) C dX11_read_67 (by decide) ?_
      rcases oi_e hf with ⟨c6, hf⟩ | ⟨c6, hf⟩
      · refine g_icmp_ne_t (tgt := 76) C dX11_read_69 (by decide) c6 ?_
        refine g_aload_n C dX11_read_76 rfl 0 rfl ?_
        refine g_get C (a_98 ad cy _) rfl hin_X11 36 (by decide) hF_X11_38 rfl rfl dX11_read_77 ?_
        refine g_iload_n C dX11_read_80 rfl 1 rfl ?_
        obtain ⟨h7, hf⟩ := og_e hf
        refine g_iald C (a_108 ad cy _) h7 dX11_read_81 ?_
        obtain ⟨v8, ev8, hf⟩ := ol_e hf
        refine g_nm ev8 ?_
        refine g_iload_n C dX11_read_82 rfl 2 rfl ?_
        rcases oi_e hf with ⟨c9, hf⟩ | ⟨c9, hf⟩
        · refine g_icmp_eq_t (tgt := 90) C dX11_read_83 (by decide) c9 ?_
          refine g_lload C dX11_read_90 9 rfl ?_
          refine g_lconst (v := 0) C dX11_read_92 (by decide) ?_
          refine g_lcmp C dX11_read_93 ?_
          rcases oi_e hf with ⟨c10, hf⟩ | ⟨c10, hf⟩
          · refine g_if_lt_t (tgt := 110) C dX11_read_94 (by decide) c10 ?_
            exact g_sub [0, 1, 2, 3, 4, 5, 7, 8] rfl (fX11_read_b110_ok C sf_41 hs_41 σ x1 x2 x3 x4 x5 x7 x8 hf)
          · refine g_if_lt_f (tgt := 110) C dX11_read_94 (by decide) c10 ?_
            refine g_lload C dX11_read_97 9 rfl ?_
            refine g_aload_n C dX11_read_99 rfl 0 rfl ?_
            refine g_get C (a_98 ad cy _) rfl hin_X11 37 (by decide) hF_X11_41 rfl rfl dX11_read_100 ?_
            refine g_iload_n C dX11_read_103 rfl 1 rfl ?_
            obtain ⟨h11, hf⟩ := og_e hf
            refine g_iald C (a_109 ad cy _) h11 dX11_read_104 ?_
            obtain ⟨v12, ev12, hf⟩ := ol_e hf
            refine g_nm ev12 ?_
            refine g_i2l C dX11_read_105 ?_
            refine g_lcmp C dX11_read_106 ?_
            rcases oi_e hf with ⟨c13, hf⟩ | ⟨c13, hf⟩
            · refine g_if_lt_t (tgt := 114) C dX11_read_107 (by decide) c13 ?_
              refine g_iconst (v := 0) C dX11_read_114 (by decide) ?_
              exact g_sub [0, 1, 2, 3, 4, 5, 7, 8] rfl (fX11_read_b115_ok C sf_41 hs_41 σ x1 x2 x3 x4 x5 x7 x8 0 hf)
            · refine g_if_lt_f (tgt := 114) C dX11_read_107 (by decide) c13 ?_
              exact g_sub [0, 1, 2, 3, 4, 5, 7, 8] rfl (fX11_read_b110_ok C sf_41 hs_41 σ x1 x2 x3 x4 x5 x7 x8 hf)
        · refine g_icmp_eq_f (tgt := 90) C dX11_read_83 (by decide) c9 ?_
          refine g_iconst (v := 3) C dX11_read_86 (by decide) ?_
          refine g_goto (tgt := 115) C dX11_read_87 (by decide) ?_
          exact g_sub [0, 1, 2, 3, 4, 5, 7, 8] rfl (fX11_read_b115_ok C sf_41 hs_41 σ x1 x2 x3 x4 x5 x7 x8 3 hf)
      · refine g_icmp_ne_f (tgt := 76) C dX11_read_69 (by decide) (Decidable.of_not_not c6) ?_
        refine g_iconst (v := 1) C dX11_read_72 (by decide) ?_
        refine g_goto (tgt := 115) C dX11_read_73 (by decide) ?_
        exact g_sub [0, 1, 2, 3, 4, 5, 7, 8] rfl (fX11_read_b115_ok C sf_41 hs_41 σ x1 x2 x3 x4 x5 x7 x8 1 hf)
def fX11_read_h41  : Nat → S0 → Int32 → Int32 → Int32 → Int32 → Int32 → Int32 → Int32 → Int32 → Option (Int32 × S0)
  | 0 => fun _ _ _ _ _ _ _ _ _ => none
  | n + 1 => fun σ x1 x2 x3 x4 x5 x6 x7 x8 => fX11_read_b41  (fX11_read_h41  n) σ x1 x2 x3 x4 x5 x6 x7 x8
set_option maxHeartbeats 1000000 in
set_option maxRecDepth 100000 in
theorem fX11_read_h41_ok {p : Program} {l : Launch} {e : Env} {s : State} {m : MethodId} {args : Array Value} {below : List Frame} {meth : Method} {c : Code} {dC : Nat → ClassId} {dI : Nat → Nat → Nat} {ad : Nat → Nat} {cy : Nat → ClassId} {sz : Nat} (C : Cx p s m args meth c RX11 cX11_read 12 (some .int) dC dI ad cy sz) {rr : Int32} {ρ : S0}  : ∀ (n : Nat) (σ : S0) (x1 : Int32) (x2 : Int32) (x3 : Int32) (x4 : Int32) (x5 : Int32) (x6 : Int32) (x7 : Int32) (x8 : Int32)  (_hf : fX11_read_h41  n σ x1 x2 x3 x4 x5 x6 x7 x8 = some (rr, ρ)), Gw p l e rm_X11_read s m args below meth c (MQ below (QcI dC dI ad cy sz rr ρ) args s 0 0 (AW ad sz)) dC dI ad cy 12 sz 0 0 41 [(0, .ref (ad 98)), (1, .int x1), (2, .int x2), (3, .int x3), (4, .int x4), (5, .int x5), (6, .int x6), (7, .int x7), (8, .int x8)] [] σ
  | 0, _, _, _, _, _, _, _, _, _, hf => by cases hf
  | n + 1, σ, x1, x2, x3, x4, x5, x6, x7, x8, hf => fX11_read_b41_ok C  (fX11_read_h41  n) (fX11_read_h41_ok C  n) σ x1 x2 x3 x4 x5 x6 x7 x8 hf
def fX11_read (σ : S0) (x1 : Int32) (x2 : Int32) (x3 : Int32) (x4 : Int32) : Option (Int32 × S0) := obp (fX11_isSheet σ x1 x2) (fun r1 σ2 => if r1 = 0 then (some ((-1), σ2)) else (obp (fX11_in σ2 x4.toInt64 ((0 : Int64)) ((12 : Int64))) (fun r5 σ6 => if ¬ r5 = 0 then (og (¬ (((66 : Int32)) < 0 ∨ 240 ≤ ((66 : Int32)).toNatClampNeg)) (ol (σ6 99 ((66 : Int32)).toNatClampNeg) (fun v10 => fX11_read_h41 400 σ6 x1 x2 x3 x4 v10 0 0 0))) else (some ((-1), σ6)))))
set_option maxHeartbeats 1000000 in
set_option maxRecDepth 100000 in
theorem fX11_read_ok {p : Program} {l : Launch} {e : Env} {s : State} {m : MethodId} {args : Array Value} {below : List Frame} {meth : Method} {c : Code} {dC : Nat → ClassId} {dI : Nat → Nat → Nat} {ad : Nat → Nat} {cy : Nat → ClassId} {sz : Nat} (C : Cx p s m args meth c RX11 cX11_read 12 (some .int) dC dI ad cy sz) {rr : Int32} {ρ : S0} (σ : S0) (x1 : Int32) (x2 : Int32) (x3 : Int32) (x4 : Int32)  (hf : fX11_read σ x1 x2 x3 x4 = some (rr, ρ)) : Gw p l e rm_X11_read s m args below meth c (MQ below (QcI dC dI ad cy sz rr ρ) args s 0 0 (AW ad sz)) dC dI ad cy 12 sz 0 0 0 [(0, .ref (ad 98)), (1, .int x1), (2, .int x2), (3, .int x3), (4, .int x4)] [] σ := by
  unfold fX11_read at hf
  refine g_iload_n C dX11_read_0 rfl 1 rfl ?_
  refine g_iload_n C dX11_read_1 rfl 2 rfl ?_
  obtain ⟨r1, σ2, h3, hf⟩ := obp_e hf
  refine g_callSi (As := [.int x1, .int x2]) (rest := []) C (c_X11_isSheet l dC dI ad cy x1 x2) h3 hM_X11_310 cal_X11_isSheet ⟨Nat.zero_le _, Nat.zero_le _⟩ ⟨rfl, rfl⟩ ⟨Nat.le_of_ble_eq_true rfl, Nat.le_of_ble_eq_true rfl⟩ rfl rfl (Nat.le_of_ble_eq_true rfl) dX11_read_2 ?_
  rcases oi_e hf with ⟨c4, hf⟩ | ⟨c4, hf⟩
  · refine g_if_eq_t (tgt := 21) C dX11_read_5 (by decide) c4 ?_
    refine g_iconst (v := (-1)) C dX11_read_21 (by decide) ?_
    obtain ⟨rfl, rfl⟩ := os_e hf
    exact g_iret C rfl dX11_read_22
  · refine g_if_eq_f (tgt := 21) C dX11_read_5 (by decide) c4 ?_
    refine g_iload C dX11_read_8 4 rfl ?_
    refine g_i2l C dX11_read_10 ?_
    refine g_lconst (v := 0) C dX11_read_11 (by decide) ?_
    refine g_ldc2 (v := 12) C dX11_read_12 hK_X11_313 ?_
    obtain ⟨r5, σ6, h7, hf⟩ := obp_e hf
    refine g_callSi (As := [.long x4.toInt64, .long 0, .long 12]) (rest := []) C (c_X11_in l dC dI ad cy x4.toInt64 ((0 : Int64)) ((12 : Int64))) h7 hM_X11_92 cal_X11_in ⟨Nat.zero_le _, Nat.zero_le _⟩ ⟨rfl, rfl⟩ ⟨Nat.le_of_ble_eq_true rfl, Nat.le_of_ble_eq_true rfl⟩ rfl rfl (Nat.le_of_ble_eq_true rfl) dX11_read_15 ?_
    rcases oi_e hf with ⟨c8, hf⟩ | ⟨c8, hf⟩
    · refine g_if_ne_t (tgt := 23) C dX11_read_18 (by decide) c8 ?_
      refine g_aload_n C dX11_read_23 rfl 0 rfl ?_
      refine g_get C (a_98 ad cy _) rfl hin_X11 0 (by decide) hF_X11_7 rfl rfl dX11_read_24 ?_
      refine g_bipush (v := 66) C dX11_read_27 (by decide) ?_
      obtain ⟨h9, hf⟩ := og_e hf
      refine g_iald C (a_99 ad cy _) h9 dX11_read_29 ?_
      obtain ⟨v10, ev10, hf⟩ := ol_e hf
      refine g_nm ev10 ?_
      refine g_istore (lv2 := [(0, .ref (ad 98)), (1, .int x1), (2, .int x2), (3, .int x3), (4, .int x4), (5, .int v10)]) C dX11_read_30 (by decide) [1, 2, 3, 4, 5, 0] rfl ?_
      refine g_iconst (v := 0) C dX11_read_32 (by decide) ?_
      refine g_istore (lv2 := [(0, .ref (ad 98)), (1, .int x1), (2, .int x2), (3, .int x3), (4, .int x4), (5, .int v10), (6, .int 0)]) C dX11_read_33 (by decide) [1, 2, 3, 4, 5, 6, 0] rfl ?_
      refine g_iconst (v := 0) C dX11_read_35 (by decide) ?_
      refine g_istore (lv2 := [(0, .ref (ad 98)), (1, .int x1), (2, .int x2), (3, .int x3), (4, .int x4), (5, .int v10), (6, .int 0), (7, .int 0)]) C dX11_read_36 (by decide) [1, 2, 3, 4, 5, 6, 7, 0] rfl ?_
      refine g_iconst (v := 0) C dX11_read_38 (by decide) ?_
      refine g_istore (lv2 := [(0, .ref (ad 98)), (1, .int x1), (2, .int x2), (3, .int x3), (4, .int x4), (5, .int v10), (6, .int 0), (7, .int 0), (8, .int 0)]) C dX11_read_39 (by decide) [1, 2, 3, 4, 5, 6, 7, 8, 0] rfl ?_
      exact g_sub [0, 1, 2, 3, 4, 5, 6, 7, 8] rfl (fX11_read_h41_ok C 400 σ6 x1 x2 x3 x4 v10 0 0 0 hf)
    · refine g_if_ne_f (tgt := 23) C dX11_read_18 (by decide) (Decidable.of_not_not c8) ?_
      refine g_iconst (v := (-1)) C dX11_read_21 (by decide) ?_
      obtain ⟨rfl, rfl⟩ := os_e hf
      exact g_iret C rfl dX11_read_22
theorem c_X11_read (l : Launch) (dC : Nat → ClassId) (dI : Nat → Nat → Nat) (ad : Nat → Nat) (cy : Nat → ClassId) (x1 : Int32) (x2 : Int32) (x3 : Int32) (x4 : Int32) : ConI l yX11_read cX11_read 12 (some .int) rm_X11_read dC dI ad cy [.ref (ad 98), .int x1, .int x2, .int x3, .int x4] (fun σ => fX11_read σ x1 x2 x3 x4) := con_i (own := RX11) (by decide) rfl (Nat.le_of_ble_eq_true rfl) (fun _ _ _ _ _ _ _ _ σ _ _ C hf => fX11_read_ok C σ x1 x2 x3 x4 hf)
theorem cal_X11_read : CalV yX11_read RX11 cX11_read 12 (some .int) 4 := ⟨hI_X11_read, hS_X11_read, hIni_X11, hC_X11_read, by decide +kernel⟩
end
section
abbrev rm_X11_torn : Room := { frames := 0, cells := 0, slots := 0, locals := 0 }
def fX11_torn (σ : S0)  : Option (Int32 × S0) := some (σ 98 39, σ)
set_option maxHeartbeats 1000000 in
set_option maxRecDepth 100000 in
theorem fX11_torn_ok {p : Program} {l : Launch} {e : Env} {s : State} {m : MethodId} {args : Array Value} {below : List Frame} {meth : Method} {c : Code} {dC : Nat → ClassId} {dI : Nat → Nat → Nat} {ad : Nat → Nat} {cy : Nat → ClassId} {sz : Nat} (C : Cx p s m args meth c RX11 cX11_torn 1 (some .int) dC dI ad cy sz) {rr : Int32} {ρ : S0} (σ : S0)   (hf : fX11_torn σ = some (rr, ρ)) : Gw p l e rm_X11_torn s m args below meth c (MQ below (QcI dC dI ad cy sz rr ρ) args s 0 0 (AW ad sz)) dC dI ad cy 1 sz 0 0 0 [(0, .ref (ad 98))] [] σ := by
  unfold fX11_torn at hf
  refine g_aload_n C dX11_torn_0 rfl 0 rfl ?_
  refine g_get C (a_98 ad cy _) rfl hin_X11 39 (by decide) hF_X11_318 rfl rfl dX11_torn_1 ?_
  obtain ⟨rfl, rfl⟩ := os_e hf
  exact g_iret C rfl dX11_torn_4
theorem c_X11_torn (l : Launch) (dC : Nat → ClassId) (dI : Nat → Nat → Nat) (ad : Nat → Nat) (cy : Nat → ClassId)  : ConI l yX11_torn cX11_torn 1 (some .int) rm_X11_torn dC dI ad cy [.ref (ad 98)] (fun σ => fX11_torn σ) := con_i (own := RX11) (by decide) rfl (Nat.le_of_ble_eq_true rfl) (fun _ _ _ _ _ _ _ _ σ _ _ C hf => fX11_torn_ok C σ  hf)
theorem cal_X11_torn : CalV yX11_torn RX11 cX11_torn 1 (some .int) 0 := ⟨hI_X11_torn, hS_X11_torn, hIni_X11, hC_X11_torn, by decide +kernel⟩
abbrev rm_X11_count : Room := { frames := 1, cells := 0, slots := 0, locals := 22 }
def fX11_count_b4 (sf_4 : S0 → Int32 → Int32 → Int32 → Option (Int32 × S0)) (σ : S0) (x1 : Int32) (x2 : Int32) (x3 : Int32) : Option (Int32 × S0) := if (σ 98 2) ≤ x3 then (if x1.toInt < 0 ∨ 6 < x1.toInt then (some ((-1), σ)) else if x1 = 0 then (some (σ 98 4, σ)) else if x1 = 1 then (some (σ 98 5, σ)) else if x1 = 2 then (og (¬ ((2 : Int32)) = 0) (ol (x2 / 2) (fun v7 => some (v7, σ)))) else if x1 = 3 then (og (¬ (((66 : Int32)) < 0 ∨ 240 ≤ ((66 : Int32)).toNatClampNeg)) (ol (σ 99 ((66 : Int32)).toNatClampNeg) (fun v10 => some (v10, σ)))) else if x1 = 4 then (og (¬ (((0 : Int32)) < 0 ∨ 2 ≤ ((0 : Int32)).toNatClampNeg)) (ol (σ 100 ((0 : Int32)).toNatClampNeg) (fun v13 => obp (fX11_flag σ v13) (fun r14 σ15 => og (¬ (((1 : Int32)) < 0 ∨ 2 ≤ ((1 : Int32)).toNatClampNeg)) (ol (σ15 100 ((1 : Int32)).toNatClampNeg) (fun v18 => obp (fX11_flag σ15 v18) (fun r19 σ20 => some (r14 + r19, σ20)))))))) else if x1 = 5 then (some (σ 98 17, σ)) else if x1 = 6 then (og (¬ (((0 : Int32)) < 0 ∨ 4 ≤ ((0 : Int32)).toNatClampNeg)) (ol (σ 108 ((0 : Int32)).toNatClampNeg) (fun v25 => if ¬ v25 = ((-4)) then (og (¬ (((0 : Int32)) < 0 ∨ 4 ≤ ((0 : Int32)).toNatClampNeg)) (ol (σ 109 ((0 : Int32)).toNatClampNeg) (fun v28 => some (v28, σ)))) else (some ((-4), σ))))) else none) else (ol (60 + x3) (fun v29 => og (¬ (v29 < 0 ∨ 240 ≤ v29.toNatClampNeg)) (ol (σ 99 v29.toNatClampNeg) (fun v31 => obp (fX11_bitsOf σ v31) (fun r32 σ33 => ol (x2 + r32) (fun v35 => ol (x3 + 1) (fun v36 => sf_4 σ33 x1 v35 v36)))))))
set_option maxHeartbeats 1000000 in
set_option maxRecDepth 100000 in
theorem fX11_count_b4_ok {p : Program} {l : Launch} {e : Env} {s : State} {m : MethodId} {args : Array Value} {below : List Frame} {meth : Method} {c : Code} {dC : Nat → ClassId} {dI : Nat → Nat → Nat} {ad : Nat → Nat} {cy : Nat → ClassId} {sz : Nat} (C : Cx p s m args meth c RX11 cX11_count 4 (some .int) dC dI ad cy sz) {rr : Int32} {ρ : S0} (sf_4 : S0 → Int32 → Int32 → Int32 → Option (Int32 × S0)) (hs_4 : ∀ (σ : S0) (x1 : Int32) (x2 : Int32) (x3 : Int32) , sf_4 σ x1 x2 x3 = some (rr, ρ) → Gw p l e rm_X11_count s m args below meth c (MQ below (QcI dC dI ad cy sz rr ρ) args s 0 0 (AW ad sz)) dC dI ad cy 4 sz 0 0 4 [(0, .ref (ad 98)), (1, .int x1), (2, .int x2), (3, .int x3)] [] σ) (σ : S0) (x1 : Int32) (x2 : Int32) (x3 : Int32)  (hf : fX11_count_b4 sf_4 σ x1 x2 x3 = some (rr, ρ)) : Gw p l e rm_X11_count s m args below meth c (MQ below (QcI dC dI ad cy sz rr ρ) args s 0 0 (AW ad sz)) dC dI ad cy 4 sz 0 0 4 [(0, .ref (ad 98)), (1, .int x1), (2, .int x2), (3, .int x3)] [] σ := by
  unfold fX11_count_b4 at hf
  refine g_iload_n C dX11_count_4 rfl 3 rfl ?_
  refine g_aload_n C dX11_count_5 rfl 0 rfl ?_
  refine g_get C (a_98 ad cy _) rfl hin_X11 2 (by decide) hF_X11_75 rfl rfl dX11_count_6 ?_
  rcases oi_e hf with ⟨c1, hf⟩ | ⟨c1, hf⟩
  · refine g_icmp_ge_t (tgt := 33) C dX11_count_9 (by decide) c1 ?_
    refine g_iload_n C dX11_count_33 rfl 1 rfl ?_
    rcases oi_e hf with ⟨c2, hf⟩ | ⟨c2, hf⟩
    · refine g_tout (tgt := 146) C dX11_count_34 c2 (by decide) ?_
      refine g_iconst (v := (-1)) C dX11_count_146 (by decide) ?_
      obtain ⟨rfl, rfl⟩ := os_e hf
      exact g_iret C rfl dX11_count_147
    · skip
      rcases oi_e hf with ⟨c3, hf⟩ | ⟨c3, hf⟩
      · refine g_tin (tgt := 76) C dX11_count_34 (by rw [c3]; decide) (by rw [c3]; decide) (by rw [c3]; rfl) (by decide) ?_
        refine g_aload_n C dX11_count_76 rfl 0 rfl ?_
        refine g_get C (a_98 ad cy _) rfl hin_X11 4 (by decide) hF_X11_81 rfl rfl dX11_count_77 ?_
        obtain ⟨rfl, rfl⟩ := os_e hf
        exact g_iret C rfl dX11_count_80
      · skip
        rcases oi_e hf with ⟨c4, hf⟩ | ⟨c4, hf⟩
        · refine g_tin (tgt := 81) C dX11_count_34 (by rw [c4]; decide) (by rw [c4]; decide) (by rw [c4]; rfl) (by decide) ?_
          refine g_aload_n C dX11_count_81 rfl 0 rfl ?_
          refine g_get C (a_98 ad cy _) rfl hin_X11 5 (by decide) hF_X11_84 rfl rfl dX11_count_82 ?_
          obtain ⟨rfl, rfl⟩ := os_e hf
          exact g_iret C rfl dX11_count_85
        · skip
          rcases oi_e hf with ⟨c5, hf⟩ | ⟨c5, hf⟩
          · refine g_tin (tgt := 86) C dX11_count_34 (by rw [c5]; decide) (by rw [c5]; decide) (by rw [c5]; rfl) (by decide) ?_
            refine g_iload_n C dX11_count_86 rfl 2 rfl ?_
            refine g_iconst (v := 2) C dX11_count_87 (by decide) ?_
            obtain ⟨h6, hf⟩ := og_e hf
            refine g_idiv C dX11_count_88 h6 ?_
            obtain ⟨v7, ev7, hf⟩ := ol_e hf
            refine g_nm ev7 ?_
            obtain ⟨rfl, rfl⟩ := os_e hf
            exact g_iret C rfl dX11_count_89
          · skip
            rcases oi_e hf with ⟨c8, hf⟩ | ⟨c8, hf⟩
            · refine g_tin (tgt := 90) C dX11_count_34 (by rw [c8]; decide) (by rw [c8]; decide) (by rw [c8]; rfl) (by decide) ?_
              refine g_aload_n C dX11_count_90 rfl 0 rfl ?_
              refine g_get C (a_98 ad cy _) rfl hin_X11 0 (by decide) hF_X11_7 rfl rfl dX11_count_91 ?_
              refine g_bipush (v := 66) C dX11_count_94 (by decide) ?_
              obtain ⟨h9, hf⟩ := og_e hf
              refine g_iald C (a_99 ad cy _) h9 dX11_count_96 ?_
              obtain ⟨v10, ev10, hf⟩ := ol_e hf
              refine g_nm ev10 ?_
              obtain ⟨rfl, rfl⟩ := os_e hf
              exact g_iret C rfl dX11_count_97
            · skip
              rcases oi_e hf with ⟨c11, hf⟩ | ⟨c11, hf⟩
              · refine g_tin (tgt := 98) C dX11_count_34 (by rw [c11]; decide) (by rw [c11]; decide) (by rw [c11]; rfl) (by decide) ?_
                refine g_aload_n C dX11_count_98 rfl 0 rfl ?_
                refine g_get C (a_98 ad cy _) rfl hin_X11 1 (by decide) hF_X11_13 rfl rfl dX11_count_99 ?_
                refine g_iconst (v := 0) C dX11_count_102 (by decide) ?_
                obtain ⟨h12, hf⟩ := og_e hf
                refine g_zald C (a_100 ad cy _) h12 dX11_count_103 ?_
                obtain ⟨v13, ev13, hf⟩ := ol_e hf
                refine g_nm ev13 ?_
                obtain ⟨r14, σ15, h16, hf⟩ := obp_e hf
                refine g_callSi (As := [.int v13]) (rest := []) C (c_X11_flag l dC dI ad cy v13) h16 hM_X11_191 cal_X11_flag ⟨Nat.zero_le _, Nat.zero_le _⟩ ⟨rfl, rfl⟩ ⟨Nat.le_of_ble_eq_true rfl, Nat.le_of_ble_eq_true rfl⟩ rfl rfl (Nat.le_of_ble_eq_true rfl) dX11_count_104 ?_
                refine g_aload_n C dX11_count_107 rfl 0 rfl ?_
                refine g_get C (a_98 ad cy _) rfl hin_X11 1 (by decide) hF_X11_13 rfl rfl dX11_count_108 ?_
                refine g_iconst (v := 1) C dX11_count_111 (by decide) ?_
                obtain ⟨h17, hf⟩ := og_e hf
                refine g_zald C (a_100 ad cy _) h17 dX11_count_112 ?_
                obtain ⟨v18, ev18, hf⟩ := ol_e hf
                refine g_nm ev18 ?_
                obtain ⟨r19, σ20, h21, hf⟩ := obp_e hf
                refine g_callSi (As := [.int v18]) (rest := [.int r14]) C (c_X11_flag l dC dI ad cy v18) h21 hM_X11_191 cal_X11_flag ⟨Nat.zero_le _, Nat.zero_le _⟩ ⟨rfl, rfl⟩ ⟨Nat.le_of_ble_eq_true rfl, Nat.le_of_ble_eq_true rfl⟩ rfl rfl (Nat.le_of_ble_eq_true rfl) dX11_count_113 ?_
                refine g_iadd C dX11_count_116 ?_
                obtain ⟨rfl, rfl⟩ := os_e hf
                exact g_iret C rfl dX11_count_117
              · skip
                rcases oi_e hf with ⟨c22, hf⟩ | ⟨c22, hf⟩
                · refine g_tin (tgt := 118) C dX11_count_34 (by rw [c22]; decide) (by rw [c22]; decide) (by rw [c22]; rfl) (by decide) ?_
                  refine g_aload_n C dX11_count_118 rfl 0 rfl ?_
                  refine g_get C (a_98 ad cy _) rfl hin_X11 17 (by decide) hF_X11_87 rfl rfl dX11_count_119 ?_
                  obtain ⟨rfl, rfl⟩ := os_e hf
                  exact g_iret C rfl dX11_count_122
                · skip
                  rcases oi_e hf with ⟨c23, hf⟩ | ⟨c23, hf⟩
                  · refine g_tin (tgt := 123) C dX11_count_34 (by rw [c23]; decide) (by rw [c23]; decide) (by rw [c23]; rfl) (by decide) ?_
                    refine g_aload_n C dX11_count_123 rfl 0 rfl ?_
                    refine g_get C (a_98 ad cy _) rfl hin_X11 36 (by decide) hF_X11_38 rfl rfl dX11_count_124 ?_
                    refine g_iconst (v := 0) C dX11_count_127 (by decide) ?_
                    obtain ⟨h24, hf⟩ := og_e hf
                    refine g_iald C (a_108 ad cy _) h24 dX11_count_128 ?_
                    obtain ⟨v25, ev25, hf⟩ := ol_e hf
                    refine g_nm ev25 ?_
                    refine g_bipush (v := (-4)) C dX11_count_129 (by decide) ?_
                    rcases oi_e hf with ⟨c26, hf⟩ | ⟨c26, hf⟩
                    · refine g_icmp_ne_t (tgt := 139) C dX11_count_131 (by decide) c26 ?_
                      refine g_aload_n C dX11_count_139 rfl 0 rfl ?_
                      refine g_get C (a_98 ad cy _) rfl hin_X11 37 (by decide) hF_X11_41 rfl rfl dX11_count_140 ?_
                      refine g_iconst (v := 0) C dX11_count_143 (by decide) ?_
                      obtain ⟨h27, hf⟩ := og_e hf
                      refine g_iald C (a_109 ad cy _) h27 dX11_count_144 ?_
                      obtain ⟨v28, ev28, hf⟩ := ol_e hf
                      refine g_nm ev28 ?_
                      obtain ⟨rfl, rfl⟩ := os_e hf
                      exact g_iret C rfl dX11_count_145
                    · refine g_icmp_ne_f (tgt := 139) C dX11_count_131 (by decide) (Decidable.of_not_not c26) ?_
                      refine g_bipush (v := (-4)) C dX11_count_134 (by decide) ?_
                      refine g_goto (tgt := 145) C dX11_count_136 (by decide) ?_
                      obtain ⟨rfl, rfl⟩ := os_e hf
                      exact g_iret C rfl dX11_count_145
                  · skip
                    cases hf
  · refine g_icmp_ge_f (tgt := 33) C dX11_count_9 (by decide) c1 ?_
    refine g_iload_n C dX11_count_12 rfl 2 rfl ?_
    refine g_aload_n C dX11_count_13 rfl 0 rfl ?_
    refine g_get C (a_98 ad cy _) rfl hin_X11 0 (by decide) hF_X11_7 rfl rfl dX11_count_14 ?_
    refine g_bipush (v := 60) C dX11_count_17 (by decide) ?_
    refine g_iload_n C dX11_count_19 rfl 3 rfl ?_
    refine g_iadd C dX11_count_20 ?_
    obtain ⟨v29, ev29, hf⟩ := ol_e hf
    refine g_nm ev29 ?_
    obtain ⟨h30, hf⟩ := og_e hf
    refine g_iald C (a_99 ad cy _) h30 dX11_count_21 ?_
    obtain ⟨v31, ev31, hf⟩ := ol_e hf
    refine g_nm ev31 ?_
    obtain ⟨r32, σ33, h34, hf⟩ := obp_e hf
    refine g_callSi (As := [.int v31]) (rest := [.int x2]) C (c_X11_bitsOf l dC dI ad cy v31) h34 hM_X11_266 cal_X11_bitsOf ⟨Nat.zero_le _, Nat.zero_le _⟩ ⟨rfl, rfl⟩ ⟨Nat.le_of_ble_eq_true rfl, Nat.le_of_ble_eq_true rfl⟩ rfl rfl (Nat.le_of_ble_eq_true rfl) dX11_count_22 ?_
    refine g_iadd C dX11_count_25 ?_
    obtain ⟨v35, ev35, hf⟩ := ol_e hf
    refine g_nm ev35 ?_
    refine g_istore_n (lv2 := [(0, .ref (ad 98)), (1, .int x1), (2, .int v35), (3, .int x3)]) C dX11_count_26 rfl (by decide) [1, 2, 0, 3] rfl ?_
    obtain ⟨v36, ev36, hf⟩ := ol_e hf
    refine g_iinc (j := 3) (w := 1) (lv2 := [(0, .ref (ad 98)), (1, .int x1), (2, .int v35), (3, .int v36)]) C dX11_count_27 rfl (by decide) ev36 (by decide) [1, 2, 3, 0] rfl ?_
    refine g_goto (tgt := 4) C dX11_count_30 (by decide) ?_
    exact g_sub [0, 1, 2, 3] rfl (hs_4 σ33 x1 v35 v36 hf)
def fX11_count_h4  : Nat → S0 → Int32 → Int32 → Int32 → Option (Int32 × S0)
  | 0 => fun _ _ _ _ => none
  | n + 1 => fun σ x1 x2 x3 => fX11_count_b4  (fX11_count_h4  n) σ x1 x2 x3
set_option maxHeartbeats 1000000 in
set_option maxRecDepth 100000 in
theorem fX11_count_h4_ok {p : Program} {l : Launch} {e : Env} {s : State} {m : MethodId} {args : Array Value} {below : List Frame} {meth : Method} {c : Code} {dC : Nat → ClassId} {dI : Nat → Nat → Nat} {ad : Nat → Nat} {cy : Nat → ClassId} {sz : Nat} (C : Cx p s m args meth c RX11 cX11_count 4 (some .int) dC dI ad cy sz) {rr : Int32} {ρ : S0}  : ∀ (n : Nat) (σ : S0) (x1 : Int32) (x2 : Int32) (x3 : Int32)  (_hf : fX11_count_h4  n σ x1 x2 x3 = some (rr, ρ)), Gw p l e rm_X11_count s m args below meth c (MQ below (QcI dC dI ad cy sz rr ρ) args s 0 0 (AW ad sz)) dC dI ad cy 4 sz 0 0 4 [(0, .ref (ad 98)), (1, .int x1), (2, .int x2), (3, .int x3)] [] σ
  | 0, _, _, _, _, hf => by cases hf
  | n + 1, σ, x1, x2, x3, hf => fX11_count_b4_ok C  (fX11_count_h4  n) (fX11_count_h4_ok C  n) σ x1 x2 x3 hf
def fX11_count (σ : S0) (x1 : Int32) : Option (Int32 × S0) := fX11_count_h4 400 σ x1 0 0
set_option maxHeartbeats 1000000 in
set_option maxRecDepth 100000 in
theorem fX11_count_ok {p : Program} {l : Launch} {e : Env} {s : State} {m : MethodId} {args : Array Value} {below : List Frame} {meth : Method} {c : Code} {dC : Nat → ClassId} {dI : Nat → Nat → Nat} {ad : Nat → Nat} {cy : Nat → ClassId} {sz : Nat} (C : Cx p s m args meth c RX11 cX11_count 4 (some .int) dC dI ad cy sz) {rr : Int32} {ρ : S0} (σ : S0) (x1 : Int32)  (hf : fX11_count σ x1 = some (rr, ρ)) : Gw p l e rm_X11_count s m args below meth c (MQ below (QcI dC dI ad cy sz rr ρ) args s 0 0 (AW ad sz)) dC dI ad cy 4 sz 0 0 0 [(0, .ref (ad 98)), (1, .int x1)] [] σ := by
  unfold fX11_count at hf
  refine g_iconst (v := 0) C dX11_count_0 (by decide) ?_
  refine g_istore_n (lv2 := [(0, .ref (ad 98)), (1, .int x1), (2, .int 0)]) C dX11_count_1 rfl (by decide) [1, 2, 0] rfl ?_
  refine g_iconst (v := 0) C dX11_count_2 (by decide) ?_
  refine g_istore_n (lv2 := [(0, .ref (ad 98)), (1, .int x1), (2, .int 0), (3, .int 0)]) C dX11_count_3 rfl (by decide) [1, 2, 3, 0] rfl ?_
  exact g_sub [0, 1, 2, 3] rfl (fX11_count_h4_ok C 400 σ x1 0 0 hf)
theorem c_X11_count (l : Launch) (dC : Nat → ClassId) (dI : Nat → Nat → Nat) (ad : Nat → Nat) (cy : Nat → ClassId) (x1 : Int32) : ConI l yX11_count cX11_count 4 (some .int) rm_X11_count dC dI ad cy [.ref (ad 98), .int x1] (fun σ => fX11_count σ x1) := con_i (own := RX11) (by decide) rfl (Nat.le_of_ble_eq_true rfl) (fun _ _ _ _ _ _ _ _ σ _ _ C hf => fX11_count_ok C σ x1 hf)
theorem cal_X11_count : CalV yX11_count RX11 cX11_count 4 (some .int) 1 := ⟨hI_X11_count, hS_X11_count, hIni_X11, hC_X11_count, by decide +kernel⟩
end
