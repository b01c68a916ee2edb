abbrev isStr (i : Nat) : Prop := i < 7
abbrev rm_J6_bitCount_0f7a4 : Room := { frames := 0, cells := 0, slots := 0, locals := 0 }
def fJ6_bitCount_0f7a4 (σ : S0) (x0 : Int32) : Option (Int32 × S0) := ol (x0 - (((x0.toUInt32 >>> ((1 : Int32).toUInt32 &&& Int32.toUInt32 31)).toInt32) &&& 1431655765)) (fun v1 => ol ((v1 &&& 858993459) + (((v1.toUInt32 >>> ((2 : Int32).toUInt32 &&& Int32.toUInt32 31)).toInt32) &&& 858993459)) (fun v2 => ol ((v2 + ((v2.toUInt32 >>> ((4 : Int32).toUInt32 &&& Int32.toUInt32 31)).toInt32)) &&& 252645135) (fun v3 => ol (v3 + ((v3.toUInt32 >>> ((8 : Int32).toUInt32 &&& Int32.toUInt32 31)).toInt32)) (fun v4 => ol (v4 + ((v4.toUInt32 >>> ((16 : Int32).toUInt32 &&& Int32.toUInt32 31)).toInt32)) (fun v5 => some (v5 &&& 63, σ))))))
set_option maxHeartbeats 1000000 in
set_option maxRecDepth 100000 in
theorem fJ6_bitCount_0f7a4_ok {p : Program} {l : Launch} {e : Env} {s : State} {m : MethodId} {args : Array Value} {below : List Frame} {meth : Method} {c : Code} {dC : Nat → ClassId} {dI : Nat → Nat → Nat} {ad : Nat → Nat} {cy : Nat → ClassId} {sz : Nat} (C : Cx p s m args meth c RJ6 cJ6_bitCount_0f7a4 1 (some .int) dC dI ad cy sz) {rr : Int32} {ρ : S0} (σ : S0) (x0 : Int32)  (hf : fJ6_bitCount_0f7a4 σ x0 = some (rr, ρ)) : Gw p l e rm_J6_bitCount_0f7a4 s m args below meth c (MQ below (QcI dC dI ad cy sz rr ρ) args s 0 0 (AW ad sz)) dC dI ad cy 1 sz 0 0 0 [(0, .int x0)] [] σ := by
  unfold fJ6_bitCount_0f7a4 at hf
  refine g_iload_n C dJ6_bitCount_0f7a4_0 rfl 0 rfl ?_
  refine g_iload_n C dJ6_bitCount_0f7a4_1 rfl 0 rfl ?_
  refine g_iconst (v := 1) C dJ6_bitCount_0f7a4_2 (by decide) ?_
  refine g_iushr C dJ6_bitCount_0f7a4_3 ?_
  refine g_ldcw (v := 1431655765) C dJ6_bitCount_0f7a4_4 hK_J6_265 ?_
  refine g_iand C dJ6_bitCount_0f7a4_7 ?_
  refine g_isub C dJ6_bitCount_0f7a4_8 ?_
  obtain ⟨v1, ev1, hf⟩ := ol_e hf
  refine g_nm ev1 ?_
  refine g_istore_n (lv2 := [(0, .int v1)]) C dJ6_bitCount_0f7a4_9 rfl (by decide) [0] rfl ?_
  refine g_iload_n C dJ6_bitCount_0f7a4_10 rfl 0 rfl ?_
  refine g_ldcw (v := 858993459) C dJ6_bitCount_0f7a4_11 hK_J6_266 ?_
  refine g_iand C dJ6_bitCount_0f7a4_14 ?_
  refine g_iload_n C dJ6_bitCount_0f7a4_15 rfl 0 rfl ?_
  refine g_iconst (v := 2) C dJ6_bitCount_0f7a4_16 (by decide) ?_
  refine g_iushr C dJ6_bitCount_0f7a4_17 ?_
  refine g_ldcw (v := 858993459) C dJ6_bitCount_0f7a4_18 hK_J6_266 ?_
  refine g_iand C dJ6_bitCount_0f7a4_21 ?_
  refine g_iadd C dJ6_bitCount_0f7a4_22 ?_
  obtain ⟨v2, ev2, hf⟩ := ol_e hf
  refine g_nm ev2 ?_
  refine g_istore_n (lv2 := [(0, .int v2)]) C dJ6_bitCount_0f7a4_23 rfl (by decide) [0] rfl ?_
  refine g_iload_n C dJ6_bitCount_0f7a4_24 rfl 0 rfl ?_
  refine g_iload_n C dJ6_bitCount_0f7a4_25 rfl 0 rfl ?_
  refine g_iconst (v := 4) C dJ6_bitCount_0f7a4_26 (by decide) ?_
  refine g_iushr C dJ6_bitCount_0f7a4_27 ?_
  refine g_iadd C dJ6_bitCount_0f7a4_28 ?_
  refine g_ldcw (v := 252645135) C dJ6_bitCount_0f7a4_29 hK_J6_267 ?_
  refine g_iand C dJ6_bitCount_0f7a4_32 ?_
  obtain ⟨v3, ev3, hf⟩ := ol_e hf
  refine g_nm ev3 ?_
  refine g_istore_n (lv2 := [(0, .int v3)]) C dJ6_bitCount_0f7a4_33 rfl (by decide) [0] rfl ?_
  refine g_iload_n C dJ6_bitCount_0f7a4_34 rfl 0 rfl ?_
  refine g_iload_n C dJ6_bitCount_0f7a4_35 rfl 0 rfl ?_
  refine g_bipush (v := 8) C dJ6_bitCount_0f7a4_36 (by decide) ?_
  refine g_iushr C dJ6_bitCount_0f7a4_38 ?_
  refine g_iadd C dJ6_bitCount_0f7a4_39 ?_
  obtain ⟨v4, ev4, hf⟩ := ol_e hf
  refine g_nm ev4 ?_
  refine g_istore_n (lv2 := [(0, .int v4)]) C dJ6_bitCount_0f7a4_40 rfl (by decide) [0] rfl ?_
  refine g_iload_n C dJ6_bitCount_0f7a4_41 rfl 0 rfl ?_
  refine g_iload_n C dJ6_bitCount_0f7a4_42 rfl 0 rfl ?_
  refine g_bipush (v := 16) C dJ6_bitCount_0f7a4_43 (by decide) ?_
  refine g_iushr C dJ6_bitCount_0f7a4_45 ?_
  refine g_iadd C dJ6_bitCount_0f7a4_46 ?_
  obtain ⟨v5, ev5, hf⟩ := ol_e hf
  refine g_nm ev5 ?_
  refine g_istore_n (lv2 := [(0, .int v5)]) C dJ6_bitCount_0f7a4_47 rfl (by decide) [0] rfl ?_
  refine g_iload_n C dJ6_bitCount_0f7a4_48 rfl 0 rfl ?_
  refine g_bipush (v := 63) C dJ6_bitCount_0f7a4_49 (by decide) ?_
  refine g_iand C dJ6_bitCount_0f7a4_51 ?_
  obtain ⟨rfl, rfl⟩ := os_e hf
  exact g_iret C rfl dJ6_bitCount_0f7a4_52
theorem c_J6_bitCount_0f7a4 (l : Launch) (dC : Nat → ClassId) (dI : Nat → Nat → Nat) (ad : Nat → Nat) (cy : Nat → ClassId) (x0 : Int32) : ConI l yJ6_bitCount_0f7a4 cJ6_bitCount_0f7a4 1 (some .int) rm_J6_bitCount_0f7a4 dC dI ad cy [.int x0] (fun σ => fJ6_bitCount_0f7a4 σ x0) := con_i (own := RJ6) (by decide) rfl (Nat.le_of_ble_eq_true rfl) (fun _ _ _ _ _ _ _ _ σ _ _ C hf => fJ6_bitCount_0f7a4_ok C σ x0 hf)
theorem cal_J6_bitCount_0f7a4 : CalS yJ6_bitCount_0f7a4 cJ6_bitCount_0f7a4 1 (some .int) 1 := ⟨hSt_J6_bitCount_0f7a4, hIni_J6, hC_J6_bitCount_0f7a4, by decide +kernel⟩
abbrev rm_J7_fill_53178 : Room := { frames := 0, cells := 0, slots := 0, locals := 0 }
def fJ7_fill_53178_b5 (sf_5 : S0 → Nat → Nat → Int32 → Int32 → Int32 → Option (Int32 × S0)) (σ : S0) (n0 : Nat) (k : Nat) (x1 : Int32) (x2 : Int32) (x3 : Int32) : Option (Int32 × S0) := if x3 ≤ x2 then (some (0, σ)) else (og (¬ (x2 < 0 ∨ n0 ≤ x2.toNatClampNeg)) (ol (su σ k x2.toNatClampNeg x1) (fun σ3 => ol (x2 + 1) (fun v4 => sf_5 σ3 n0 k x1 v4 x3))))
set_option maxHeartbeats 1000000 in
set_option maxRecDepth 100000 in
theorem fJ7_fill_53178_b5_ok {p : Program} {l : Launch} {e : Env} {s : State} {m : MethodId} {args : Array Value} {below : List Frame} {meth : Method} {c : Code} {dC : Nat → ClassId} {dI : Nat → Nat → Nat} {ad : Nat → Nat} {cy : Nat → ClassId} {sz : Nat} (C : Cx p s m args meth c RJ7 cJ7_fill_53178 4 none dC dI ad cy sz) {rr : Int32} {ρ : S0} (sf_5 : S0 → Nat → Nat → Int32 → Int32 → Int32 → Option (Int32 × S0)) (hs_5 : ∀ (σ : S0) (n0 : Nat) (k : Nat) (x1 : Int32) (x2 : Int32) (x3 : Int32) (hk : isRow n0 k), sf_5 σ n0 k x1 x2 x3 = some (rr, ρ) → Gw p l e rm_J7_fill_53178 s m args below meth c (MQ below (QcV dC dI ad cy sz ρ) args s 0 0 (AW ad sz)) dC dI ad cy 4 sz 0 0 5 [(0, .ref (ad k)), (1, .int x1), (2, .int x2), (3, .int x3)] [] σ) (σ : S0) (n0 : Nat) (k : Nat) (x1 : Int32) (x2 : Int32) (x3 : Int32) (hk : isRow n0 k) (hf : fJ7_fill_53178_b5 sf_5 σ n0 k x1 x2 x3 = some (rr, ρ)) : Gw p l e rm_J7_fill_53178 s m args below meth c (MQ below (QcV dC dI ad cy sz ρ) args s 0 0 (AW ad sz)) dC dI ad cy 4 sz 0 0 5 [(0, .ref (ad k)), (1, .int x1), (2, .int x2), (3, .int x3)] [] σ := by
  unfold fJ7_fill_53178_b5 at hf
  refine g_iload_n C dJ7_fill_53178_5 rfl 2 rfl ?_
  refine g_iload_n C dJ7_fill_53178_6 rfl 3 rfl ?_
  rcases oi_e hf with ⟨c1, hf⟩ | ⟨c1, hf⟩
  · refine g_icmp_ge_t (tgt := 20) C dJ7_fill_53178_7 (by decide) c1 ?_
    obtain ⟨rfl, rfl⟩ := os_e hf
    exact g_vret C rfl dJ7_fill_53178_20
  · refine g_icmp_ge_f (tgt := 20) C dJ7_fill_53178_7 (by decide) c1 ?_
    refine g_aload_n C dJ7_fill_53178_10 rfl 0 rfl ?_
    refine g_iload_n C dJ7_fill_53178_11 rfl 2 rfl ?_
    refine g_iload_n C dJ7_fill_53178_12 rfl 1 rfl ?_
    obtain ⟨h2, hf⟩ := og_e hf
    obtain ⟨σ3, eσ3, hf⟩ := ol_e hf
    refine g_iast C (s_row hk ad cy _) h2 (ws_row hk ad cy _) eσ3 dJ7_fill_53178_13 ?_
    obtain ⟨v4, ev4, hf⟩ := ol_e hf
    refine g_iinc (j := 2) (w := 1) (lv2 := [(0, .ref (ad k)), (1, .int x1), (2, .int v4), (3, .int x3)]) C dJ7_fill_53178_14 rfl (by decide) ev4 (by decide) [1, 2, 0, 3] rfl ?_
    refine g_goto (tgt := 5) C dJ7_fill_53178_17 (by decide) ?_
    exact g_sub [0, 1, 2, 3] rfl (hs_5 σ3 n0 k x1 v4 x3 hk hf)
def fJ7_fill_53178_h5  : Nat → S0 → Nat → Nat → Int32 → Int32 → Int32 → Option (Int32 × S0)
  | 0 => fun _ _ _ _ _ _ => none
  | n + 1 => fun σ n0 k x1 x2 x3 => fJ7_fill_53178_b5  (fJ7_fill_53178_h5  n) σ n0 k x1 x2 x3
set_option maxHeartbeats 1000000 in
set_option maxRecDepth 100000 in
theorem fJ7_fill_53178_h5_ok {p : Program} {l : Launch} {e : Env} {s : State} {m : MethodId} {args : Array Value} {below : List Frame} {meth : Method} {c : Code} {dC : Nat → ClassId} {dI : Nat → Nat → Nat} {ad : Nat → Nat} {cy : Nat → ClassId} {sz : Nat} (C : Cx p s m args meth c RJ7 cJ7_fill_53178 4 none dC dI ad cy sz) {rr : Int32} {ρ : S0}  : ∀ (n : Nat) (σ : S0) (n0 : Nat) (k : Nat) (x1 : Int32) (x2 : Int32) (x3 : Int32) (hk : isRow n0 k) (_hf : fJ7_fill_53178_h5  n σ n0 k x1 x2 x3 = some (rr, ρ)), Gw p l e rm_J7_fill_53178 s m args below meth c (MQ below (QcV dC dI ad cy sz ρ) args s 0 0 (AW ad sz)) dC dI ad cy 4 sz 0 0 5 [(0, .ref (ad k)), (1, .int x1), (2, .int x2), (3, .int x3)] [] σ
  | 0, _, _, _, _, _, _, _, hf => by cases hf
  | n + 1, σ, n0, k, x1, x2, x3, hk, hf => fJ7_fill_53178_b5_ok C  (fJ7_fill_53178_h5  n) (fJ7_fill_53178_h5_ok C  n) σ n0 k x1 x2 x3 hk hf
def fJ7_fill_53178 (σ : S0) (n0 : Nat) (k0 : Nat) (x1 : Int32) : Option (Int32 × S0) := ol (Int32.ofNat n0) (fun v1 => fJ7_fill_53178_h5 400 σ n0 k0 x1 0 v1)
set_option maxHeartbeats 1000000 in
set_option maxRecDepth 100000 in
theorem fJ7_fill_53178_ok {p : Program} {l : Launch} {e : Env} {s : State} {m : MethodId} {args : Array Value} {below : List Frame} {meth : Method} {c : Code} {dC : Nat → ClassId} {dI : Nat → Nat → Nat} {ad : Nat → Nat} {cy : Nat → ClassId} {sz : Nat} (C : Cx p s m args meth c RJ7 cJ7_fill_53178 4 none dC dI ad cy sz) {rr : Int32} {ρ : S0} (σ : S0) (n0 : Nat) (k0 : Nat) (x1 : Int32) (hk0 : isRow n0 k0) (hf : fJ7_fill_53178 σ n0 k0 x1 = some (rr, ρ)) : Gw p l e rm_J7_fill_53178 s m args below meth c (MQ below (QcV dC dI ad cy sz ρ) args s 0 0 (AW ad sz)) dC dI ad cy 4 sz 0 0 0 [(0, .ref (ad k0)), (1, .int x1)] [] σ := by
  unfold fJ7_fill_53178 at hf
  refine g_iconst (v := 0) C dJ7_fill_53178_0 (by decide) ?_
  refine g_istore_n (lv2 := [(0, .ref (ad k0)), (1, .int x1), (2, .int 0)]) C dJ7_fill_53178_1 rfl (by decide) [1, 2, 0] rfl ?_
  refine g_aload_n C dJ7_fill_53178_2 rfl 0 rfl ?_
  refine g_alen (v := (Int32.ofNat n0)) C (s_row hk0 ad cy _) rfl dJ7_fill_53178_3 ?_
  obtain ⟨v1, ev1, hf⟩ := ol_e hf
  refine g_nm ev1 ?_
  refine g_istore_n (lv2 := [(0, .ref (ad k0)), (1, .int x1), (2, .int 0), (3, .int v1)]) C dJ7_fill_53178_4 rfl (by decide) [1, 2, 3, 0] rfl ?_
  exact g_sub [0, 1, 2, 3] rfl (fJ7_fill_53178_h5_ok C 400 σ n0 k0 x1 0 v1 hk0 hf)
theorem c_J7_fill_53178 (l : Launch) (dC : Nat → ClassId) (dI : Nat → Nat → Nat) (ad : Nat → Nat) (cy : Nat → ClassId) (n0 : Nat) (k0 : Nat) (hk0 : isRow n0 k0) (x1 : Int32) : ConV l yJ7_fill_53178 cJ7_fill_53178 4 none rm_J7_fill_53178 dC dI ad cy [.ref (ad k0), .int x1] (fun σ => fJ7_fill_53178 σ n0 k0 x1) := con_v (own := RJ7) (by decide) rfl (Nat.le_of_ble_eq_true rfl) (fun _ _ _ _ _ _ _ _ σ _ _ C hf => fJ7_fill_53178_ok C σ n0 k0 x1 hk0 hf)
theorem cal_J7_fill_53178 : CalS yJ7_fill_53178 cJ7_fill_53178 4 none 2 := ⟨hSt_J7_fill_53178, hIni_J7, hC_J7_fill_53178, by decide +kernel⟩
abbrev rm_J0_coder_7d493 : Room := { frames := 0, cells := 0, slots := 0, locals := 0 }
def fJ0_coder_7d493 (σ : S0) (i0 : Nat) : Option (Int32 × S0) := if ((1 : Int32)) = 0 then (some (1, σ)) else (some (0, σ))
set_option maxHeartbeats 1000000 in
set_option maxRecDepth 100000 in
theorem fJ0_coder_7d493_ok {p : Program} {l : Launch} {e : Env} {s : State} {m : MethodId} {args : Array Value} {below : List Frame} {meth : Method} {c : Code} {dC : Nat → ClassId} {dI : Nat → Nat → Nat} {ad : Nat → Nat} {cy : Nat → ClassId} {sz : Nat} (C : Cx p s m args meth c RJ0 cJ0_coder_7d493 1 (some .byte) dC dI ad cy sz) {rr : Int32} {ρ : S0} (σ : S0) (i0 : Nat) (hi0 : isStr i0) (hf : fJ0_coder_7d493 σ i0 = some (rr, ρ)) : Gw p l e rm_J0_coder_7d493 s m args below meth c (MQ below (QcI dC dI ad cy sz rr ρ) args s 0 0 (AW ad sz)) dC dI ad cy 1 sz 0 0 0 [(0, .ref (ad (200 + i0)))] [] σ := by
  unfold fJ0_coder_7d493 at hf
  refine g_cmps C hF_J0_38 dJ0_coder_7d493_0 ?_
  rcases oi_e hf with ⟨c1, hf⟩ | ⟨c1, hf⟩
  · refine g_if_eq_t (tgt := 13) C dJ0_coder_7d493_3 (by decide) c1 ?_
    refine g_iconst (v := 1) C dJ0_coder_7d493_13 (by decide) ?_
    obtain ⟨rfl, rfl⟩ := os_e hf
    exact g_tret (ty := .byte) C rfl rfl dJ0_coder_7d493_14
  · refine g_if_eq_f (tgt := 13) C dJ0_coder_7d493_3 (by decide) c1 ?_
    refine g_aload_n C dJ0_coder_7d493_6 rfl 0 rfl ?_
    refine g_scod C hi0 hF_J0_15 dJ0_coder_7d493_7 ?_
    refine g_goto (tgt := 14) C dJ0_coder_7d493_10 (by decide) ?_
    obtain ⟨rfl, rfl⟩ := os_e hf
    exact g_tret (ty := .byte) C rfl rfl dJ0_coder_7d493_14
theorem c_J0_coder_7d493 (l : Launch) (dC : Nat → ClassId) (dI : Nat → Nat → Nat) (ad : Nat → Nat) (cy : Nat → ClassId) (i0 : Nat) (hi0 : isStr i0) : ConI l yJ0_coder_7d493 cJ0_coder_7d493 1 (some .byte) rm_J0_coder_7d493 dC dI ad cy [.ref (ad (200 + i0))] (fun σ => fJ0_coder_7d493 σ i0) := con_i (own := RJ0) (by decide) rfl (Nat.le_of_ble_eq_true rfl) (fun _ _ _ _ _ _ _ _ σ _ _ C hf => fJ0_coder_7d493_ok C σ i0 hi0 hf)
theorem cal_J0_coder_7d493 : CalV yJ0_coder_7d493 RJ0 cJ0_coder_7d493 1 (some .byte) 0 := ⟨hI_J0_coder_7d493, hS_J0_coder_7d493, hIni_J0, hC_J0_coder_7d493, by decide +kernel⟩
abbrev rm_J0_isLatin1_aae02 : Room := { frames := 0, cells := 0, slots := 0, locals := 0 }
def fJ0_isLatin1_aae02 (σ : S0) (i0 : Nat) : Option (Int32 × S0) := if ((1 : Int32)) = 0 then (some (0, σ)) else (if ¬ ((0 : Int32)) = 0 then (some (0, σ)) else (some (1, σ)))
set_option maxHeartbeats 1000000 in
set_option maxRecDepth 100000 in
theorem fJ0_isLatin1_aae02_ok {p : Program} {l : Launch} {e : Env} {s : State} {m : MethodId} {args : Array Value} {below : List Frame} {meth : Method} {c : Code} {dC : Nat → ClassId} {dI : Nat → Nat → Nat} {ad : Nat → Nat} {cy : Nat → ClassId} {sz : Nat} (C : Cx p s m args meth c RJ0 cJ0_isLatin1_aae02 1 (some .boolean) dC dI ad cy sz) {rr : Int32} {ρ : S0} (σ : S0) (i0 : Nat) (hi0 : isStr i0) (hf : fJ0_isLatin1_aae02 σ i0 = some (rr, ρ)) : Gw p l e rm_J0_isLatin1_aae02 s m args below meth c (MQ below (QcI dC dI ad cy sz rr ρ) args s 0 0 (AW ad sz)) dC dI ad cy 1 sz 0 0 0 [(0, .ref (ad (200 + i0)))] [] σ := by
  unfold fJ0_isLatin1_aae02 at hf
  refine g_cmps C hF_J0_38 dJ0_isLatin1_aae02_0 ?_
  rcases oi_e hf with ⟨c1, hf⟩ | ⟨c1, hf⟩
  · refine g_if_eq_t (tgt := 17) C dJ0_isLatin1_aae02_3 (by decide) c1 ?_
    refine g_iconst (v := 0) C dJ0_isLatin1_aae02_17 (by decide) ?_
    obtain ⟨rfl, rfl⟩ := os_e hf
    exact g_zret C rfl (by decide) dJ0_isLatin1_aae02_18
  · refine g_if_eq_f (tgt := 17) C dJ0_isLatin1_aae02_3 (by decide) c1 ?_
    refine g_aload_n C dJ0_isLatin1_aae02_6 rfl 0 rfl ?_
    refine g_scod C hi0 hF_J0_15 dJ0_isLatin1_aae02_7 ?_
    rcases oi_e hf with ⟨c2, hf⟩ | ⟨c2, hf⟩
    · refine g_if_ne_t (tgt := 17) C dJ0_isLatin1_aae02_10 (by decide) c2 ?_
      refine g_iconst (v := 0) C dJ0_isLatin1_aae02_17 (by decide) ?_
      obtain ⟨rfl, rfl⟩ := os_e hf
      exact g_zret C rfl (by decide) dJ0_isLatin1_aae02_18
    · refine g_if_ne_f (tgt := 17) C dJ0_isLatin1_aae02_10 (by decide) (Decidable.of_not_not c2) ?_
      refine g_iconst (v := 1) C dJ0_isLatin1_aae02_13 (by decide) ?_
      refine g_goto (tgt := 18) C dJ0_isLatin1_aae02_14 (by decide) ?_
      obtain ⟨rfl, rfl⟩ := os_e hf
      exact g_zret C rfl (by decide) dJ0_isLatin1_aae02_18
theorem c_J0_isLatin1_aae02 (l : Launch) (dC : Nat → ClassId) (dI : Nat → Nat → Nat) (ad : Nat → Nat) (cy : Nat → ClassId) (i0 : Nat) (hi0 : isStr i0) : ConI l yJ0_isLatin1_aae02 cJ0_isLatin1_aae02 1 (some .boolean) rm_J0_isLatin1_aae02 dC dI ad cy [.ref (ad (200 + i0))] (fun σ => fJ0_isLatin1_aae02 σ i0) := con_i (own := RJ0) (by decide) rfl (Nat.le_of_ble_eq_true rfl) (fun _ _ _ _ _ _ _ _ σ _ _ C hf => fJ0_isLatin1_aae02_ok C σ i0 hi0 hf)
theorem cal_J0_isLatin1_aae02 : CalV yJ0_isLatin1_aae02 RJ0 cJ0_isLatin1_aae02 1 (some .boolean) 0 := ⟨hI_J0_isLatin1_aae02, hS_J0_isLatin1_aae02, hIni_J0, hC_J0_isLatin1_aae02, by decide +kernel⟩
abbrev rm_J0_length_8abf5 : Room := { frames := 1, cells := 0, slots := 0, locals := 20 }
def fJ0_length_8abf5 (σ : S0) (i0 : Nat) : Option (Int32 × S0) := obp (fJ0_coder_7d493 σ i0) (fun r1 σ2 => some ((Int32.ofNat (lenS.getD i0 0)) >>> (r1 &&& 31), σ2))
set_option maxHeartbeats 1000000 in
set_option maxRecDepth 100000 in
theorem fJ0_length_8abf5_ok {p : Program} {l : Launch} {e : Env} {s : State} {m : MethodId} {args : Array Value} {below : List Frame} {meth : Method} {c : Code} {dC : Nat → ClassId} {dI : Nat → Nat → Nat} {ad : Nat → Nat} {cy : Nat → ClassId} {sz : Nat} (C : Cx p s m args meth c RJ0 cJ0_length_8abf5 1 (some .int) dC dI ad cy sz) {rr : Int32} {ρ : S0} (σ : S0) (i0 : Nat) (hi0 : isStr i0) (hf : fJ0_length_8abf5 σ i0 = some (rr, ρ)) : Gw p l e rm_J0_length_8abf5 s m args below meth c (MQ below (QcI dC dI ad cy sz rr ρ) args s 0 0 (AW ad sz)) dC dI ad cy 1 sz 0 0 0 [(0, .ref (ad (200 + i0)))] [] σ := by
  unfold fJ0_length_8abf5 at hf
  refine g_aload_n C dJ0_length_8abf5_0 rfl 0 rfl ?_
  refine g_sval C hi0 hF_J0_9 dJ0_length_8abf5_1 ?_
  refine g_slen C hi0 dJ0_length_8abf5_4 ?_
  refine g_aload_n C dJ0_length_8abf5_5 rfl 0 rfl ?_
  obtain ⟨r1, σ2, h3, hf⟩ := obp_e hf
  refine g_callTi (As := []) (rest := [.int (Int32.ofNat (lenS.getD i0 0))]) C hi0 (c_J0_coder_7d493 l dC dI ad cy i0 hi0) h3 hM_J0_335 cal_J0_coder_7d493 ⟨Nat.zero_le _, Nat.zero_le _⟩ ⟨rfl, rfl⟩ ⟨Nat.le_of_ble_eq_true rfl, Nat.le_of_ble_eq_true rfl⟩ rfl rfl (Nat.le_of_ble_eq_true rfl) dJ0_length_8abf5_6 ?_
  refine g_ishr C dJ0_length_8abf5_9 ?_
  obtain ⟨rfl, rfl⟩ := os_e hf
  exact g_iret C rfl dJ0_length_8abf5_10
theorem c_J0_length_8abf5 (l : Launch) (dC : Nat → ClassId) (dI : Nat → Nat → Nat) (ad : Nat → Nat) (cy : Nat → ClassId) (i0 : Nat) (hi0 : isStr i0) : ConI l yJ0_length_8abf5 cJ0_length_8abf5 1 (some .int) rm_J0_length_8abf5 dC dI ad cy [.ref (ad (200 + i0))] (fun σ => fJ0_length_8abf5 σ i0) := con_i (own := RJ0) (by decide) rfl (Nat.le_of_ble_eq_true rfl) (fun _ _ _ _ _ _ _ _ σ _ _ C hf => fJ0_length_8abf5_ok C σ i0 hi0 hf)
theorem cal_J0_length_8abf5 : CalV yJ0_length_8abf5 RJ0 cJ0_length_8abf5 1 (some .int) 0 := ⟨hI_J0_length_8abf5, hS_J0_length_8abf5, hIni_J0, hC_J0_length_8abf5, by decide +kernel⟩
abbrev rm_J1_charAt_3b067 : Room := { frames := 2, cells := 0, slots := 0, locals := 43 }
def fJ1_charAt_3b067 (σ : S0) (i0 : Nat) (x1 : Int32) : Option (Int32 × S0) := obp (fJ0_checkIndex_df160 σ x1 (Int32.ofNat (lenS.getD i0 0))) (fun r1 σ2 => og (¬ (x1 < 0 ∨ lenS.getD i0 0 ≤ x1.toNatClampNeg)) (ol ((bytS.getD i0 []).getD x1.toNatClampNeg 0) (fun v5 => ol (((v5 &&& 255).toUInt32 % 65536).toInt32) (fun v6 => og ((v6.toUInt32 % 65536).toInt32 = v6) (some (v6, σ2))))))
set_option maxHeartbeats 1000000 in
set_option maxRecDepth 100000 in
theorem fJ1_charAt_3b067_ok {p : Program} {l : Launch} {e : Env} {s : State} {m : MethodId} {args : Array Value} {below : List Frame} {meth : Method} {c : Code} {dC : Nat → ClassId} {dI : Nat → Nat → Nat} {ad : Nat → Nat} {cy : Nat → ClassId} {sz : Nat} (C : Cx p s m args meth c RJ1 cJ1_charAt_3b067 2 (some .char) dC dI ad cy sz) {rr : Int32} {ρ : S0} (σ : S0) (i0 : Nat) (x1 : Int32) (hi0 : isStr i0) (hf : fJ1_charAt_3b067 σ i0 x1 = some (rr, ρ)) : Gw p l e rm_J1_charAt_3b067 s m args below meth c (MQ below (QcI dC dI ad cy sz rr ρ) args s 0 0 (AW ad sz)) dC dI ad cy 2 sz 0 0 0 [(0, .ref (ad (300 + i0))), (1, .int x1)] [] σ := by
  unfold fJ1_charAt_3b067 at hf
  refine g_iload_n C dJ1_charAt_3b067_0 rfl 1 rfl ?_
  refine g_aload_n C dJ1_charAt_3b067_1 rfl 0 rfl ?_
  refine g_slen C hi0 dJ1_charAt_3b067_2 ?_
  obtain ⟨r1, σ2, h3, hf⟩ := obp_e hf
  refine g_callSv (As := [.int x1, .int (Int32.ofNat (lenS.getD i0 0))]) (rest := []) C (c_J0_checkIndex_df160 l dC dI ad cy x1 (Int32.ofNat (lenS.getD i0 0))) h3 hM_J1_9 cal_J0_checkIndex_df160 ⟨Nat.zero_le _, Nat.zero_le _⟩ ⟨rfl, rfl⟩ ⟨Nat.le_of_ble_eq_true rfl, Nat.le_of_ble_eq_true rfl⟩ rfl rfl (Nat.le_of_ble_eq_true rfl) dJ1_charAt_3b067_3 ?_
  refine g_aload_n C dJ1_charAt_3b067_6 rfl 0 rfl ?_
  refine g_iload_n C dJ1_charAt_3b067_7 rfl 1 rfl ?_
  obtain ⟨h4, hf⟩ := og_e hf
  refine g_sbald C hi0 h4 dJ1_charAt_3b067_8 ?_
  obtain ⟨v5, ev5, hf⟩ := ol_e hf
  refine g_nm ev5 ?_
  refine g_sipush (v := 255) C dJ1_charAt_3b067_9 (by decide) ?_
  refine g_iand C dJ1_charAt_3b067_12 ?_
  refine g_i2c C dJ1_charAt_3b067_13 ?_
  obtain ⟨v6, ev6, hf⟩ := ol_e hf
  refine g_nm ev6 ?_
  obtain ⟨h7, hf⟩ := og_e hf
  obtain ⟨rfl, rfl⟩ := os_e hf
  exact g_tret (ty := .char) C rfl (nc_ok h7) dJ1_charAt_3b067_14
theorem c_J1_charAt_3b067 (l : Launch) (dC : Nat → ClassId) (dI : Nat → Nat → Nat) (ad : Nat → Nat) (cy : Nat → ClassId) (i0 : Nat) (hi0 : isStr i0) (x1 : Int32) : ConI l yJ1_charAt_3b067 cJ1_charAt_3b067 2 (some .char) rm_J1_charAt_3b067 dC dI ad cy [.ref (ad (300 + i0)), .int x1] (fun σ => fJ1_charAt_3b067 σ i0 x1) := con_i (own := RJ1) (by decide) rfl (Nat.le_of_ble_eq_true rfl) (fun _ _ _ _ _ _ _ _ σ _ _ C hf => fJ1_charAt_3b067_ok C σ i0 x1 hi0 hf)
theorem cal_J1_charAt_3b067 : CalS yJ1_charAt_3b067 cJ1_charAt_3b067 2 (some .char) 2 := ⟨hSt_J1_charAt_3b067, hIni_J1, hC_J1_charAt_3b067, by decide +kernel⟩
abbrev rm_J0_charAt_5068e : Room := { frames := 3, cells := 0, slots := 0, locals := 64 }
def fJ0_charAt_5068e (σ : S0) (i0 : Nat) (x1 : Int32) : Option (Int32 × S0) := obp (fJ0_isLatin1_aae02 σ i0) (fun r1 σ2 => if r1 = 0 then (none) else (obp (fJ1_charAt_3b067 σ2 i0 x1) (fun r5 σ6 => og ((r5.toUInt32 % 65536).toInt32 = r5) (some (r5, σ6)))))
set_option maxHeartbeats 1000000 in
set_option maxRecDepth 100000 in
theorem fJ0_charAt_5068e_ok {p : Program} {l : Launch} {e : Env} {s : State} {m : MethodId} {args : Array Value} {below : List Frame} {meth : Method} {c : Code} {dC : Nat → ClassId} {dI : Nat → Nat → Nat} {ad : Nat → Nat} {cy : Nat → ClassId} {sz : Nat} (C : Cx p s m args meth c RJ0 cJ0_charAt_5068e 2 (some .char) dC dI ad cy sz) {rr : Int32} {ρ : S0} (σ : S0) (i0 : Nat) (x1 : Int32) (hi0 : isStr i0) (hf : fJ0_charAt_5068e σ i0 x1 = some (rr, ρ)) : Gw p l e rm_J0_charAt_5068e s m args below meth c (MQ below (QcI dC dI ad cy sz rr ρ) args s 0 0 (AW ad sz)) dC dI ad cy 2 sz 0 0 0 [(0, .ref (ad (200 + i0))), (1, .int x1)] [] σ := by
  unfold fJ0_charAt_5068e at hf
  refine g_aload_n C dJ0_charAt_5068e_0 rfl 0 rfl ?_
  obtain ⟨r1, σ2, h3, hf⟩ := obp_e hf
  refine g_callTi (As := []) (rest := []) C hi0 (c_J0_isLatin1_aae02 l dC dI ad cy i0 hi0) h3 hM_J0_492 cal_J0_isLatin1_aae02 ⟨Nat.zero_le _, Nat.zero_le _⟩ ⟨rfl, rfl⟩ ⟨Nat.le_of_ble_eq_true rfl, Nat.le_of_ble_eq_true rfl⟩ rfl rfl (Nat.le_of_ble_eq_true rfl) dJ0_charAt_5068e_1 ?_
  rcases oi_e hf with ⟨c4, hf⟩ | ⟨c4, hf⟩
  · refine g_if_eq_t (tgt := 16) C dJ0_charAt_5068e_4 (by decide) c4 ?_
    refine g_aload_n C dJ0_charAt_5068e_16 rfl 0 rfl ?_
    refine g_sval C hi0 hF_J0_9 dJ0_charAt_5068e_17 ?_
    refine g_iload_n C dJ0_charAt_5068e_20 rfl 1 rfl ?_
    cases hf
  · refine g_if_eq_f (tgt := 16) C dJ0_charAt_5068e_4 (by decide) c4 ?_
    refine g_aload_n C dJ0_charAt_5068e_7 rfl 0 rfl ?_
    refine g_sval C hi0 hF_J0_9 dJ0_charAt_5068e_8 ?_
    refine g_iload_n C dJ0_charAt_5068e_11 rfl 1 rfl ?_
    obtain ⟨r5, σ6, h7, hf⟩ := obp_e hf
    refine g_callSi (As := [.ref (ad (300 + i0)), .int x1]) (rest := []) C (c_J1_charAt_3b067 l dC dI ad cy i0 hi0 x1) h7 hM_J0_495 cal_J1_charAt_3b067 ⟨Nat.zero_le _, Nat.zero_le _⟩ ⟨rfl, rfl⟩ ⟨Nat.le_of_ble_eq_true rfl, Nat.le_of_ble_eq_true rfl⟩ rfl rfl (Nat.le_of_ble_eq_true rfl) dJ0_charAt_5068e_12 ?_
    obtain ⟨h8, hf⟩ := og_e hf
    obtain ⟨rfl, rfl⟩ := os_e hf
    exact g_tret (ty := .char) C rfl (nc_ok h8) dJ0_charAt_5068e_15
theorem c_J0_charAt_5068e (l : Launch) (dC : Nat → ClassId) (dI : Nat → Nat → Nat) (ad : Nat → Nat) (cy : Nat → ClassId) (i0 : Nat) (hi0 : isStr i0) (x1 : Int32) : ConI l yJ0_charAt_5068e cJ0_charAt_5068e 2 (some .char) rm_J0_charAt_5068e dC dI ad cy [.ref (ad (200 + i0)), .int x1] (fun σ => fJ0_charAt_5068e σ i0 x1) := con_i (own := RJ0) (by decide) rfl (Nat.le_of_ble_eq_true rfl) (fun _ _ _ _ _ _ _ _ σ _ _ C hf => fJ0_charAt_5068e_ok C σ i0 x1 hi0 hf)
theorem cal_J0_charAt_5068e : CalV yJ0_charAt_5068e RJ0 cJ0_charAt_5068e 2 (some .char) 1 := ⟨hI_J0_charAt_5068e, hS_J0_charAt_5068e, hIni_J0, hC_J0_charAt_5068e, by decide +kernel⟩
