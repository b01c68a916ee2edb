section
abbrev isStr (i : Nat) : Prop := i < 7
abbrev rm_J6_bitCount_0f7a4 : Room := { frames := 0, cells := 0, slots := 0, locals := 0 }
def fJ6_bitCount_0f7a4 (σ : S0) (x0 : Int32) : Option (Int32 × S0) := ol (x0 - (((x0.toUInt32 >>> ((1 : Int32).toUInt32 &&& Int32.toUInt32 31)).toInt32) &&& 1431655765)) (fun v1 => ol ((v1 &&& 858993459) + (((v1.toUInt32 >>> ((2 : Int32).toUInt32 &&& Int32.toUInt32 31)).toInt32) &&& 858993459)) (fun v2 => ol ((v2 + ((v2.toUInt32 >>> ((4 : Int32).toUInt32 &&& Int32.toUInt32 31)).toInt32)) &&& 252645135) (fun v3 => ol (v3 + ((v3.toUInt32 >>> ((8 : Int32).toUInt32 &&& Int32.toUInt32 31)).toInt32)) (fun v4 => ol (v4 + ((v4.toUInt32 >>> ((16 : Int32).toUInt32 &&& Int32.toUInt32 31)).toInt32)) (fun v5 => some (v5 &&& 63, σ))))))
set_option maxHeartbeats 1000000 in
set_option maxRecDepth 100000 in
theorem fJ6_bitCount_0f7a4_ok {p : Program} {l : Launch} {e : Env} {s : State} {m : MethodId} {args : Array Value} {below : List Frame} {meth : Method} {c : Code} {dC : Nat → ClassId} {dI : Nat → Nat → Nat} {ad : Nat → Nat} {cy : Nat → ClassId} {sz : Nat} (C : Cx p s m args meth c RJ6 cJ6_bitCount_0f7a4 1 (some .int) dC dI ad cy sz) {rr : Int32} {ρ : S0} (σ : S0) (x0 : Int32)  (hf : fJ6_bitCount_0f7a4 σ x0 = some (rr, ρ)) : Gw p l e rm_J6_bitCount_0f7a4 s m args below meth c (MQ below (QcI dC dI ad cy sz rr ρ) args s 0 0 (AW ad sz)) dC dI ad cy 1 sz 0 0 0 [(0, .int x0)] [] σ := by
  unfold fJ6_bitCount_0f7a4 at hf
  refine g_iload_n C dJ6_bitCount_0f7a4_0 rfl 0 rfl ?_
  refine g_iload_n C dJ6_bitCount_0f7a4_1 rfl 0 rfl ?_
  refine g_iconst (v := 1) C dJ6_bitCount_0f7a4_2 (by decide) ?_
  refine g_iushr C dJ6_bitCount_0f7a4_3 ?_
  refine g_ldcw (v := 1431655765) C dJ6_bitCount_0f7a4_4 hK_J6_265 ?_
  refine g_iand C dJ6_bitCount_0f7a4_7 ?_
  refine g_isub C dJ6_bitCount_0f7a4_8 ?_
  obtain ⟨v1, ev1, hf⟩ := ol_e hf
  refine g_nm ev1 ?_
  refine g_istore_n (lv2 := [(0, .int v1)]) C dJ6_bitCount_0f7a4_9 rfl (by decide) [0] rfl ?_
  refine g_iload_n C dJ6_bitCount_0f7a4_10 rfl 0 rfl ?_
  refine g_ldcw (v := 858993459) C dJ6_bitCount_0f7a4_11 hK_J6_266 ?_
  refine g_iand C dJ6_bitCount_0f7a4_14 ?_
  refine g_iload_n C dJ6_bitCount_0f7a4_15 rfl 0 rfl ?_
  refine g_iconst (v := 2) C dJ6_bitCount_0f7a4_16 (by decide) ?_
  refine g_iushr C dJ6_bitCount_0f7a4_17 ?_
  refine g_ldcw (v := 858993459) C dJ6_bitCount_0f7a4_18 hK_J6_266 ?_
  refine g_iand C dJ6_bitCount_0f7a4_21 ?_
  refine g_iadd C dJ6_bitCount_0f7a4_22 ?_
  obtain ⟨v2, ev2, hf⟩ := ol_e hf
  refine g_nm ev2 ?_
  refine g_istore_n (lv2 := [(0, .int v2)]) C dJ6_bitCount_0f7a4_23 rfl (by decide) [0] rfl ?_
  refine g_iload_n C dJ6_bitCount_0f7a4_24 rfl 0 rfl ?_
  refine g_iload_n C dJ6_bitCount_0f7a4_25 rfl 0 rfl ?_
  refine g_iconst (v := 4) C dJ6_bitCount_0f7a4_26 (by decide) ?_
  refine g_iushr C dJ6_bitCount_0f7a4_27 ?_
  refine g_iadd C dJ6_bitCount_0f7a4_28 ?_
  refine g_ldcw (v := 252645135) C dJ6_bitCount_0f7a4_29 hK_J6_267 ?_
  refine g_iand C dJ6_bitCount_0f7a4_32 ?_
  obtain ⟨v3, ev3, hf⟩ := ol_e hf
  refine g_nm ev3 ?_
  refine g_istore_n (lv2 := [(0, .int v3)]) C dJ6_bitCount_0f7a4_33 rfl (by decide) [0] rfl ?_
  refine g_iload_n C dJ6_bitCount_0f7a4_34 rfl 0 rfl ?_
  refine g_iload_n C dJ6_bitCount_0f7a4_35 rfl 0 rfl ?_
  refine g_bipush (v := 8) C dJ6_bitCount_0f7a4_36 (by decide) ?_
  refine g_iushr C dJ6_bitCount_0f7a4_38 ?_
  refine g_iadd C dJ6_bitCount_0f7a4_39 ?_
  obtain ⟨v4, ev4, hf⟩ := ol_e hf
  refine g_nm ev4 ?_
  refine g_istore_n (lv2 := [(0, .int v4)]) C dJ6_bitCount_0f7a4_40 rfl (by decide) [0] rfl ?_
  refine g_iload_n C dJ6_bitCount_0f7a4_41 rfl 0 rfl ?_
  refine g_iload_n C dJ6_bitCount_0f7a4_42 rfl 0 rfl ?_
  refine g_bipush (v := 16) C dJ6_bitCount_0f7a4_43 (by decide) ?_
  refine g_iushr C dJ6_bitCount_0f7a4_45 ?_
  refine g_iadd C dJ6_bitCount_0f7a4_46 ?_
  obtain ⟨v5, ev5, hf⟩ := ol_e hf
  refine g_nm ev5 ?_
  refine g_istore_n (lv2 := [(0, .int v5)]) C dJ6_bitCount_0f7a4_47 rfl (by decide) [0] rfl ?_
  refine g_iload_n C dJ6_bitCount_0f7a4_48 rfl 0 rfl ?_
  refine g_bipush (v := 63) C dJ6_bitCount_0f7a4_49 (by decide) ?_
  refine g_iand C dJ6_bitCount_0f7a4_51 ?_
  obtain ⟨rfl, rfl⟩ := os_e hf
  exact g_iret C rfl dJ6_bitCount_0f7a4_52
theorem c_J6_bitCount_0f7a4 (l : Launch) (dC : Nat → ClassId) (dI : Nat → Nat → Nat) (ad : Nat → Nat) (cy : Nat → ClassId) (x0 : Int32) : ConI l yJ6_bitCount_0f7a4 cJ6_bitCount_0f7a4 1 (some .int) rm_J6_bitCount_0f7a4 dC dI ad cy [.int x0] (fun σ => fJ6_bitCount_0f7a4 σ x0) := con_i (own := RJ6) (by decide) rfl (Nat.le_of_ble_eq_true rfl) (fun _ _ _ _ _ _ _ _ σ _ _ C hf => fJ6_bitCount_0f7a4_ok C σ x0 hf)
theorem cal_J6_bitCount_0f7a4 : CalS yJ6_bitCount_0f7a4 cJ6_bitCount_0f7a4 1 (some .int) 1 := ⟨hSt_J6_bitCount_0f7a4, hIni_J6, hC_J6_bitCount_0f7a4, by decide +kernel⟩
abbrev rm_J7_fill_53178 : Room := { frames := 0, cells := 0, slots := 0, locals := 0 }
def fJ7_fill_53178_b5 (sf_5 : S0 → Nat → Nat → Int32 → Int32 → Int32 → Option (Int32 × S0)) (σ : S0) (n0 : Nat) (k : Nat) (x1 : Int32) (x2 : Int32) (x3 : Int32) : Option (Int32 × S0) := if x3 ≤ x2 then (some (0, σ)) else (og (¬ (x2 < 0 ∨ n0 ≤ x2.toNatClampNeg)) (ol (su σ k x2.toNatClampNeg x1) (fun σ3 => ol (x2 + 1) (fun v4 => sf_5 σ3 n0 k x1 v4 x3))))
set_option maxHeartbeats 1000000 in
set_option maxRecDepth 100000 in
theorem fJ7_fill_53178_b5_ok {p : Program} {l : Launch} {e : Env} {s : State} {m : MethodId} {args : Array Value} {below : List Frame} {meth : Method} {c : Code} {dC : Nat → ClassId} {dI : Nat → Nat → Nat} {ad : Nat → Nat} {cy : Nat → ClassId} {sz : Nat} (C : Cx p s m args meth c RJ7 cJ7_fill_53178 4 none dC dI ad cy sz) {rr : Int32} {ρ : S0} (sf_5 : S0 → Nat → Nat → Int32 → Int32 → Int32 → Option (Int32 × S0)) (hs_5 : ∀ (σ : S0) (n0 : Nat) (k : Nat) (x1 : Int32) (x2 : Int32) (x3 : Int32) (hk : isRow n0 k), sf_5 σ n0 k x1 x2 x3 = some (rr, ρ) → Gw p l e rm_J7_fill_53178 s m args below meth c (MQ below (QcV dC dI ad cy sz ρ) args s 0 0 (AW ad sz)) dC dI ad cy 4 sz 0 0 5 [(0, .ref (ad k)), (1, .int x1), (2, .int x2), (3, .int x3)] [] σ) (σ : S0) (n0 : Nat) (k : Nat) (x1 : Int32) (x2 : Int32) (x3 : Int32) (hk : isRow n0 k) (hf : fJ7_fill_53178_b5 sf_5 σ n0 k x1 x2 x3 = some (rr, ρ)) : Gw p l e rm_J7_fill_53178 s m args below meth c (MQ below (QcV dC dI ad cy sz ρ) args s 0 0 (AW ad sz)) dC dI ad cy 4 sz 0 0 5 [(0, .ref (ad k)), (1, .int x1), (2, .int x2), (3, .int x3)] [] σ := by
  unfold fJ7_fill_53178_b5 at hf
  refine g_iload_n C dJ7_fill_53178_5 rfl 2 rfl ?_
  refine g_iload_n C dJ7_fill_53178_6 rfl 3 rfl ?_
  rcases oi_e hf with ⟨c1, hf⟩ | ⟨c1, hf⟩
  · refine g_icmp_ge_t (tgt := 20) C dJ7_fill_53178_7 (by decide) c1 ?_
    obtain ⟨rfl, rfl⟩ := os_e hf
    exact g_vret C rfl dJ7_fill_53178_20
  · refine g_icmp_ge_f (tgt := 20) C dJ7_fill_53178_7 (by decide) c1 ?_
    refine g_aload_n C dJ7_fill_53178_10 rfl 0 rfl ?_
    refine g_iload_n C dJ7_fill_53178_11 rfl 2 rfl ?_
    refine g_iload_n C dJ7_fill_53178_12 rfl 1 rfl ?_
    obtain ⟨h2, hf⟩ := og_e hf
    obtain ⟨σ3, eσ3, hf⟩ := ol_e hf
    refine g_iast C (s_row hk ad cy _) h2 (ws_row hk ad cy _) eσ3 dJ7_fill_53178_13 ?_
    obtain ⟨v4, ev4, hf⟩ := ol_e hf
    refine g_iinc (j := 2) (w := 1) (lv2 := [(0, .ref (ad k)), (1, .int x1), (2, .int v4), (3, .int x3)]) C dJ7_fill_53178_14 rfl (by decide) ev4 (by decide) [1, 2, 0, 3] rfl ?_
    refine g_goto (tgt := 5) C dJ7_fill_53178_17 (by decide) ?_
    exact g_sub [0, 1, 2, 3] rfl (hs_5 σ3 n0 k x1 v4 x3 hk hf)
def fJ7_fill_53178_h5  : Nat → S0 → Nat → Nat → Int32 → Int32 → Int32 → Option (Int32 × S0)
  | 0 => fun _ _ _ _ _ _ => none
  | n + 1 => fun σ n0 k x1 x2 x3 => fJ7_fill_53178_b5  (fJ7_fill_53178_h5  n) σ n0 k x1 x2 x3
set_option maxHeartbeats 1000000 in
set_option maxRecDepth 100000 in
theorem fJ7_fill_53178_h5_ok {p : Program} {l : Launch} {e : Env} {s : State} {m : MethodId} {args : Array Value} {below : List Frame} {meth : Method} {c : Code} {dC : Nat → ClassId} {dI : Nat → Nat → Nat} {ad : Nat → Nat} {cy : Nat → ClassId} {sz : Nat} (C : Cx p s m args meth c RJ7 cJ7_fill_53178 4 none dC dI ad cy sz) {rr : Int32} {ρ : S0}  : ∀ (n : Nat) (σ : S0) (n0 : Nat) (k : Nat) (x1 : Int32) (x2 : Int32) (x3 : Int32) (hk : isRow n0 k) (_hf : fJ7_fill_53178_h5  n σ n0 k x1 x2 x3 = some (rr, ρ)), Gw p l e rm_J7_fill_53178 s m args below meth c (MQ below (QcV dC dI ad cy sz ρ) args s 0 0 (AW ad sz)) dC dI ad cy 4 sz 0 0 5 [(0, .ref (ad k)), (1, .int x1), (2, .int x2), (3, .int x3)] [] σ
  | 0, _, _, _, _, _, _, _, hf => by cases hf
  | n + 1, σ, n0, k, x1, x2, x3, hk, hf => fJ7_fill_53178_b5_ok C  (fJ7_fill_53178_h5  n) (fJ7_fill_53178_h5_ok C  n) σ n0 k x1 x2 x3 hk hf
def fJ7_fill_53178 (σ : S0) (n0 : Nat) (k0 : Nat) (x1 : Int32) : Option (Int32 × S0) := ol (Int32.ofNat n0) (fun v1 => fJ7_fill_53178_h5 400 σ n0 k0 x1 0 v1)
set_option maxHeartbeats 1000000 in
set_option maxRecDepth 100000 in
theorem fJ7_fill_53178_ok {p : Program} {l : Launch} {e : Env} {s : State} {m : MethodId} {args : Array Value} {below : List Frame} {meth : Method} {c : Code} {dC : Nat → ClassId} {dI : Nat → Nat → Nat} {ad : Nat → Nat} {cy : Nat → ClassId} {sz : Nat} (C : Cx p s m args meth c RJ7 cJ7_fill_53178 4 none dC dI ad cy sz) {rr : Int32} {ρ : S0} (σ : S0) (n0 : Nat) (k0 : Nat) (x1 : Int32) (hk0 : isRow n0 k0) (hf : fJ7_fill_53178 σ n0 k0 x1 = some (rr, ρ)) : Gw p l e rm_J7_fill_53178 s m args below meth c (MQ below (QcV dC dI ad cy sz ρ) args s 0 0 (AW ad sz)) dC dI ad cy 4 sz 0 0 0 [(0, .ref (ad k0)), (1, .int x1)] [] σ := by
  unfold fJ7_fill_53178 at hf
  refine g_iconst (v := 0) C dJ7_fill_53178_0 (by decide) ?_
  refine g_istore_n (lv2 := [(0, .ref (ad k0)), (1, .int x1), (2, .int 0)]) C dJ7_fill_53178_1 rfl (by decide) [1, 2, 0] rfl ?_
  refine g_aload_n C dJ7_fill_53178_2 rfl 0 rfl ?_
  refine g_alen (v := (Int32.ofNat n0)) C (s_row hk0 ad cy _) rfl dJ7_fill_53178_3 ?_
  obtain ⟨v1, ev1, hf⟩ := ol_e hf
  refine g_nm ev1 ?_
  refine g_istore_n (lv2 := [(0, .ref (ad k0)), (1, .int x1), (2, .int 0), (3, .int v1)]) C dJ7_fill_53178_4 rfl (by decide) [1, 2, 3, 0] rfl ?_
  exact g_sub [0, 1, 2, 3] rfl (fJ7_fill_53178_h5_ok C 400 σ n0 k0 x1 0 v1 hk0 hf)
theorem c_J7_fill_53178 (l : Launch) (dC : Nat → ClassId) (dI : Nat → Nat → Nat) (ad : Nat → Nat) (cy : Nat → ClassId) (n0 : Nat) (k0 : Nat) (hk0 : isRow n0 k0) (x1 : Int32) : ConV l yJ7_fill_53178 cJ7_fill_53178 4 none rm_J7_fill_53178 dC dI ad cy [.ref (ad k0), .int x1] (fun σ => fJ7_fill_53178 σ n0 k0 x1) := con_v (own := RJ7) (by decide) rfl (Nat.le_of_ble_eq_true rfl) (fun _ _ _ _ _ _ _ _ σ _ _ C hf => fJ7_fill_53178_ok C σ n0 k0 x1 hk0 hf)
theorem cal_J7_fill_53178 : CalS yJ7_fill_53178 cJ7_fill_53178 4 none 2 := ⟨hSt_J7_fill_53178, hIni_J7, hC_J7_fill_53178, by decide +kernel⟩
abbrev rm_J0_coder_7d493 : Room := { frames := 0, cells := 0, slots := 0, locals := 0 }
def fJ0_coder_7d493 (σ : S0) (i0 : Nat) : Option (Int32 × S0) := if ((1 : Int32)) = 0 then (some (1, σ)) else (some (0, σ))
set_option maxHeartbeats 1000000 in
set_option maxRecDepth 100000 in
theorem fJ0_coder_7d493_ok {p : Program} {l : Launch} {e : Env} {s : State} {m : MethodId} {args : Array Value} {below : List Frame} {meth : Method} {c : Code} {dC : Nat → ClassId} {dI : Nat → Nat → Nat} {ad : Nat → Nat} {cy : Nat → ClassId} {sz : Nat} (C : Cx p s m args meth c RJ0 cJ0_coder_7d493 1 (some .byte) dC dI ad cy sz) {rr : Int32} {ρ : S0} (σ : S0) (i0 : Nat) (hi0 : isStr i0) (hf : fJ0_coder_7d493 σ i0 = some (rr, ρ)) : Gw p l e rm_J0_coder_7d493 s m args below meth c (MQ below (QcI dC dI ad cy sz rr ρ) args s 0 0 (AW ad sz)) dC dI ad cy 1 sz 0 0 0 [(0, .ref (ad (200 + i0)))] [] σ := by
  unfold fJ0_coder_7d493 at hf
  refine g_cmps C hF_J0_38 dJ0_coder_7d493_0 ?_
  rcases oi_e hf with ⟨c1, hf⟩ | ⟨c1, hf⟩
  · refine g_if_eq_t (tgt := 13) C dJ0_coder_7d493_3 (by decide) c1 ?_
    refine g_iconst (v := 1) C dJ0_coder_7d493_13 (by decide) ?_
    obtain ⟨rfl, rfl⟩ := os_e hf
    exact g_tret (ty := .byte) C rfl rfl dJ0_coder_7d493_14
  · refine g_if_eq_f (tgt := 13) C dJ0_coder_7d493_3 (by decide) c1 ?_
    refine g_aload_n C dJ0_coder_7d493_6 rfl 0 rfl ?_
    refine g_scod C hi0 hF_J0_15 dJ0_coder_7d493_7 ?_
    refine g_goto (tgt := 14) C dJ0_coder_7d493_10 (by decide) ?_
    obtain ⟨rfl, rfl⟩ := os_e hf
    exact g_tret (ty := .byte) C rfl rfl dJ0_coder_7d493_14
theorem c_J0_coder_7d493 (l : Launch) (dC : Nat → ClassId) (dI : Nat → Nat → Nat) (ad : Nat → Nat) (cy : Nat → ClassId) (i0 : Nat) (hi0 : isStr i0) : ConI l yJ0_coder_7d493 cJ0_coder_7d493 1 (some .byte) rm_J0_coder_7d493 dC dI ad cy [.ref (ad (200 + i0))] (fun σ => fJ0_coder_7d493 σ i0) := con_i (own := RJ0) (by decide) rfl (Nat.le_of_ble_eq_true rfl) (fun _ _ _ _ _ _ _ _ σ _ _ C hf => fJ0_coder_7d493_ok C σ i0 hi0 hf)
theorem cal_J0_coder_7d493 : CalV yJ0_coder_7d493 RJ0 cJ0_coder_7d493 1 (some .byte) 0 := ⟨hI_J0_coder_7d493, hS_J0_coder_7d493, hIni_J0, hC_J0_coder_7d493, by decide +kernel⟩
abbrev rm_J0_isLatin1_aae02 : Room := { frames := 0, cells := 0, slots := 0, locals := 0 }
def fJ0_isLatin1_aae02 (σ : S0) (i0 : Nat) : Option (Int32 × S0) := if ((1 : Int32)) = 0 then (some (0, σ)) else (if ¬ ((0 : Int32)) = 0 then (some (0, σ)) else (some (1, σ)))
set_option maxHeartbeats 1000000 in
set_option maxRecDepth 100000 in
theorem fJ0_isLatin1_aae02_ok {p : Program} {l : Launch} {e : Env} {s : State} {m : MethodId} {args : Array Value} {below : List Frame} {meth : Method} {c : Code} {dC : Nat → ClassId} {dI : Nat → Nat → Nat} {ad : Nat → Nat} {cy : Nat → ClassId} {sz : Nat} (C : Cx p s m args meth c RJ0 cJ0_isLatin1_aae02 1 (some .boolean) dC dI ad cy sz) {rr : Int32} {ρ : S0} (σ : S0) (i0 : Nat) (hi0 : isStr i0) (hf : fJ0_isLatin1_aae02 σ i0 = some (rr, ρ)) : Gw p l e rm_J0_isLatin1_aae02 s m args below meth c (MQ below (QcI dC dI ad cy sz rr ρ) args s 0 0 (AW ad sz)) dC dI ad cy 1 sz 0 0 0 [(0, .ref (ad (200 + i0)))] [] σ := by
  unfold fJ0_isLatin1_aae02 at hf
  refine g_cmps C hF_J0_38 dJ0_isLatin1_aae02_0 ?_
  rcases oi_e hf with ⟨c1, hf⟩ | ⟨c1, hf⟩
  · refine g_if_eq_t (tgt := 17) C dJ0_isLatin1_aae02_3 (by decide) c1 ?_
    refine g_iconst (v := 0) C dJ0_isLatin1_aae02_17 (by decide) ?_
    obtain ⟨rfl, rfl⟩ := os_e hf
    exact g_zret C rfl (by decide) dJ0_isLatin1_aae02_18
  · refine g_if_eq_f (tgt := 17) C dJ0_isLatin1_aae02_3 (by decide) c1 ?_
    refine g_aload_n C dJ0_isLatin1_aae02_6 rfl 0 rfl ?_
    refine g_scod C hi0 hF_J0_15 dJ0_isLatin1_aae02_7 ?_
    rcases oi_e hf with ⟨c2, hf⟩ | ⟨c2, hf⟩
    · refine g_if_ne_t (tgt := 17) C dJ0_isLatin1_aae02_10 (by decide) c2 ?_
      refine g_iconst (v := 0) C dJ0_isLatin1_aae02_17 (by decide) ?_
      obtain ⟨rfl, rfl⟩ := os_e hf
      exact g_zret C rfl (by decide) dJ0_isLatin1_aae02_18
    · refine g_if_ne_f (tgt := 17) C dJ0_isLatin1_aae02_10 (by decide) (Decidable.of_not_not c2) ?_
      refine g_iconst (v := 1) C dJ0_isLatin1_aae02_13 (by decide) ?_
      refine g_goto (tgt := 18) C dJ0_isLatin1_aae02_14 (by decide) ?_
      obtain ⟨rfl, rfl⟩ := os_e hf
      exact g_zret C rfl (by decide) dJ0_isLatin1_aae02_18
theorem c_J0_isLatin1_aae02 (l : Launch) (dC : Nat → ClassId) (dI : Nat → Nat → Nat) (ad : Nat → Nat) (cy : Nat → ClassId) (i0 : Nat) (hi0 : isStr i0) : ConI l yJ0_isLatin1_aae02 cJ0_isLatin1_aae02 1 (some .boolean) rm_J0_isLatin1_aae02 dC dI ad cy [.ref (ad (200 + i0))] (fun σ => fJ0_isLatin1_aae02 σ i0) := con_i (own := RJ0) (by decide) rfl (Nat.le_of_ble_eq_true rfl) (fun _ _ _ _ _ _ _ _ σ _ _ C hf => fJ0_isLatin1_aae02_ok C σ i0 hi0 hf)
theorem cal_J0_isLatin1_aae02 : CalV yJ0_isLatin1_aae02 RJ0 cJ0_isLatin1_aae02 1 (some .boolean) 0 := ⟨hI_J0_isLatin1_aae02, hS_J0_isLatin1_aae02, hIni_J0, hC_J0_isLatin1_aae02, by decide +kernel⟩
abbrev rm_J0_length_8abf5 : Room := { frames := 1, cells := 0, slots := 0, locals := 20 }
def fJ0_length_8abf5 (σ : S0) (i0 : Nat) : Option (Int32 × S0) := obp (fJ0_coder_7d493 σ i0) (fun r1 σ2 => some ((Int32.ofNat (lenS.getD i0 0)) >>> (r1 &&& 31), σ2))
set_option maxHeartbeats 1000000 in
set_option maxRecDepth 100000 in
theorem fJ0_length_8abf5_ok {p : Program} {l : Launch} {e : Env} {s : State} {m : MethodId} {args : Array Value} {below : List Frame} {meth : Method} {c : Code} {dC : Nat → ClassId} {dI : Nat → Nat → Nat} {ad : Nat → Nat} {cy : Nat → ClassId} {sz : Nat} (C : Cx p s m args meth c RJ0 cJ0_length_8abf5 1 (some .int) dC dI ad cy sz) {rr : Int32} {ρ : S0} (σ : S0) (i0 : Nat) (hi0 : isStr i0) (hf : fJ0_length_8abf5 σ i0 = some (rr, ρ)) : Gw p l e rm_J0_length_8abf5 s m args below meth c (MQ below (QcI dC dI ad cy sz rr ρ) args s 0 0 (AW ad sz)) dC dI ad cy 1 sz 0 0 0 [(0, .ref (ad (200 + i0)))] [] σ := by
  unfold fJ0_length_8abf5 at hf
  refine g_aload_n C dJ0_length_8abf5_0 rfl 0 rfl ?_
  refine g_sval C hi0 hF_J0_9 dJ0_length_8abf5_1 ?_
  refine g_slen C hi0 dJ0_length_8abf5_4 ?_
  refine g_aload_n C dJ0_length_8abf5_5 rfl 0 rfl ?_
  obtain ⟨r1, σ2, h3, hf⟩ := obp_e hf
  refine g_callTi (As := []) (rest := [.int (Int32.ofNat (lenS.getD i0 0))]) C hi0 (c_J0_coder_7d493 l dC dI ad cy i0 hi0) h3 hM_J0_335 cal_J0_coder_7d493 ⟨Nat.zero_le _, Nat.zero_le _⟩ ⟨rfl, rfl⟩ ⟨Nat.le_of_ble_eq_true rfl, Nat.le_of_ble_eq_true rfl⟩ rfl rfl (Nat.le_of_ble_eq_true rfl) dJ0_length_8abf5_6 ?_
  refine g_ishr C dJ0_length_8abf5_9 ?_
  obtain ⟨rfl, rfl⟩ := os_e hf
  exact g_iret C rfl dJ0_length_8abf5_10
theorem c_J0_length_8abf5 (l : Launch) (dC : Nat → ClassId) (dI : Nat → Nat → Nat) (ad : Nat → Nat) (cy : Nat → ClassId) (i0 : Nat) (hi0 : isStr i0) : ConI l yJ0_length_8abf5 cJ0_length_8abf5 1 (some .int) rm_J0_length_8abf5 dC dI ad cy [.ref (ad (200 + i0))] (fun σ => fJ0_length_8abf5 σ i0) := con_i (own := RJ0) (by decide) rfl (Nat.le_of_ble_eq_true rfl) (fun _ _ _ _ _ _ _ _ σ _ _ C hf => fJ0_length_8abf5_ok C σ i0 hi0 hf)
theorem cal_J0_length_8abf5 : CalV yJ0_length_8abf5 RJ0 cJ0_length_8abf5 1 (some .int) 0 := ⟨hI_J0_length_8abf5, hS_J0_length_8abf5, hIni_J0, hC_J0_length_8abf5, by decide +kernel⟩
abbrev rm_J1_charAt_3b067 : Room := { frames := 2, cells := 0, slots := 0, locals := 43 }
def fJ1_charAt_3b067 (σ : S0) (i0 : Nat) (x1 : Int32) : Option (Int32 × S0) := obp (fJ0_checkIndex_df160 σ x1 (Int32.ofNat (lenS.getD i0 0))) (fun r1 σ2 => og (¬ (x1 < 0 ∨ lenS.getD i0 0 ≤ x1.toNatClampNeg)) (ol ((bytS.getD i0 []).getD x1.toNatClampNeg 0) (fun v5 => ol (((v5 &&& 255).toUInt32 % 65536).toInt32) (fun v6 => og ((v6.toUInt32 % 65536).toInt32 = v6) (some (v6, σ2))))))
set_option maxHeartbeats 1000000 in
set_option maxRecDepth 100000 in
theorem fJ1_charAt_3b067_ok {p : Program} {l : Launch} {e : Env} {s : State} {m : MethodId} {args : Array Value} {below : List Frame} {meth : Method} {c : Code} {dC : Nat → ClassId} {dI : Nat → Nat → Nat} {ad : Nat → Nat} {cy : Nat → ClassId} {sz : Nat} (C : Cx p s m args meth c RJ1 cJ1_charAt_3b067 2 (some .char) dC dI ad cy sz) {rr : Int32} {ρ : S0} (σ : S0) (i0 : Nat) (x1 : Int32) (hi0 : isStr i0) (hf : fJ1_charAt_3b067 σ i0 x1 = some (rr, ρ)) : Gw p l e rm_J1_charAt_3b067 s m args below meth c (MQ below (QcI dC dI ad cy sz rr ρ) args s 0 0 (AW ad sz)) dC dI ad cy 2 sz 0 0 0 [(0, .ref (ad (300 + i0))), (1, .int x1)] [] σ := by
  unfold fJ1_charAt_3b067 at hf
  refine g_iload_n C dJ1_charAt_3b067_0 rfl 1 rfl ?_
  refine g_aload_n C dJ1_charAt_3b067_1 rfl 0 rfl ?_
  refine g_slen C hi0 dJ1_charAt_3b067_2 ?_
  obtain ⟨r1, σ2, h3, hf⟩ := obp_e hf
  refine g_callSv (As := [.int x1, .int (Int32.ofNat (lenS.getD i0 0))]) (rest := []) C (c_J0_checkIndex_df160 l dC dI ad cy x1 (Int32.ofNat (lenS.getD i0 0))) h3 hM_J1_9 cal_J0_checkIndex_df160 ⟨Nat.zero_le _, Nat.zero_le _⟩ ⟨rfl, rfl⟩ ⟨Nat.le_of_ble_eq_true rfl, Nat.le_of_ble_eq_true rfl⟩ rfl rfl (Nat.le_of_ble_eq_true rfl) dJ1_charAt_3b067_3 ?_
  refine g_aload_n C dJ1_charAt_3b067_6 rfl 0 rfl ?_
  refine g_iload_n C dJ1_charAt_3b067_7 rfl 1 rfl ?_
  obtain ⟨h4, hf⟩ := og_e hf
  refine g_sbald C hi0 h4 dJ1_charAt_3b067_8 ?_
  obtain ⟨v5, ev5, hf⟩ := ol_e hf
  refine g_nm ev5 ?_
  refine g_sipush (v := 255) C dJ1_charAt_3b067_9 (by decide) ?_
  refine g_iand C dJ1_charAt_3b067_12 ?_
  refine g_i2c C dJ1_charAt_3b067_13 ?_
  obtain ⟨v6, ev6, hf⟩ := ol_e hf
  refine g_nm ev6 ?_
  obtain ⟨h7, hf⟩ := og_e hf
  obtain ⟨rfl, rfl⟩ := os_e hf
  exact g_tret (ty := .char) C rfl (nc_ok h7) dJ1_charAt_3b067_14
theorem c_J1_charAt_3b067 (l : Launch) (dC : Nat → ClassId) (dI : Nat → Nat → Nat) (ad : Nat → Nat) (cy : Nat → ClassId) (i0 : Nat) (hi0 : isStr i0) (x1 : Int32) : ConI l yJ1_charAt_3b067 cJ1_charAt_3b067 2 (some .char) rm_J1_charAt_3b067 dC dI ad cy [.ref (ad (300 + i0)), .int x1] (fun σ => fJ1_charAt_3b067 σ i0 x1) := con_i (own := RJ1) (by decide) rfl (Nat.le_of_ble_eq_true rfl) (fun _ _ _ _ _ _ _ _ σ _ _ C hf => fJ1_charAt_3b067_ok C σ i0 x1 hi0 hf)
theorem cal_J1_charAt_3b067 : CalS yJ1_charAt_3b067 cJ1_charAt_3b067 2 (some .char) 2 := ⟨hSt_J1_charAt_3b067, hIni_J1, hC_J1_charAt_3b067, by decide +kernel⟩
abbrev rm_J0_charAt_5068e : Room := { frames := 3, cells := 0, slots := 0, locals := 64 }
def fJ0_charAt_5068e (σ : S0) (i0 : Nat) (x1 : Int32) : Option (Int32 × S0) := obp (fJ0_isLatin1_aae02 σ i0) (fun r1 σ2 => if r1 = 0 then (none) else (obp (fJ1_charAt_3b067 σ2 i0 x1) (fun r5 σ6 => og ((r5.toUInt32 % 65536).toInt32 = r5) (some (r5, σ6)))))
set_option maxHeartbeats 1000000 in
set_option maxRecDepth 100000 in
theorem fJ0_charAt_5068e_ok {p : Program} {l : Launch} {e : Env} {s : State} {m : MethodId} {args : Array Value} {below : List Frame} {meth : Method} {c : Code} {dC : Nat → ClassId} {dI : Nat → Nat → Nat} {ad : Nat → Nat} {cy : Nat → ClassId} {sz : Nat} (C : Cx p s m args meth c RJ0 cJ0_charAt_5068e 2 (some .char) dC dI ad cy sz) {rr : Int32} {ρ : S0} (σ : S0) (i0 : Nat) (x1 : Int32) (hi0 : isStr i0) (hf : fJ0_charAt_5068e σ i0 x1 = some (rr, ρ)) : Gw p l e rm_J0_charAt_5068e s m args below meth c (MQ below (QcI dC dI ad cy sz rr ρ) args s 0 0 (AW ad sz)) dC dI ad cy 2 sz 0 0 0 [(0, .ref (ad (200 + i0))), (1, .int x1)] [] σ := by
  unfold fJ0_charAt_5068e at hf
  refine g_aload_n C dJ0_charAt_5068e_0 rfl 0 rfl ?_
  obtain ⟨r1, σ2, h3, hf⟩ := obp_e hf
  refine g_callTi (As := []) (rest := []) C hi0 (c_J0_isLatin1_aae02 l dC dI ad cy i0 hi0) h3 hM_J0_492 cal_J0_isLatin1_aae02 ⟨Nat.zero_le _, Nat.zero_le _⟩ ⟨rfl, rfl⟩ ⟨Nat.le_of_ble_eq_true rfl, Nat.le_of_ble_eq_true rfl⟩ rfl rfl (Nat.le_of_ble_eq_true rfl) dJ0_charAt_5068e_1 ?_
  rcases oi_e hf with ⟨c4, hf⟩ | ⟨c4, hf⟩
  · refine g_if_eq_t (tgt := 16) C dJ0_charAt_5068e_4 (by decide) c4 ?_
    refine g_aload_n C dJ0_charAt_5068e_16 rfl 0 rfl ?_
    refine g_sval C hi0 hF_J0_9 dJ0_charAt_5068e_17 ?_
    refine g_iload_n C dJ0_charAt_5068e_20 rfl 1 rfl ?_
    cases hf
  · refine g_if_eq_f (tgt := 16) C dJ0_charAt_5068e_4 (by decide) c4 ?_
    refine g_aload_n C dJ0_charAt_5068e_7 rfl 0 rfl ?_
    refine g_sval C hi0 hF_J0_9 dJ0_charAt_5068e_8 ?_
    refine g_iload_n C dJ0_charAt_5068e_11 rfl 1 rfl ?_
    obtain ⟨r5, σ6, h7, hf⟩ := obp_e hf
    refine g_callSi (As := [.ref (ad (300 + i0)), .int x1]) (rest := []) C (c_J1_charAt_3b067 l dC dI ad cy i0 hi0 x1) h7 hM_J0_495 cal_J1_charAt_3b067 ⟨Nat.zero_le _, Nat.zero_le _⟩ ⟨rfl, rfl⟩ ⟨Nat.le_of_ble_eq_true rfl, Nat.le_of_ble_eq_true rfl⟩ rfl rfl (Nat.le_of_ble_eq_true rfl) dJ0_charAt_5068e_12 ?_
    obtain ⟨h8, hf⟩ := og_e hf
    obtain ⟨rfl, rfl⟩ := os_e hf
    exact g_tret (ty := .char) C rfl (nc_ok h8) dJ0_charAt_5068e_15
theorem c_J0_charAt_5068e (l : Launch) (dC : Nat → ClassId) (dI : Nat → Nat → Nat) (ad : Nat → Nat) (cy : Nat → ClassId) (i0 : Nat) (hi0 : isStr i0) (x1 : Int32) : ConI l yJ0_charAt_5068e cJ0_charAt_5068e 2 (some .char) rm_J0_charAt_5068e dC dI ad cy [.ref (ad (200 + i0)), .int x1] (fun σ => fJ0_charAt_5068e σ i0 x1) := con_i (own := RJ0) (by decide) rfl (Nat.le_of_ble_eq_true rfl) (fun _ _ _ _ _ _ _ _ σ _ _ C hf => fJ0_charAt_5068e_ok C σ i0 x1 hi0 hf)
theorem cal_J0_charAt_5068e : CalV yJ0_charAt_5068e RJ0 cJ0_charAt_5068e 2 (some .char) 1 := ⟨hI_J0_charAt_5068e, hS_J0_charAt_5068e, hIni_J0, hC_J0_charAt_5068e, by decide +kernel⟩
end
section
abbrev rm_X11_in : Room := { frames := 0, cells := 0, slots := 0, locals := 0 }
def fX11_in (σ : S0) (x0 : Int64) (x2 : Int64) (x4 : Int64) : Option (Int32 × S0) := if (lg_cmp x0 x2) < 0 then (some (0, σ)) else (if 0 < (lg_cmp x0 x4) then (some (0, σ)) else (some (1, σ)))
set_option maxHeartbeats 1000000 in
set_option maxRecDepth 100000 in
theorem fX11_in_ok {p : Program} {l : Launch} {e : Env} {s : State} {m : MethodId} {args : Array Value} {below : List Frame} {meth : Method} {c : Code} {dC : Nat → ClassId} {dI : Nat → Nat → Nat} {ad : Nat → Nat} {cy : Nat → ClassId} {sz : Nat} (C : Cx p s m args meth c RX11 cX11_in 6 (some .boolean) dC dI ad cy sz) {rr : Int32} {ρ : S0} (σ : S0) (x0 : Int64) (x2 : Int64) (x4 : Int64)  (hf : fX11_in σ x0 x2 x4 = some (rr, ρ)) : Gw p l e rm_X11_in s m args below meth c (MQ below (QcI dC dI ad cy sz rr ρ) args s 0 0 (AW ad sz)) dC dI ad cy 6 sz 0 0 0 [(0, .long x0), (2, .long x2), (4, .long x4)] [] σ := by
  unfold fX11_in at hf
  refine g_lload_n C dX11_in_0 rfl 0 rfl ?_
  refine g_lload_n C dX11_in_1 rfl 1 rfl ?_
  refine g_lcmp C dX11_in_2 ?_
  rcases oi_e hf with ⟨c1, hf⟩ | ⟨c1, hf⟩
  · refine g_if_lt_t (tgt := 17) C dX11_in_3 (by decide) c1 ?_
    refine g_iconst (v := 0) C dX11_in_17 (by decide) ?_
    obtain ⟨rfl, rfl⟩ := os_e hf
    exact g_zret C rfl (by decide) dX11_in_18
  · refine g_if_lt_f (tgt := 17) C dX11_in_3 (by decide) c1 ?_
    refine g_lload_n C dX11_in_6 rfl 0 rfl ?_
    refine g_lload C dX11_in_7 2 rfl ?_
    refine g_lcmp C dX11_in_9 ?_
    rcases oi_e hf with ⟨c2, hf⟩ | ⟨c2, hf⟩
    · refine g_if_gt_t (tgt := 17) C dX11_in_10 (by decide) c2 ?_
      refine g_iconst (v := 0) C dX11_in_17 (by decide) ?_
      obtain ⟨rfl, rfl⟩ := os_e hf
      exact g_zret C rfl (by decide) dX11_in_18
    · refine g_if_gt_f (tgt := 17) C dX11_in_10 (by decide) c2 ?_
      refine g_iconst (v := 1) C dX11_in_13 (by decide) ?_
      refine g_goto (tgt := 18) C dX11_in_14 (by decide) ?_
      obtain ⟨rfl, rfl⟩ := os_e hf
      exact g_zret C rfl (by decide) dX11_in_18
theorem c_X11_in (l : Launch) (dC : Nat → ClassId) (dI : Nat → Nat → Nat) (ad : Nat → Nat) (cy : Nat → ClassId) (x0 : Int64) (x2 : Int64) (x4 : Int64) : ConI l yX11_in cX11_in 6 (some .boolean) rm_X11_in dC dI ad cy [.long x0, .long x2, .long x4] (fun σ => fX11_in σ x0 x2 x4) := con_i (own := RX11) (by decide) rfl (Nat.le_of_ble_eq_true rfl) (fun _ _ _ _ _ _ _ _ σ _ _ C hf => fX11_in_ok C σ x0 x2 x4 hf)
theorem cal_X11_in : CalS yX11_in cX11_in 6 (some .boolean) 3 := ⟨hSt_X11_in, hIni_X11, hC_X11_in, by decide +kernel⟩
abbrev rm_X11_flag : Room := { frames := 0, cells := 0, slots := 0, locals := 0 }
def fX11_flag (σ : S0) (x0 : Int32) : Option (Int32 × S0) := if x0 = 0 then (some (0, σ)) else (some (1, σ))
set_option maxHeartbeats 1000000 in
set_option maxRecDepth 100000 in
theorem fX11_flag_ok {p : Program} {l : Launch} {e : Env} {s : State} {m : MethodId} {args : Array Value} {below : List Frame} {meth : Method} {c : Code} {dC : Nat → ClassId} {dI : Nat → Nat → Nat} {ad : Nat → Nat} {cy : Nat → ClassId} {sz : Nat} (C : Cx p s m args meth c RX11 cX11_flag 1 (some .int) dC dI ad cy sz) {rr : Int32} {ρ : S0} (σ : S0) (x0 : Int32)  (hf : fX11_flag σ x0 = some (rr, ρ)) : Gw p l e rm_X11_flag s m args below meth c (MQ below (QcI dC dI ad cy sz rr ρ) args s 0 0 (AW ad sz)) dC dI ad cy 1 sz 0 0 0 [(0, .int x0)] [] σ := by
  unfold fX11_flag at hf
  refine g_iload_n C dX11_flag_0 rfl 0 rfl ?_
  rcases oi_e hf with ⟨c1, hf⟩ | ⟨c1, hf⟩
  · refine g_if_eq_t (tgt := 8) C dX11_flag_1 (by decide) c1 ?_
    refine g_iconst (v := 0) C dX11_flag_8 (by decide) ?_
    obtain ⟨rfl, rfl⟩ := os_e hf
    exact g_iret C rfl dX11_flag_9
  · refine g_if_eq_f (tgt := 8) C dX11_flag_1 (by decide) c1 ?_
    refine g_iconst (v := 1) C dX11_flag_4 (by decide) ?_
    refine g_goto (tgt := 9) C dX11_flag_5 (by decide) ?_
    obtain ⟨rfl, rfl⟩ := os_e hf
    exact g_iret C rfl dX11_flag_9
theorem c_X11_flag (l : Launch) (dC : Nat → ClassId) (dI : Nat → Nat → Nat) (ad : Nat → Nat) (cy : Nat → ClassId) (x0 : Int32) : ConI l yX11_flag cX11_flag 1 (some .int) rm_X11_flag dC dI ad cy [.int x0] (fun σ => fX11_flag σ x0) := con_i (own := RX11) (by decide) rfl (Nat.le_of_ble_eq_true rfl) (fun _ _ _ _ _ _ _ _ σ _ _ C hf => fX11_flag_ok C σ x0 hf)
theorem cal_X11_flag : CalS yX11_flag cX11_flag 1 (some .int) 1 := ⟨hSt_X11_flag, hIni_X11, hC_X11_flag, by decide +kernel⟩
abbrev rm_X11_size : Room := { frames := 0, cells := 0, slots := 0, locals := 0 }
def fX11_size (σ : S0) (x0 : Int32) : Option (Int32 × S0) := if 0 ≤ x0 then (some (x0, σ)) else (some (-x0, σ))
set_option maxHeartbeats 1000000 in
set_option maxRecDepth 100000 in
theorem fX11_size_ok {p : Program} {l : Launch} {e : Env} {s : State} {m : MethodId} {args : Array Value} {below : List Frame} {meth : Method} {c : Code} {dC : Nat → ClassId} {dI : Nat → Nat → Nat} {ad : Nat → Nat} {cy : Nat → ClassId} {sz : Nat} (C : Cx p s m args meth c RX11 cX11_size 1 (some .int) dC dI ad cy sz) {rr : Int32} {ρ : S0} (σ : S0) (x0 : Int32)  (hf : fX11_size σ x0 = some (rr, ρ)) : Gw p l e rm_X11_size s m args below meth c (MQ below (QcI dC dI ad cy sz rr ρ) args s 0 0 (AW ad sz)) dC dI ad cy 1 sz 0 0 0 [(0, .int x0)] [] σ := by
  unfold fX11_size at hf
  refine g_iload_n C dX11_size_0 rfl 0 rfl ?_
  rcases oi_e hf with ⟨c1, hf⟩ | ⟨c1, hf⟩
  · refine g_if_ge_t (tgt := 9) C dX11_size_1 (by decide) c1 ?_
    refine g_iload_n C dX11_size_9 rfl 0 rfl ?_
    obtain ⟨rfl, rfl⟩ := os_e hf
    exact g_iret C rfl dX11_size_10
  · refine g_if_ge_f (tgt := 9) C dX11_size_1 (by decide) c1 ?_
    refine g_iload_n C dX11_size_4 rfl 0 rfl ?_
    refine g_ineg C dX11_size_5 ?_
    refine g_goto (tgt := 10) C dX11_size_6 (by decide) ?_
    obtain ⟨rfl, rfl⟩ := os_e hf
    exact g_iret C rfl dX11_size_10
theorem c_X11_size (l : Launch) (dC : Nat → ClassId) (dI : Nat → Nat → Nat) (ad : Nat → Nat) (cy : Nat → ClassId) (x0 : Int32) : ConI l yX11_size cX11_size 1 (some .int) rm_X11_size dC dI ad cy [.int x0] (fun σ => fX11_size σ x0) := con_i (own := RX11) (by decide) rfl (Nat.le_of_ble_eq_true rfl) (fun _ _ _ _ _ _ _ _ σ _ _ C hf => fX11_size_ok C σ x0 hf)
theorem cal_X11_size : CalS yX11_size cX11_size 1 (some .int) 1 := ⟨hSt_X11_size, hIni_X11, hC_X11_size, by decide +kernel⟩
abbrev rm_X11_firstDraft : Room := { frames := 0, cells := 0, slots := 0, locals := 0 }
def fX11_firstDraft_b2 (sf_2 : S0 → Int32 → Option (Int32 × S0)) (σ : S0) (x1 : Int32) : Option (Int32 × S0) := if (80 : Int32) ≤ x1 then (ol (su σ 98 9 3) (fun σ2 => ol (su σ2 98 10 3) (fun σ3 => ol (su σ3 98 11 0) (fun σ4 => ol (su σ4 98 12 0) (fun σ5 => ol (su σ5 98 13 ((-4))) (fun σ6 => ol (su σ6 98 14 ((-4))) (fun σ7 => ol (su σ7 98 15 0) (fun σ8 => some (0, σ8))))))))) else (og (¬ (x1 < 0 ∨ 80 ≤ x1.toNatClampNeg)) (ol (su σ 102 x1.toNatClampNeg 0) (fun σ10 => ol (x1 + 1) (fun v11 => sf_2 σ10 v11))))
set_option maxHeartbeats 1000000 in
set_option maxRecDepth 100000 in
theorem fX11_firstDraft_b2_ok {p : Program} {l : Launch} {e : Env} {s : State} {m : MethodId} {args : Array Value} {below : List Frame} {meth : Method} {c : Code} {dC : Nat → ClassId} {dI : Nat → Nat → Nat} {ad : Nat → Nat} {cy : Nat → ClassId} {sz : Nat} (C : Cx p s m args meth c RX11 cX11_firstDraft 2 none dC dI ad cy sz) {rr : Int32} {ρ : S0} (sf_2 : S0 → Int32 → Option (Int32 × S0)) (hs_2 : ∀ (σ : S0) (x1 : Int32) , sf_2 σ x1 = some (rr, ρ) → Gw p l e rm_X11_firstDraft s m args below meth c (MQ below (QcV dC dI ad cy sz ρ) args s 0 0 (AW ad sz)) dC dI ad cy 2 sz 0 0 2 [(0, .ref (ad 98)), (1, .int x1)] [] σ) (σ : S0) (x1 : Int32)  (hf : fX11_firstDraft_b2 sf_2 σ x1 = some (rr, ρ)) : Gw p l e rm_X11_firstDraft s m args below meth c (MQ below (QcV dC dI ad cy sz ρ) args s 0 0 (AW ad sz)) dC dI ad cy 2 sz 0 0 2 [(0, .ref (ad 98)), (1, .int x1)] [] σ := by
  unfold fX11_firstDraft_b2 at hf
  refine g_iload_n C dX11_firstDraft_2 rfl 1 rfl ?_
  refine g_bipush (v := 80) C dX11_firstDraft_3 (by decide) ?_
  rcases oi_e hf with ⟨c1, hf⟩ | ⟨c1, hf⟩
  · refine g_icmp_ge_t (tgt := 21) C dX11_firstDraft_5 (by decide) c1 ?_
    refine g_aload_n C dX11_firstDraft_21 rfl 0 rfl ?_
    refine g_iconst (v := 3) C dX11_firstDraft_22 (by decide) ?_
    obtain ⟨σ2, eσ2, hf⟩ := ol_e hf
    refine g_put (ty := .int) C (a_98 ad cy _) rfl hin_X11 tyX11 tyX11_ok nmX11 9 (by decide) hF_X11_53 rfl rfl (by decide +kernel) rfl rfl (Nat.le_of_ble_eq_true rfl) (p_98_9 ad cy _ _) eσ2 dX11_firstDraft_23 ?_
    refine g_aload_n C dX11_firstDraft_26 rfl 0 rfl ?_
    refine g_iconst (v := 3) C dX11_firstDraft_27 (by decide) ?_
    obtain ⟨σ3, eσ3, hf⟩ := ol_e hf
    refine g_put (ty := .int) C (a_98 ad cy _) rfl hin_X11 tyX11 tyX11_ok nmX11 10 (by decide) hF_X11_57 rfl rfl (by decide +kernel) rfl rfl (Nat.le_of_ble_eq_true rfl) (p_98_10 ad cy _ _) eσ3 dX11_firstDraft_28 ?_
    refine g_aload_n C dX11_firstDraft_31 rfl 0 rfl ?_
    refine g_iconst (v := 0) C dX11_firstDraft_32 (by decide) ?_
    obtain ⟨σ4, eσ4, hf⟩ := ol_e hf
    refine g_put (ty := .int) C (a_98 ad cy _) rfl hin_X11 tyX11 tyX11_ok nmX11 11 (by decide) hF_X11_60 rfl rfl (by decide +kernel) rfl rfl (Nat.le_of_ble_eq_true rfl) (p_98_11 ad cy _ _) eσ4 dX11_firstDraft_33 ?_
    refine g_aload_n C dX11_firstDraft_36 rfl 0 rfl ?_
    refine g_iconst (v := 0) C dX11_firstDraft_37 (by decide) ?_
    obtain ⟨σ5, eσ5, hf⟩ := ol_e hf
    refine g_put (ty := .int) C (a_98 ad cy _) rfl hin_X11 tyX11 tyX11_ok nmX11 12 (by decide) hF_X11_63 rfl rfl (by decide +kernel) rfl rfl (Nat.le_of_ble_eq_true rfl) (p_98_12 ad cy _ _) eσ5 dX11_firstDraft_38 ?_
    refine g_aload_n C dX11_firstDraft_41 rfl 0 rfl ?_
    refine g_bipush (v := (-4)) C dX11_firstDraft_42 (by decide) ?_
    obtain ⟨σ6, eσ6, hf⟩ := ol_e hf
    refine g_put (ty := .int) C (a_98 ad cy _) rfl hin_X11 tyX11 tyX11_ok nmX11 13 (by decide) hF_X11_66 rfl rfl (by decide +kernel) rfl rfl (Nat.le_of_ble_eq_true rfl) (p_98_13 ad cy _ _) eσ6 dX11_firstDraft_44 ?_
    refine g_aload_n C dX11_firstDraft_47 rfl 0 rfl ?_
    refine g_bipush (v := (-4)) C dX11_firstDraft_48 (by decide) ?_
    obtain ⟨σ7, eσ7, hf⟩ := ol_e hf
    refine g_put (ty := .int) C (a_98 ad cy _) rfl hin_X11 tyX11 tyX11_ok nmX11 14 (by decide) hF_X11_69 rfl rfl (by decide +kernel) rfl rfl (Nat.le_of_ble_eq_true rfl) (p_98_14 ad cy _ _) eσ7 dX11_firstDraft_50 ?_
    refine g_aload_n C dX11_firstDraft_53 rfl 0 rfl ?_
    refine g_iconst (v := 0) C dX11_firstDraft_54 (by decide) ?_
    obtain ⟨σ8, eσ8, hf⟩ := ol_e hf
    refine g_put (ty := .int) C (a_98 ad cy _) rfl hin_X11 tyX11 tyX11_ok nmX11 15 (by decide) hF_X11_72 rfl rfl (by decide +kernel) rfl rfl (Nat.le_of_ble_eq_true rfl) (p_98_15 ad cy _ _) eσ8 dX11_firstDraft_55 ?_
    obtain ⟨rfl, rfl⟩ := os_e hf
    exact g_vret C rfl dX11_firstDraft_58
  · refine g_icmp_ge_f (tgt := 21) C dX11_firstDraft_5 (by decide) c1 ?_
    refine g_aload_n C dX11_firstDraft_8 rfl 0 rfl ?_
    refine g_get C (a_98 ad cy _) rfl hin_X11 7 (by decide) hF_X11_20 rfl rfl dX11_firstDraft_9 ?_
    refine g_iload_n C dX11_firstDraft_12 rfl 1 rfl ?_
    refine g_iconst (v := 0) C dX11_firstDraft_13 (by decide) ?_
    obtain ⟨h9, hf⟩ := og_e hf
    obtain ⟨σ10, eσ10, hf⟩ := ol_e hf
    refine g_iast C (a_102 ad cy _) h9 (w_102 ad cy _) eσ10 dX11_firstDraft_14 ?_
    obtain ⟨v11, ev11, hf⟩ := ol_e hf
    refine g_iinc (j := 1) (w := 1) (lv2 := [(0, .ref (ad 98)), (1, .int v11)]) C dX11_firstDraft_15 rfl (by decide) ev11 (by decide) [1, 0] rfl ?_
    refine g_goto (tgt := 2) C dX11_firstDraft_18 (by decide) ?_
    exact g_sub [0, 1] rfl (hs_2 σ10 v11 hf)
def fX11_firstDraft_h2  : Nat → S0 → Int32 → Option (Int32 × S0)
  | 0 => fun _ _ => none
  | n + 1 => fun σ x1 => fX11_firstDraft_b2  (fX11_firstDraft_h2  n) σ x1
set_option maxHeartbeats 1000000 in
set_option maxRecDepth 100000 in
theorem fX11_firstDraft_h2_ok {p : Program} {l : Launch} {e : Env} {s : State} {m : MethodId} {args : Array Value} {below : List Frame} {meth : Method} {c : Code} {dC : Nat → ClassId} {dI : Nat → Nat → Nat} {ad : Nat → Nat} {cy : Nat → ClassId} {sz : Nat} (C : Cx p s m args meth c RX11 cX11_firstDraft 2 none dC dI ad cy sz) {rr : Int32} {ρ : S0}  : ∀ (n : Nat) (σ : S0) (x1 : Int32)  (_hf : fX11_firstDraft_h2  n σ x1 = some (rr, ρ)), Gw p l e rm_X11_firstDraft s m args below meth c (MQ below (QcV dC dI ad cy sz ρ) args s 0 0 (AW ad sz)) dC dI ad cy 2 sz 0 0 2 [(0, .ref (ad 98)), (1, .int x1)] [] σ
  | 0, _, _, hf => by cases hf
  | n + 1, σ, x1, hf => fX11_firstDraft_b2_ok C  (fX11_firstDraft_h2  n) (fX11_firstDraft_h2_ok C  n) σ x1 hf
def fX11_firstDraft (σ : S0)  : Option (Int32 × S0) := fX11_firstDraft_h2 400 σ 0
set_option maxHeartbeats 1000000 in
set_option maxRecDepth 100000 in
theorem fX11_firstDraft_ok {p : Program} {l : Launch} {e : Env} {s : State} {m : MethodId} {args : Array Value} {below : List Frame} {meth : Method} {c : Code} {dC : Nat → ClassId} {dI : Nat → Nat → Nat} {ad : Nat → Nat} {cy : Nat → ClassId} {sz : Nat} (C : Cx p s m args meth c RX11 cX11_firstDraft 2 none dC dI ad cy sz) {rr : Int32} {ρ : S0} (σ : S0)   (hf : fX11_firstDraft σ = some (rr, ρ)) : Gw p l e rm_X11_firstDraft s m args below meth c (MQ below (QcV dC dI ad cy sz ρ) args s 0 0 (AW ad sz)) dC dI ad cy 2 sz 0 0 0 [(0, .ref (ad 98))] [] σ := by
  unfold fX11_firstDraft at hf
  refine g_iconst (v := 0) C dX11_firstDraft_0 (by decide) ?_
  refine g_istore_n (lv2 := [(0, .ref (ad 98)), (1, .int 0)]) C dX11_firstDraft_1 rfl (by decide) [1, 0] rfl ?_
  exact g_sub [0, 1] rfl (fX11_firstDraft_h2_ok C 400 σ 0 hf)
theorem c_X11_firstDraft (l : Launch) (dC : Nat → ClassId) (dI : Nat → Nat → Nat) (ad : Nat → Nat) (cy : Nat → ClassId)  : ConV l yX11_firstDraft cX11_firstDraft 2 none rm_X11_firstDraft dC dI ad cy [.ref (ad 98)] (fun σ => fX11_firstDraft σ) := con_v (own := RX11) (by decide) rfl (Nat.le_of_ble_eq_true rfl) (fun _ _ _ _ _ _ _ _ σ _ _ C hf => fX11_firstDraft_ok C σ  hf)
theorem cal_X11_firstDraft : CalV yX11_firstDraft RX11 cX11_firstDraft 2 none 0 := ⟨hI_X11_firstDraft, hS_X11_firstDraft, hIni_X11, hC_X11_firstDraft, by decide +kernel⟩
abbrev rm_X11_keepDraft : Room := { frames := 0, cells := 0, slots := 0, locals := 0 }
def fX11_keepDraft_b28 (sf_28 : S0 → Int32 → Option (Int32 × S0)) (σ : S0) (x1 : Int32) : Option (Int32 × S0) := if (84 : Int32) ≤ x1 then (ol (σ 98 9) (fun v2 => ol (su σ 98 2 v2) (fun σ3 => ol (σ3 98 10) (fun v4 => ol (su σ3 98 3 v4) (fun σ5 => ol (σ5 98 11) (fun v6 => ol (su σ5 98 4 v6) (fun σ7 => ol (σ7 98 12) (fun v8 => ol (su σ7 98 5 v8) (fun σ9 => og (¬ (((0 : Int32)) < 0 ∨ 2 ≤ ((0 : Int32)).toNatClampNeg)) (ol (su σ9 100 ((0 : Int32)).toNatClampNeg (vp_nar .boolean 0)) (fun σ11 => og (¬ (((1 : Int32)) < 0 ∨ 2 ≤ ((1 : Int32)).toNatClampNeg)) (ol (su σ11 100 ((1 : Int32)).toNatClampNeg (vp_nar .boolean 0)) (fun σ13 => some (0, σ13)))))))))))))) else (og (¬ (x1 < 0 ∨ 84 ≤ x1.toNatClampNeg)) (ol (σ 103 x1.toNatClampNeg) (fun v15 => og (¬ (x1 < 0 ∨ 84 ≤ x1.toNatClampNeg)) (ol (su σ 101 x1.toNatClampNeg v15) (fun σ17 => ol (x1 + 1) (fun v18 => sf_28 σ17 v18))))))
set_option maxHeartbeats 1000000 in
set_option maxRecDepth 100000 in
theorem fX11_keepDraft_b28_ok {p : Program} {l : Launch} {e : Env} {s : State} {m : MethodId} {args : Array Value} {below : List Frame} {meth : Method} {c : Code} {dC : Nat → ClassId} {dI : Nat → Nat → Nat} {ad : Nat → Nat} {cy : Nat → ClassId} {sz : Nat} (C : Cx p s m args meth c RX11 cX11_keepDraft 2 none dC dI ad cy sz) {rr : Int32} {ρ : S0} (sf_28 : S0 → Int32 → Option (Int32 × S0)) (hs_28 : ∀ (σ : S0) (x1 : Int32) , sf_28 σ x1 = some (rr, ρ) → Gw p l e rm_X11_keepDraft s m args below meth c (MQ below (QcV dC dI ad cy sz ρ) args s 0 0 (AW ad sz)) dC dI ad cy 2 sz 0 0 28 [(0, .ref (ad 98)), (1, .int x1)] [] σ) (σ : S0) (x1 : Int32)  (hf : fX11_keepDraft_b28 sf_28 σ x1 = some (rr, ρ)) : Gw p l e rm_X11_keepDraft s m args below meth c (MQ below (QcV dC dI ad cy sz ρ) args s 0 0 (AW ad sz)) dC dI ad cy 2 sz 0 0 28 [(0, .ref (ad 98)), (1, .int x1)] [] σ := by
  unfold fX11_keepDraft_b28 at hf
  refine g_iload_n C dX11_keepDraft_28 rfl 1 rfl ?_
  refine g_bipush (v := 84) C dX11_keepDraft_29 (by decide) ?_
  rcases oi_e hf with ⟨c1, hf⟩ | ⟨c1, hf⟩
  · refine g_icmp_ge_t (tgt := 52) C dX11_keepDraft_31 (by decide) c1 ?_
    refine g_aload_n C dX11_keepDraft_52 rfl 0 rfl ?_
    refine g_aload_n C dX11_keepDraft_53 rfl 0 rfl ?_
    refine g_get C (a_98 ad cy _) rfl hin_X11 9 (by decide) hF_X11_53 rfl rfl dX11_keepDraft_54 ?_
    obtain ⟨v2, ev2, hf⟩ := ol_e hf
    refine g_nm ev2 ?_
    obtain ⟨σ3, eσ3, hf⟩ := ol_e hf
    refine g_put (ty := .int) C (a_98 ad cy _) rfl hin_X11 tyX11 tyX11_ok nmX11 2 (by decide) hF_X11_75 rfl rfl (by decide +kernel) rfl rfl (Nat.le_of_ble_eq_true rfl) (p_98_2 ad cy _ _) eσ3 dX11_keepDraft_57 ?_
    refine g_aload_n C dX11_keepDraft_60 rfl 0 rfl ?_
    refine g_aload_n C dX11_keepDraft_61 rfl 0 rfl ?_
    refine g_get C (a_98 ad cy _) rfl hin_X11 10 (by decide) hF_X11_57 rfl rfl dX11_keepDraft_62 ?_
    obtain ⟨v4, ev4, hf⟩ := ol_e hf
    refine g_nm ev4 ?_
    obtain ⟨σ5, eσ5, hf⟩ := ol_e hf
    refine g_put (ty := .int) C (a_98 ad cy _) rfl hin_X11 tyX11 tyX11_ok nmX11 3 (by decide) hF_X11_78 rfl rfl (by decide +kernel) rfl rfl (Nat.le_of_ble_eq_true rfl) (p_98_3 ad cy _ _) eσ5 dX11_keepDraft_65 ?_
    refine g_aload_n C dX11_keepDraft_68 rfl 0 rfl ?_
    refine g_aload_n C dX11_keepDraft_69 rfl 0 rfl ?_
    refine g_get C (a_98 ad cy _) rfl hin_X11 11 (by decide) hF_X11_60 rfl rfl dX11_keepDraft_70 ?_
    obtain ⟨v6, ev6, hf⟩ := ol_e hf
    refine g_nm ev6 ?_
    obtain ⟨σ7, eσ7, hf⟩ := ol_e hf
    refine g_put (ty := .int) C (a_98 ad cy _) rfl hin_X11 tyX11 tyX11_ok nmX11 4 (by decide) hF_X11_81 rfl rfl (by decide +kernel) rfl rfl (Nat.le_of_ble_eq_true rfl) (p_98_4 ad cy _ _) eσ7 dX11_keepDraft_73 ?_
    refine g_aload_n C dX11_keepDraft_76 rfl 0 rfl ?_
    refine g_aload_n C dX11_keepDraft_77 rfl 0 rfl ?_
    refine g_get C (a_98 ad cy _) rfl hin_X11 12 (by decide) hF_X11_63 rfl rfl dX11_keepDraft_78 ?_
    obtain ⟨v8, ev8, hf⟩ := ol_e hf
    refine g_nm ev8 ?_
    obtain ⟨σ9, eσ9, hf⟩ := ol_e hf
    refine g_put (ty := .int) C (a_98 ad cy _) rfl hin_X11 tyX11 tyX11_ok nmX11 5 (by decide) hF_X11_84 rfl rfl (by decide +kernel) rfl rfl (Nat.le_of_ble_eq_true rfl) (p_98_5 ad cy _ _) eσ9 dX11_keepDraft_81 ?_
    refine g_aload_n C dX11_keepDraft_84 rfl 0 rfl ?_
    refine g_get C (a_98 ad cy _) rfl hin_X11 1 (by decide) hF_X11_13 rfl rfl dX11_keepDraft_85 ?_
    refine g_iconst (v := 0) C dX11_keepDraft_88 (by decide) ?_
    refine g_iconst (v := 0) C dX11_keepDraft_89 (by decide) ?_
    obtain ⟨h10, hf⟩ := og_e hf
    obtain ⟨σ11, eσ11, hf⟩ := ol_e hf
    refine g_zast C (a_100 ad cy _) h10 (w_100 ad cy _) eσ11 dX11_keepDraft_90 ?_
    refine g_aload_n C dX11_keepDraft_91 rfl 0 rfl ?_
    refine g_get C (a_98 ad cy _) rfl hin_X11 1 (by decide) hF_X11_13 rfl rfl dX11_keepDraft_92 ?_
    refine g_iconst (v := 1) C dX11_keepDraft_95 (by decide) ?_
    refine g_iconst (v := 0) C dX11_keepDraft_96 (by decide) ?_
    obtain ⟨h12, hf⟩ := og_e hf
    obtain ⟨σ13, eσ13, hf⟩ := ol_e hf
    refine g_zast C (a_100 ad cy _) h12 (w_100 ad cy _) eσ13 dX11_keepDraft_97 ?_
    obtain ⟨rfl, rfl⟩ := os_e hf
    exact g_vret C rfl dX11_keepDraft_98
  · refine g_icmp_ge_f (tgt := 52) C dX11_keepDraft_31 (by decide) c1 ?_
    refine g_aload_n C dX11_keepDraft_34 rfl 0 rfl ?_
    refine g_get C (a_98 ad cy _) rfl hin_X11 6 (by decide) hF_X11_17 rfl rfl dX11_keepDraft_35 ?_
    refine g_iload_n C dX11_keepDraft_38 rfl 1 rfl ?_
    refine g_aload_n C dX11_keepDraft_39 rfl 0 rfl ?_
    refine g_get C (a_98 ad cy _) rfl hin_X11 8 (by decide) hF_X11_23 rfl rfl dX11_keepDraft_40 ?_
    refine g_iload_n C dX11_keepDraft_43 rfl 1 rfl ?_
    obtain ⟨h14, hf⟩ := og_e hf
    refine g_iald C (a_103 ad cy _) h14 dX11_keepDraft_44 ?_
    obtain ⟨v15, ev15, hf⟩ := ol_e hf
    refine g_nm ev15 ?_
    obtain ⟨h16, hf⟩ := og_e hf
    obtain ⟨σ17, eσ17, hf⟩ := ol_e hf
    refine g_iast C (a_101 ad cy _) h16 (w_101 ad cy _) eσ17 dX11_keepDraft_45 ?_
    obtain ⟨v18, ev18, hf⟩ := ol_e hf
    refine g_iinc (j := 1) (w := 1) (lv2 := [(0, .ref (ad 98)), (1, .int v18)]) C dX11_keepDraft_46 rfl (by decide) ev18 (by decide) [1, 0] rfl ?_
    refine g_goto (tgt := 28) C dX11_keepDraft_49 (by decide) ?_
    exact g_sub [0, 1] rfl (hs_28 σ17 v18 hf)
def fX11_keepDraft_h28  : Nat → S0 → Int32 → Option (Int32 × S0)
  | 0 => fun _ _ => none
  | n + 1 => fun σ x1 => fX11_keepDraft_b28  (fX11_keepDraft_h28  n) σ x1
set_option maxHeartbeats 1000000 in
set_option maxRecDepth 100000 in
theorem fX11_keepDraft_h28_ok {p : Program} {l : Launch} {e : Env} {s : State} {m : MethodId} {args : Array Value} {below : List Frame} {meth : Method} {c : Code} {dC : Nat → ClassId} {dI : Nat → Nat → Nat} {ad : Nat → Nat} {cy : Nat → ClassId} {sz : Nat} (C : Cx p s m args meth c RX11 cX11_keepDraft 2 none dC dI ad cy sz) {rr : Int32} {ρ : S0}  : ∀ (n : Nat) (σ : S0) (x1 : Int32)  (_hf : fX11_keepDraft_h28  n σ x1 = some (rr, ρ)), Gw p l e rm_X11_keepDraft s m args below meth c (MQ below (QcV dC dI ad cy sz ρ) args s 0 0 (AW ad sz)) dC dI ad cy 2 sz 0 0 28 [(0, .ref (ad 98)), (1, .int x1)] [] σ
  | 0, _, _, hf => by cases hf
  | n + 1, σ, x1, hf => fX11_keepDraft_b28_ok C  (fX11_keepDraft_h28  n) (fX11_keepDraft_h28_ok C  n) σ x1 hf
def fX11_keepDraft_b2 (sf_2 : S0 → Int32 → Option (Int32 × S0)) (σ : S0) (x1 : Int32) : Option (Int32 × S0) := if (80 : Int32) ≤ x1 then (fX11_keepDraft_h28 400 σ 0) else (og (¬ (x1 < 0 ∨ 80 ≤ x1.toNatClampNeg)) (ol (σ 102 x1.toNatClampNeg) (fun v3 => og (¬ (x1 < 0 ∨ 240 ≤ x1.toNatClampNeg)) (ol (su σ 99 x1.toNatClampNeg v3) (fun σ5 => ol (x1 + 1) (fun v6 => sf_2 σ5 v6))))))
set_option maxHeartbeats 1000000 in
set_option maxRecDepth 100000 in
theorem fX11_keepDraft_b2_ok {p : Program} {l : Launch} {e : Env} {s : State} {m : MethodId} {args : Array Value} {below : List Frame} {meth : Method} {c : Code} {dC : Nat → ClassId} {dI : Nat → Nat → Nat} {ad : Nat → Nat} {cy : Nat → ClassId} {sz : Nat} (C : Cx p s m args meth c RX11 cX11_keepDraft 2 none dC dI ad cy sz) {rr : Int32} {ρ : S0} (sf_2 : S0 → Int32 → Option (Int32 × S0)) (hs_2 : ∀ (σ : S0) (x1 : Int32) , sf_2 σ x1 = some (rr, ρ) → Gw p l e rm_X11_keepDraft s m args below meth c (MQ below (QcV dC dI ad cy sz ρ) args s 0 0 (AW ad sz)) dC dI ad cy 2 sz 0 0 2 [(0, .ref (ad 98)), (1, .int x1)] [] σ) (σ : S0) (x1 : Int32)  (hf : fX11_keepDraft_b2 sf_2 σ x1 = some (rr, ρ)) : Gw p l e rm_X11_keepDraft s m args below meth c (MQ below (QcV dC dI ad cy sz ρ) args s 0 0 (AW ad sz)) dC dI ad cy 2 sz 0 0 2 [(0, .ref (ad 98)), (1, .int x1)] [] σ := by
  unfold fX11_keepDraft_b2 at hf
  refine g_iload_n C dX11_keepDraft_2 rfl 1 rfl ?_
  refine g_bipush (v := 80) C dX11_keepDraft_3 (by decide) ?_
  rcases oi_e hf with ⟨c1, hf⟩ | ⟨c1, hf⟩
  · refine g_icmp_ge_t (tgt := 26) C dX11_keepDraft_5 (by decide) c1 ?_
    refine g_iconst (v := 0) C dX11_keepDraft_26 (by decide) ?_
    refine g_istore_n (lv2 := [(0, .ref (ad 98)), (1, .int 0)]) C dX11_keepDraft_27 rfl (by decide) [1, 0] rfl ?_
    exact g_sub [0, 1] rfl (fX11_keepDraft_h28_ok C 400 σ 0 hf)
  · refine g_icmp_ge_f (tgt := 26) C dX11_keepDraft_5 (by decide) c1 ?_
    refine g_aload_n C dX11_keepDraft_8 rfl 0 rfl ?_
    refine g_get C (a_98 ad cy _) rfl hin_X11 0 (by decide) hF_X11_7 rfl rfl dX11_keepDraft_9 ?_
    refine g_iload_n C dX11_keepDraft_12 rfl 1 rfl ?_
    refine g_aload_n C dX11_keepDraft_13 rfl 0 rfl ?_
    refine g_get C (a_98 ad cy _) rfl hin_X11 7 (by decide) hF_X11_20 rfl rfl dX11_keepDraft_14 ?_
    refine g_iload_n C dX11_keepDraft_17 rfl 1 rfl ?_
    obtain ⟨h2, hf⟩ := og_e hf
    refine g_iald C (a_102 ad cy _) h2 dX11_keepDraft_18 ?_
    obtain ⟨v3, ev3, hf⟩ := ol_e hf
    refine g_nm ev3 ?_
    obtain ⟨h4, hf⟩ := og_e hf
    obtain ⟨σ5, eσ5, hf⟩ := ol_e hf
    refine g_iast C (a_99 ad cy _) h4 (w_99 ad cy _) eσ5 dX11_keepDraft_19 ?_
    obtain ⟨v6, ev6, hf⟩ := ol_e hf
    refine g_iinc (j := 1) (w := 1) (lv2 := [(0, .ref (ad 98)), (1, .int v6)]) C dX11_keepDraft_20 rfl (by decide) ev6 (by decide) [1, 0] rfl ?_
    refine g_goto (tgt := 2) C dX11_keepDraft_23 (by decide) ?_
    exact g_sub [0, 1] rfl (hs_2 σ5 v6 hf)
def fX11_keepDraft_h2  : Nat → S0 → Int32 → Option (Int32 × S0)
  | 0 => fun _ _ => none
  | n + 1 => fun σ x1 => fX11_keepDraft_b2  (fX11_keepDraft_h2  n) σ x1
set_option maxHeartbeats 1000000 in
set_option maxRecDepth 100000 in
theorem fX11_keepDraft_h2_ok {p : Program} {l : Launch} {e : Env} {s : State} {m : MethodId} {args : Array Value} {below : List Frame} {meth : Method} {c : Code} {dC : Nat → ClassId} {dI : Nat → Nat → Nat} {ad : Nat → Nat} {cy : Nat → ClassId} {sz : Nat} (C : Cx p s m args meth c RX11 cX11_keepDraft 2 none dC dI ad cy sz) {rr : Int32} {ρ : S0}  : ∀ (n : Nat) (σ : S0) (x1 : Int32)  (_hf : fX11_keepDraft_h2  n σ x1 = some (rr, ρ)), Gw p l e rm_X11_keepDraft s m args below meth c (MQ below (QcV dC dI ad cy sz ρ) args s 0 0 (AW ad sz)) dC dI ad cy 2 sz 0 0 2 [(0, .ref (ad 98)), (1, .int x1)] [] σ
  | 0, _, _, hf => by cases hf
  | n + 1, σ, x1, hf => fX11_keepDraft_b2_ok C  (fX11_keepDraft_h2  n) (fX11_keepDraft_h2_ok C  n) σ x1 hf
def fX11_keepDraft (σ : S0)  : Option (Int32 × S0) := fX11_keepDraft_h2 400 σ 0
set_option maxHeartbeats 1000000 in
set_option maxRecDepth 100000 in
theorem fX11_keepDraft_ok {p : Program} {l : Launch} {e : Env} {s : State} {m : MethodId} {args : Array Value} {below : List Frame} {meth : Method} {c : Code} {dC : Nat → ClassId} {dI : Nat → Nat → Nat} {ad : Nat → Nat} {cy : Nat → ClassId} {sz : Nat} (C : Cx p s m args meth c RX11 cX11_keepDraft 2 none dC dI ad cy sz) {rr : Int32} {ρ : S0} (σ : S0)   (hf : fX11_keepDraft σ = some (rr, ρ)) : Gw p l e rm_X11_keepDraft s m args below meth c (MQ below (QcV dC dI ad cy sz ρ) args s 0 0 (AW ad sz)) dC dI ad cy 2 sz 0 0 0 [(0, .ref (ad 98))] [] σ := by
  unfold fX11_keepDraft at hf
  refine g_iconst (v := 0) C dX11_keepDraft_0 (by decide) ?_
  refine g_istore_n (lv2 := [(0, .ref (ad 98)), (1, .int 0)]) C dX11_keepDraft_1 rfl (by decide) [1, 0] rfl ?_
  exact g_sub [0, 1] rfl (fX11_keepDraft_h2_ok C 400 σ 0 hf)
theorem c_X11_keepDraft (l : Launch) (dC : Nat → ClassId) (dI : Nat → Nat → Nat) (ad : Nat → Nat) (cy : Nat → ClassId)  : ConV l yX11_keepDraft cX11_keepDraft 2 none rm_X11_keepDraft dC dI ad cy [.ref (ad 98)] (fun σ => fX11_keepDraft σ) := con_v (own := RX11) (by decide) rfl (Nat.le_of_ble_eq_true rfl) (fun _ _ _ _ _ _ _ _ σ _ _ C hf => fX11_keepDraft_ok C σ  hf)
theorem cal_X11_keepDraft : CalV yX11_keepDraft RX11 cX11_keepDraft 2 none 0 := ⟨hI_X11_keepDraft, hS_X11_keepDraft, hIni_X11, hC_X11_keepDraft, by decide +kernel⟩
abbrev rm_X11_feed : Room := { frames := 0, cells := 0, slots := 0, locals := 0 }
def fX11_feed_b19 (sf_19 : S0 → Int64 → Int32 → Option (Int32 × S0)) (σ : S0) (x1 : Int64) (x3 : Int32) : Option (Int32 × S0) := if x3 < 0 then (some (σ 98 17, σ)) else (ol (((x1 >>> (((x3 : Int32)).toInt64 &&& 63)) &&& 255).toInt32) (fun v2 => ol (σ 98 17) (fun v3 => og (¬ (v3 < 0 ∨ 320 ≤ v3.toNatClampNeg)) (ol (su σ 104 v3.toNatClampNeg v2) (fun σ5 => ol ((σ5 98 17) + 1) (fun v6 => ol (su σ5 98 17 v6) (fun σ7 => ol (x3 + (-8)) (fun v8 => sf_19 σ7 x1 v8))))))))
set_option maxHeartbeats 1000000 in
set_option maxRecDepth 100000 in
theorem fX11_feed_b19_ok {p : Program} {l : Launch} {e : Env} {s : State} {m : MethodId} {args : Array Value} {below : List Frame} {meth : Method} {c : Code} {dC : Nat → ClassId} {dI : Nat → Nat → Nat} {ad : Nat → Nat} {cy : Nat → ClassId} {sz : Nat} (C : Cx p s m args meth c RX11 cX11_feed 4 (some .int) dC dI ad cy sz) {rr : Int32} {ρ : S0} (sf_19 : S0 → Int64 → Int32 → Option (Int32 × S0)) (hs_19 : ∀ (σ : S0) (x1 : Int64) (x3 : Int32) , sf_19 σ x1 x3 = some (rr, ρ) → Gw p l e rm_X11_feed s m args below meth c (MQ below (QcI dC dI ad cy sz rr ρ) args s 0 0 (AW ad sz)) dC dI ad cy 4 sz 0 0 19 [(0, .ref (ad 98)), (1, .long x1), (3, .int x3)] [] σ) (σ : S0) (x1 : Int64) (x3 : Int32)  (hf : fX11_feed_b19 sf_19 σ x1 x3 = some (rr, ρ)) : Gw p l e rm_X11_feed s m args below meth c (MQ below (QcI dC dI ad cy sz rr ρ) args s 0 0 (AW ad sz)) dC dI ad cy 4 sz 0 0 19 [(0, .ref (ad 98)), (1, .long x1), (3, .int x3)] [] σ := by
  unfold fX11_feed_b19 at hf
  refine g_iload_n C dX11_feed_19 rfl 2 rfl ?_
  rcases oi_e hf with ⟨c1, hf⟩ | ⟨c1, hf⟩
  · refine g_if_lt_t (tgt := 56) C dX11_feed_20 (by decide) c1 ?_
    refine g_aload_n C dX11_feed_56 rfl 0 rfl ?_
    refine g_get C (a_98 ad cy _) rfl hin_X11 17 (by decide) hF_X11_87 rfl rfl dX11_feed_57 ?_
    obtain ⟨rfl, rfl⟩ := os_e hf
    exact g_iret C rfl dX11_feed_60
  · refine g_if_lt_f (tgt := 56) C dX11_feed_20 (by decide) c1 ?_
    refine g_aload_n C dX11_feed_23 rfl 0 rfl ?_
    refine g_get C (a_98 ad cy _) rfl hin_X11 16 (by decide) hF_X11_26 rfl rfl dX11_feed_24 ?_
    refine g_aload_n C dX11_feed_27 rfl 0 rfl ?_
    refine g_get C (a_98 ad cy _) rfl hin_X11 17 (by decide) hF_X11_87 rfl rfl dX11_feed_28 ?_
    refine g_lload_n C dX11_feed_31 rfl 1 rfl ?_
    refine g_iload_n C dX11_feed_32 rfl 2 rfl ?_
    refine g_lshr C dX11_feed_33 ?_
    refine g_ldc2 (v := 255) C dX11_feed_34 hK_X11_90 ?_
    refine g_land C dX11_feed_37 ?_
    refine g_l2i C dX11_feed_38 ?_
    obtain ⟨v2, ev2, hf⟩ := ol_e hf
    refine g_nm ev2 ?_
    obtain ⟨v3, ev3, hf⟩ := ol_e hf
    refine g_nm2 ev3 ?_
    obtain ⟨h4, hf⟩ := og_e hf
    obtain ⟨σ5, eσ5, hf⟩ := ol_e hf
    refine g_iast C (a_104 ad cy _) h4 (w_104 ad cy _) eσ5 dX11_feed_39 ?_
    refine g_aload_n C dX11_feed_40 rfl 0 rfl ?_
    refine g_dup C dX11_feed_41 rfl ?_
    refine g_get C (a_98 ad cy _) rfl hin_X11 17 (by decide) hF_X11_87 rfl rfl dX11_feed_42 ?_
    refine g_iconst (v := 1) C dX11_feed_45 (by decide) ?_
    refine g_iadd C dX11_feed_46 ?_
    obtain ⟨v6, ev6, hf⟩ := ol_e hf
    refine g_nm ev6 ?_
    obtain ⟨σ7, eσ7, hf⟩ := ol_e hf
    refine g_put (ty := .int) C (a_98 ad cy _) rfl hin_X11 tyX11 tyX11_ok nmX11 17 (by decide) hF_X11_87 rfl rfl (by decide +kernel) rfl rfl (Nat.le_of_ble_eq_true rfl) (p_98_17 ad cy _ _) eσ7 dX11_feed_47 ?_
    obtain ⟨v8, ev8, hf⟩ := ol_e hf
    refine g_iinc (j := 2) (w := (-8)) (lv2 := [(0, .ref (ad 98)), (1, .long x1), (3, .int v8)]) C dX11_feed_50 rfl (by decide) ev8 (by decide) [1, 2, 0] rfl ?_
    refine g_goto (tgt := 19) C dX11_feed_53 (by decide) ?_
    exact g_sub [0, 1, 2] rfl (hs_19 σ7 x1 v8 hf)
def fX11_feed_h19  : Nat → S0 → Int64 → Int32 → Option (Int32 × S0)
  | 0 => fun _ _ _ => none
  | n + 1 => fun σ x1 x3 => fX11_feed_b19  (fX11_feed_h19  n) σ x1 x3
set_option maxHeartbeats 1000000 in
set_option maxRecDepth 100000 in
theorem fX11_feed_h19_ok {p : Program} {l : Launch} {e : Env} {s : State} {m : MethodId} {args : Array Value} {below : List Frame} {meth : Method} {c : Code} {dC : Nat → ClassId} {dI : Nat → Nat → Nat} {ad : Nat → Nat} {cy : Nat → ClassId} {sz : Nat} (C : Cx p s m args meth c RX11 cX11_feed 4 (some .int) dC dI ad cy sz) {rr : Int32} {ρ : S0}  : ∀ (n : Nat) (σ : S0) (x1 : Int64) (x3 : Int32)  (_hf : fX11_feed_h19  n σ x1 x3 = some (rr, ρ)), Gw p l e rm_X11_feed s m args below meth c (MQ below (QcI dC dI ad cy sz rr ρ) args s 0 0 (AW ad sz)) dC dI ad cy 4 sz 0 0 19 [(0, .ref (ad 98)), (1, .long x1), (3, .int x3)] [] σ
  | 0, _, _, _, hf => by cases hf
  | n + 1, σ, x1, x3, hf => fX11_feed_b19_ok C  (fX11_feed_h19  n) (fX11_feed_h19_ok C  n) σ x1 x3 hf
def fX11_feed (σ : S0) (x1 : Int64) : Option (Int32 × S0) := if ((σ 98 17) + 8) ≤ 320 then (fX11_feed_h19 400 σ x1 56) else (some ((-3), σ))
set_option maxHeartbeats 1000000 in
set_option maxRecDepth 100000 in
theorem fX11_feed_ok {p : Program} {l : Launch} {e : Env} {s : State} {m : MethodId} {args : Array Value} {below : List Frame} {meth : Method} {c : Code} {dC : Nat → ClassId} {dI : Nat → Nat → Nat} {ad : Nat → Nat} {cy : Nat → ClassId} {sz : Nat} (C : Cx p s m args meth c RX11 cX11_feed 4 (some .int) dC dI ad cy sz) {rr : Int32} {ρ : S0} (σ : S0) (x1 : Int64)  (hf : fX11_feed σ x1 = some (rr, ρ)) : Gw p l e rm_X11_feed s m args below meth c (MQ below (QcI dC dI ad cy sz rr ρ) args s 0 0 (AW ad sz)) dC dI ad cy 4 sz 0 0 0 [(0, .ref (ad 98)), (1, .long x1)] [] σ := by
  unfold fX11_feed at hf
  refine g_aload_n C dX11_feed_0 rfl 0 rfl ?_
  refine g_get C (a_98 ad cy _) rfl hin_X11 17 (by decide) hF_X11_87 rfl rfl dX11_feed_1 ?_
  refine g_bipush (v := 8) C dX11_feed_4 (by decide) ?_
  refine g_iadd C dX11_feed_6 ?_
  refine g_sipush (v := 320) C dX11_feed_7 (by decide) ?_
  rcases oi_e hf with ⟨c1, hf⟩ | ⟨c1, hf⟩
  · refine g_icmp_le_t (tgt := 16) C dX11_feed_10 (by decide) c1 ?_
    refine g_bipush (v := 56) C dX11_feed_16 (by decide) ?_
    refine g_istore_n (lv2 := [(0, .ref (ad 98)), (1, .long x1), (3, .int 56)]) C dX11_feed_18 rfl (by decide) [1, 2, 0] rfl ?_
    exact g_sub [0, 1, 2] rfl (fX11_feed_h19_ok C 400 σ x1 56 hf)
  · refine g_icmp_le_f (tgt := 16) C dX11_feed_10 (by decide) c1 ?_
    refine g_bipush (v := (-3)) C dX11_feed_13 (by decide) ?_
    obtain ⟨rfl, rfl⟩ := os_e hf
    exact g_iret C rfl dX11_feed_15
theorem c_X11_feed (l : Launch) (dC : Nat → ClassId) (dI : Nat → Nat → Nat) (ad : Nat → Nat) (cy : Nat → ClassId) (x1 : Int64) : ConI l yX11_feed cX11_feed 4 (some .int) rm_X11_feed dC dI ad cy [.ref (ad 98), .long x1] (fun σ => fX11_feed σ x1) := con_i (own := RX11) (by decide) rfl (Nat.le_of_ble_eq_true rfl) (fun _ _ _ _ _ _ _ _ σ _ _ C hf => fX11_feed_ok C σ x1 hf)
theorem cal_X11_feed : CalV yX11_feed RX11 cX11_feed 4 (some .int) 1 := ⟨hI_X11_feed, hS_X11_feed, hIni_X11, hC_X11_feed, by decide +kernel⟩
abbrev rm_X11_end : Room := { frames := 1, cells := 0, slots := 0, locals := 25 }
def fX11_end (σ : S0) (x1 : Int32) : Option (Int32 × S0) := obp (fX11_in σ x1.toInt64 ((0 : Int64)) ((σ 98 17).toInt64)) (fun r1 σ2 => if ¬ r1 = 0 then (ol (σ2 98 17) (fun v5 => ol (su σ2 98 17 x1) (fun σ6 => some (v5, σ6)))) else (some ((-1), σ2)))
set_option maxHeartbeats 1000000 in
set_option maxRecDepth 100000 in
theorem fX11_end_ok {p : Program} {l : Launch} {e : Env} {s : State} {m : MethodId} {args : Array Value} {below : List Frame} {meth : Method} {c : Code} {dC : Nat → ClassId} {dI : Nat → Nat → Nat} {ad : Nat → Nat} {cy : Nat → ClassId} {sz : Nat} (C : Cx p s m args meth c RX11 cX11_end 3 (some .int) dC dI ad cy sz) {rr : Int32} {ρ : S0} (σ : S0) (x1 : Int32)  (hf : fX11_end σ x1 = some (rr, ρ)) : Gw p l e rm_X11_end s m args below meth c (MQ below (QcI dC dI ad cy sz rr ρ) args s 0 0 (AW ad sz)) dC dI ad cy 3 sz 0 0 0 [(0, .ref (ad 98)), (1, .int x1)] [] σ := by
  unfold fX11_end at hf
  refine g_iload_n C dX11_end_0 rfl 1 rfl ?_
  refine g_i2l C dX11_end_1 ?_
  refine g_lconst (v := 0) C dX11_end_2 (by decide) ?_
  refine g_aload_n C dX11_end_3 rfl 0 rfl ?_
  refine g_get C (a_98 ad cy _) rfl hin_X11 17 (by decide) hF_X11_87 rfl rfl dX11_end_4 ?_
  refine g_i2l C dX11_end_7 ?_
  obtain ⟨r1, σ2, h3, hf⟩ := obp_e hf
  refine g_callSi (As := [.long x1.toInt64, .long 0, .long ((σ 98 17).toInt64)]) (rest := []) C (c_X11_in l dC dI ad cy x1.toInt64 ((0 : Int64)) ((σ 98 17).toInt64)) h3 hM_X11_92 cal_X11_in ⟨Nat.zero_le _, Nat.zero_le _⟩ ⟨rfl, rfl⟩ ⟨Nat.le_of_ble_eq_true rfl, Nat.le_of_ble_eq_true rfl⟩ rfl rfl (Nat.le_of_ble_eq_true rfl) dX11_end_8 ?_
  rcases oi_e hf with ⟨c4, hf⟩ | ⟨c4, hf⟩
  · refine g_if_ne_t (tgt := 16) C dX11_end_11 (by decide) c4 ?_
    refine g_aload_n C dX11_end_16 rfl 0 rfl ?_
    refine g_get C (a_98 ad cy _) rfl hin_X11 17 (by decide) hF_X11_87 rfl rfl dX11_end_17 ?_
    obtain ⟨v5, ev5, hf⟩ := ol_e hf
    refine g_nm ev5 ?_
    refine g_istore_n (lv2 := [(0, .ref (ad 98)), (1, .int x1), (2, .int v5)]) C dX11_end_20 rfl (by decide) [1, 2, 0] rfl ?_
    refine g_aload_n C dX11_end_21 rfl 0 rfl ?_
    refine g_iload_n C dX11_end_22 rfl 1 rfl ?_
    obtain ⟨σ6, eσ6, hf⟩ := ol_e hf
    refine g_put (ty := .int) C (a_98 ad cy _) rfl hin_X11 tyX11 tyX11_ok nmX11 17 (by decide) hF_X11_87 rfl rfl (by decide +kernel) rfl rfl (Nat.le_of_ble_eq_true rfl) (p_98_17 ad cy _ _) eσ6 dX11_end_23 ?_
    refine g_iload_n C dX11_end_26 rfl 2 rfl ?_
    obtain ⟨rfl, rfl⟩ := os_e hf
    exact g_iret C rfl dX11_end_27
  · refine g_if_ne_f (tgt := 16) C dX11_end_11 (by decide) (Decidable.of_not_not c4) ?_
    refine g_iconst (v := (-1)) C dX11_end_14 (by decide) ?_
    obtain ⟨rfl, rfl⟩ := os_e hf
    exact g_iret C rfl dX11_end_15
theorem c_X11_end (l : Launch) (dC : Nat → ClassId) (dI : Nat → Nat → Nat) (ad : Nat → Nat) (cy : Nat → ClassId) (x1 : Int32) : ConI l yX11_end cX11_end 3 (some .int) rm_X11_end dC dI ad cy [.ref (ad 98), .int x1] (fun σ => fX11_end σ x1) := con_i (own := RX11) (by decide) rfl (Nat.le_of_ble_eq_true rfl) (fun _ _ _ _ _ _ _ _ σ _ _ C hf => fX11_end_ok C σ x1 hf)
theorem cal_X11_end : CalV yX11_end RX11 cX11_end 3 (some .int) 1 := ⟨hI_X11_end, hS_X11_end, hIni_X11, hC_X11_end, by decide +kernel⟩
abbrev rm_X11_needs : Room := { frames := 0, cells := 0, slots := 0, locals := 0 }
def fX11_needs (σ : S0) (x1 : Int32) (x2 : Int32) : Option (Int32 × S0) := if ¬ x1 = 0 then (some (0, σ)) else (if ¬ (σ 98 22) = 0 then (some (0, σ)) else (ol (su σ 98 22 x2) (fun σ3 => ol (σ3 98 19) (fun v4 => ol (su σ3 98 23 v4) (fun σ5 => some (0, σ5))))))
set_option maxHeartbeats 1000000 in
set_option maxRecDepth 100000 in
theorem fX11_needs_ok {p : Program} {l : Launch} {e : Env} {s : State} {m : MethodId} {args : Array Value} {below : List Frame} {meth : Method} {c : Code} {dC : Nat → ClassId} {dI : Nat → Nat → Nat} {ad : Nat → Nat} {cy : Nat → ClassId} {sz : Nat} (C : Cx p s m args meth c RX11 cX11_needs 3 none dC dI ad cy sz) {rr : Int32} {ρ : S0} (σ : S0) (x1 : Int32) (x2 : Int32)  (hf : fX11_needs σ x1 x2 = some (rr, ρ)) : Gw p l e rm_X11_needs s m args below meth c (MQ below (QcV dC dI ad cy sz ρ) args s 0 0 (AW ad sz)) dC dI ad cy 3 sz 0 0 0 [(0, .ref (ad 98)), (1, .int x1), (2, .int x2)] [] σ := by
  unfold fX11_needs at hf
  refine g_iload_n C dX11_needs_0 rfl 1 rfl ?_
  rcases oi_e hf with ⟨c1, hf⟩ | ⟨c1, hf⟩
  · refine g_if_ne_t (tgt := 24) C dX11_needs_1 (by decide) c1 ?_
    obtain ⟨rfl, rfl⟩ := os_e hf
    exact g_vret C rfl dX11_needs_24
  · refine g_if_ne_f (tgt := 24) C dX11_needs_1 (by decide) (Decidable.of_not_not c1) ?_
    refine g_aload_n C dX11_needs_4 rfl 0 rfl ?_
    refine g_get C (a_98 ad cy _) rfl hin_X11 22 (by decide) hF_X11_96 rfl rfl dX11_needs_5 ?_
    rcases oi_e hf with ⟨c2, hf⟩ | ⟨c2, hf⟩
    · refine g_if_ne_t (tgt := 24) C dX11_needs_8 (by decide) c2 ?_
      obtain ⟨rfl, rfl⟩ := os_e hf
      exact g_vret C rfl dX11_needs_24
    · refine g_if_ne_f (tgt := 24) C dX11_needs_8 (by decide) (Decidable.of_not_not c2) ?_
      refine g_aload_n C dX11_needs_11 rfl 0 rfl ?_
      refine g_iload_n C dX11_needs_12 rfl 2 rfl ?_
      obtain ⟨σ3, eσ3, hf⟩ := ol_e hf
      refine g_put (ty := .int) C (a_98 ad cy _) rfl hin_X11 tyX11 tyX11_ok nmX11 22 (by decide) hF_X11_96 rfl rfl (by decide +kernel) rfl rfl (Nat.le_of_ble_eq_true rfl) (p_98_22 ad cy _ _) eσ3 dX11_needs_13 ?_
      refine g_aload_n C dX11_needs_16 rfl 0 rfl ?_
      refine g_aload_n C dX11_needs_17 rfl 0 rfl ?_
      refine g_get C (a_98 ad cy _) rfl hin_X11 19 (by decide) hF_X11_99 rfl rfl dX11_needs_18 ?_
      obtain ⟨v4, ev4, hf⟩ := ol_e hf
      refine g_nm ev4 ?_
      obtain ⟨σ5, eσ5, hf⟩ := ol_e hf
      refine g_put (ty := .int) C (a_98 ad cy _) rfl hin_X11 tyX11 tyX11_ok nmX11 23 (by decide) hF_X11_102 rfl rfl (by decide +kernel) rfl rfl (Nat.le_of_ble_eq_true rfl) (p_98_23 ad cy _ _) eσ5 dX11_needs_21 ?_
      obtain ⟨rfl, rfl⟩ := os_e hf
      exact g_vret C rfl dX11_needs_24
theorem c_X11_needs (l : Launch) (dC : Nat → ClassId) (dI : Nat → Nat → Nat) (ad : Nat → Nat) (cy : Nat → ClassId) (x1 : Int32) (x2 : Int32) : ConV l yX11_needs cX11_needs 3 none rm_X11_needs dC dI ad cy [.ref (ad 98), .int x1, .int x2] (fun σ => fX11_needs σ x1 x2) := con_v (own := RX11) (by decide) rfl (Nat.le_of_ble_eq_true rfl) (fun _ _ _ _ _ _ _ _ σ _ _ C hf => fX11_needs_ok C σ x1 x2 hf)
theorem cal_X11_needs : CalV yX11_needs RX11 cX11_needs 3 none 2 := ⟨hI_X11_needs, hS_X11_needs, hIni_X11, hC_X11_needs, by decide +kernel⟩
abbrev rm_X11_look : Room := { frames := 0, cells := 0, slots := 0, locals := 0 }
def fX11_look (σ : S0) (x1 : Int32) : Option (Int32 × S0) := if (σ 98 17) ≤ x1 then (some ((-1), σ)) else (og (¬ (x1 < 0 ∨ 320 ≤ x1.toNatClampNeg)) (ol (σ 104 x1.toNatClampNeg) (fun v3 => some (v3, σ))))
set_option maxHeartbeats 1000000 in
set_option maxRecDepth 100000 in
theorem fX11_look_ok {p : Program} {l : Launch} {e : Env} {s : State} {m : MethodId} {args : Array Value} {below : List Frame} {meth : Method} {c : Code} {dC : Nat → ClassId} {dI : Nat → Nat → Nat} {ad : Nat → Nat} {cy : Nat → ClassId} {sz : Nat} (C : Cx p s m args meth c RX11 cX11_look 2 (some .int) dC dI ad cy sz) {rr : Int32} {ρ : S0} (σ : S0) (x1 : Int32)  (hf : fX11_look σ x1 = some (rr, ρ)) : Gw p l e rm_X11_look s m args below meth c (MQ below (QcI dC dI ad cy sz rr ρ) args s 0 0 (AW ad sz)) dC dI ad cy 2 sz 0 0 0 [(0, .ref (ad 98)), (1, .int x1)] [] σ := by
  unfold fX11_look at hf
  refine g_iload_n C dX11_look_0 rfl 1 rfl ?_
  refine g_aload_n C dX11_look_1 rfl 0 rfl ?_
  refine g_get C (a_98 ad cy _) rfl hin_X11 17 (by decide) hF_X11_87 rfl rfl dX11_look_2 ?_
  rcases oi_e hf with ⟨c1, hf⟩ | ⟨c1, hf⟩
  · refine g_icmp_ge_t (tgt := 17) C dX11_look_5 (by decide) c1 ?_
    refine g_iconst (v := (-1)) C dX11_look_17 (by decide) ?_
    obtain ⟨rfl, rfl⟩ := os_e hf
    exact g_iret C rfl dX11_look_18
  · refine g_icmp_ge_f (tgt := 17) C dX11_look_5 (by decide) c1 ?_
    refine g_aload_n C dX11_look_8 rfl 0 rfl ?_
    refine g_get C (a_98 ad cy _) rfl hin_X11 16 (by decide) hF_X11_26 rfl rfl dX11_look_9 ?_
    refine g_iload_n C dX11_look_12 rfl 1 rfl ?_
    obtain ⟨h2, hf⟩ := og_e hf
    refine g_iald C (a_104 ad cy _) h2 dX11_look_13 ?_
    obtain ⟨v3, ev3, hf⟩ := ol_e hf
    refine g_nm ev3 ?_
    refine g_goto (tgt := 18) C dX11_look_14 (by decide) ?_
    obtain ⟨rfl, rfl⟩ := os_e hf
    exact g_iret C rfl dX11_look_18
theorem c_X11_look (l : Launch) (dC : Nat → ClassId) (dI : Nat → Nat → Nat) (ad : Nat → Nat) (cy : Nat → ClassId) (x1 : Int32) : ConI l yX11_look cX11_look 2 (some .int) rm_X11_look dC dI ad cy [.ref (ad 98), .int x1] (fun σ => fX11_look σ x1) := con_i (own := RX11) (by decide) rfl (Nat.le_of_ble_eq_true rfl) (fun _ _ _ _ _ _ _ _ σ _ _ C hf => fX11_look_ok C σ x1 hf)
theorem cal_X11_look : CalV yX11_look RX11 cX11_look 2 (some .int) 1 := ⟨hI_X11_look, hS_X11_look, hIni_X11, hC_X11_look, by decide +kernel⟩
abbrev rm_X11_is : Room := { frames := 1, cells := 0, slots := 0, locals := 21 }
def fX11_is_b74  (σ : S0)  : Option (Int32 × S0) := some (1, σ)
set_option maxHeartbeats 1000000 in
set_option maxRecDepth 100000 in
theorem fX11_is_b74_ok {p : Program} {l : Launch} {e : Env} {s : State} {m : MethodId} {args : Array Value} {below : List Frame} {meth : Method} {c : Code} {dC : Nat → ClassId} {dI : Nat → Nat → Nat} {ad : Nat → Nat} {cy : Nat → ClassId} {sz : Nat} (C : Cx p s m args meth c RX11 cX11_is 6 (some .boolean) dC dI ad cy sz) {rr : Int32} {ρ : S0}  (σ : S0)   (hf : fX11_is_b74 σ = some (rr, ρ)) : Gw p l e rm_X11_is s m args below meth c (MQ below (QcI dC dI ad cy sz rr ρ) args s 0 0 (AW ad sz)) dC dI ad cy 6 sz 0 0 74 [] [] σ := by
  unfold fX11_is_b74 at hf
  refine g_iconst (v := 1) C dX11_is_74 (by decide) ?_
  refine g_goto (tgt := 79) C dX11_is_75 (by decide) ?_
  obtain ⟨rfl, rfl⟩ := os_e hf
  exact g_zret C rfl (by decide) dX11_is_79
def fX11_is (σ : S0) (x1 : Int32) (x2 : Int32) (x3 : Int32) (x4 : Int32) (x5 : Int32) : Option (Int32 × S0) := if ¬ ((σ 98 18) - (σ 98 19)) = x1 then (some (0, σ)) else (obp (fX11_look σ (σ 98 19)) (fun r2 σ3 => if ¬ r2 = x2 then (some (0, σ3)) else (obp (fX11_look σ3 ((σ3 98 19) + 1)) (fun r6 σ7 => if ¬ r6 = x3 then (some (0, σ7)) else (obp (fX11_look σ7 ((σ7 98 19) + 2)) (fun r10 σ11 => if ¬ r10 = x4 then (some (0, σ11)) else (if x1 < 4 then (fX11_is_b74 σ11) else (obp (fX11_look σ11 ((σ11 98 19) + 3)) (fun r15 σ16 => if ¬ r15 = x5 then (some (0, σ16)) else (fX11_is_b74 σ16))))))))))
set_option maxHeartbeats 1000000 in
set_option maxRecDepth 100000 in
theorem fX11_is_ok {p : Program} {l : Launch} {e : Env} {s : State} {m : MethodId} {args : Array Value} {below : List Frame} {meth : Method} {c : Code} {dC : Nat → ClassId} {dI : Nat → Nat → Nat} {ad : Nat → Nat} {cy : Nat → ClassId} {sz : Nat} (C : Cx p s m args meth c RX11 cX11_is 6 (some .boolean) dC dI ad cy sz) {rr : Int32} {ρ : S0} (σ : S0) (x1 : Int32) (x2 : Int32) (x3 : Int32) (x4 : Int32) (x5 : Int32)  (hf : fX11_is σ x1 x2 x3 x4 x5 = some (rr, ρ)) : Gw p l e rm_X11_is s m args below meth c (MQ below (QcI dC dI ad cy sz rr ρ) args s 0 0 (AW ad sz)) dC dI ad cy 6 sz 0 0 0 [(0, .ref (ad 98)), (1, .int x1), (2, .int x2), (3, .int x3), (4, .int x4), (5, .int x5)] [] σ := by
  unfold fX11_is at hf
  refine g_aload_n C dX11_is_0 rfl 0 rfl ?_
  refine g_get C (a_98 ad cy _) rfl hin_X11 18 (by decide) hF_X11_105 rfl rfl dX11_is_1 ?_
  refine g_aload_n C dX11_is_4 rfl 0 rfl ?_
  refine g_get C (a_98 ad cy _) rfl hin_X11 19 (by decide) hF_X11_99 rfl rfl dX11_is_5 ?_
  refine g_isub C dX11_is_8 ?_
  refine g_iload_n C dX11_is_9 rfl 1 rfl ?_
  rcases oi_e hf with ⟨c1, hf⟩ | ⟨c1, hf⟩
  · refine g_icmp_ne_t (tgt := 78) C dX11_is_10 (by decide) c1 ?_
    refine g_iconst (v := 0) C dX11_is_78 (by decide) ?_
    obtain ⟨rfl, rfl⟩ := os_e hf
    exact g_zret C rfl (by decide) dX11_is_79
  · refine g_icmp_ne_f (tgt := 78) C dX11_is_10 (by decide) (Decidable.of_not_not c1) ?_
    refine g_aload_n C dX11_is_13 rfl 0 rfl ?_
    refine g_aload_n C dX11_is_14 rfl 0 rfl ?_
    refine g_get C (a_98 ad cy _) rfl hin_X11 19 (by decide) hF_X11_99 rfl rfl dX11_is_15 ?_
    obtain ⟨r2, σ3, h4, hf⟩ := obp_e hf
    refine g_callVi (As := [.int (σ 98 19)]) (rest := []) C (a_98 ad cy _) rfl (c_X11_look l dC dI ad cy (σ 98 19)) h4 hM_X11_108 cal_X11_look ⟨Nat.zero_le _, Nat.zero_le _⟩ ⟨rfl, rfl⟩ ⟨Nat.le_of_ble_eq_true rfl, Nat.le_of_ble_eq_true rfl⟩ rfl rfl (Nat.le_of_ble_eq_true rfl) dX11_is_18 ?_
    refine g_iload_n C dX11_is_21 rfl 2 rfl ?_
    rcases oi_e hf with ⟨c5, hf⟩ | ⟨c5, hf⟩
    · refine g_icmp_ne_t (tgt := 78) C dX11_is_22 (by decide) c5 ?_
      refine g_iconst (v := 0) C dX11_is_78 (by decide) ?_
      obtain ⟨rfl, rfl⟩ := os_e hf
      exact g_zret C rfl (by decide) dX11_is_79
    · refine g_icmp_ne_f (tgt := 78) C dX11_is_22 (by decide) (Decidable.of_not_not c5) ?_
      refine g_aload_n C dX11_is_25 rfl 0 rfl ?_
      refine g_aload_n C dX11_is_26 rfl 0 rfl ?_
      refine g_get C (a_98 ad cy _) rfl hin_X11 19 (by decide) hF_X11_99 rfl rfl dX11_is_27 ?_
      refine g_iconst (v := 1) C dX11_is_30 (by decide) ?_
      refine g_iadd C dX11_is_31 ?_
      obtain ⟨r6, σ7, h8, hf⟩ := obp_e hf
      refine g_callVi (As := [.int ((σ3 98 19) + 1)]) (rest := []) C (a_98 ad cy _) rfl (c_X11_look l dC dI ad cy ((σ3 98 19) + 1)) h8 hM_X11_108 cal_X11_look ⟨Nat.zero_le _, Nat.zero_le _⟩ ⟨rfl, rfl⟩ ⟨Nat.le_of_ble_eq_true rfl, Nat.le_of_ble_eq_true rfl⟩ rfl rfl (Nat.le_of_ble_eq_true rfl) dX11_is_32 ?_
      refine g_iload_n C dX11_is_35 rfl 3 rfl ?_
      rcases oi_e hf with ⟨c9, hf⟩ | ⟨c9, hf⟩
      · refine g_icmp_ne_t (tgt := 78) C dX11_is_36 (by decide) c9 ?_
        refine g_iconst (v := 0) C dX11_is_78 (by decide) ?_
        obtain ⟨rfl, rfl⟩ := os_e hf
        exact g_zret C rfl (by decide) dX11_is_79
      · refine g_icmp_ne_f (tgt := 78) C dX11_is_36 (by decide) (Decidable.of_not_not c9) ?_
        refine g_aload_n C dX11_is_39 rfl 0 rfl ?_
        refine g_aload_n C dX11_is_40 rfl 0 rfl ?_
        refine g_get C (a_98 ad cy _) rfl hin_X11 19 (by decide) hF_X11_99 rfl rfl dX11_is_41 ?_
        refine g_iconst (v := 2) C dX11_is_44 (by decide) ?_
        refine g_iadd C dX11_is_45 ?_
        obtain ⟨r10, σ11, h12, hf⟩ := obp_e hf
        refine g_callVi (As := [.int ((σ7 98 19) + 2)]) (rest := []) C (a_98 ad cy _) rfl (c_X11_look l dC dI ad cy ((σ7 98 19) + 2)) h12 hM_X11_108 cal_X11_look ⟨Nat.zero_le _, Nat.zero_le _⟩ ⟨rfl, rfl⟩ ⟨Nat.le_of_ble_eq_true rfl, Nat.le_of_ble_eq_true rfl⟩ rfl rfl (Nat.le_of_ble_eq_true rfl) dX11_is_46 ?_
        refine g_iload C dX11_is_49 4 rfl ?_
        rcases oi_e hf with ⟨c13, hf⟩ | ⟨c13, hf⟩
        · refine g_icmp_ne_t (tgt := 78) C dX11_is_51 (by decide) c13 ?_
          refine g_iconst (v := 0) C dX11_is_78 (by decide) ?_
          obtain ⟨rfl, rfl⟩ := os_e hf
          exact g_zret C rfl (by decide) dX11_is_79
        · refine g_icmp_ne_f (tgt := 78) C dX11_is_51 (by decide) (Decidable.of_not_not c13) ?_
          refine g_iload_n C dX11_is_54 rfl 1 rfl ?_
          refine g_iconst (v := 4) C dX11_is_55 (by decide) ?_
          rcases oi_e hf with ⟨c14, hf⟩ | ⟨c14, hf⟩
          · refine g_icmp_lt_t (tgt := 74) C dX11_is_56 (by decide) c14 ?_
            exact g_sub [] rfl (fX11_is_b74_ok C σ11 hf)
          · refine g_icmp_lt_f (tgt := 74) C dX11_is_56 (by decide) c14 ?_
            refine g_aload_n C dX11_is_59 rfl 0 rfl ?_
            refine g_aload_n C dX11_is_60 rfl 0 rfl ?_
            refine g_get C (a_98 ad cy _) rfl hin_X11 19 (by decide) hF_X11_99 rfl rfl dX11_is_61 ?_
            refine g_iconst (v := 3) C dX11_is_64 (by decide) ?_
            refine g_iadd C dX11_is_65 ?_
            obtain ⟨r15, σ16, h17, hf⟩ := obp_e hf
            refine g_callVi (As := [.int ((σ11 98 19) + 3)]) (rest := []) C (a_98 ad cy _) rfl (c_X11_look l dC dI ad cy ((σ11 98 19) + 3)) h17 hM_X11_108 cal_X11_look ⟨Nat.zero_le _, Nat.zero_le _⟩ ⟨rfl, rfl⟩ ⟨Nat.le_of_ble_eq_true rfl, Nat.le_of_ble_eq_true rfl⟩ rfl rfl (Nat.le_of_ble_eq_true rfl) dX11_is_66 ?_
            refine g_iload C dX11_is_69 5 rfl ?_
            rcases oi_e hf with ⟨c18, hf⟩ | ⟨c18, hf⟩
            · refine g_icmp_ne_t (tgt := 78) C dX11_is_71 (by decide) c18 ?_
              refine g_iconst (v := 0) C dX11_is_78 (by decide) ?_
              obtain ⟨rfl, rfl⟩ := os_e hf
              exact g_zret C rfl (by decide) dX11_is_79
            · refine g_icmp_ne_f (tgt := 78) C dX11_is_71 (by decide) (Decidable.of_not_not c18) ?_
              exact g_sub [] rfl (fX11_is_b74_ok C σ16 hf)
theorem c_X11_is (l : Launch) (dC : Nat → ClassId) (dI : Nat → Nat → Nat) (ad : Nat → Nat) (cy : Nat → ClassId) (x1 : Int32) (x2 : Int32) (x3 : Int32) (x4 : Int32) (x5 : Int32) : ConI l yX11_is cX11_is 6 (some .boolean) rm_X11_is dC dI ad cy [.ref (ad 98), .int x1, .int x2, .int x3, .int x4, .int x5] (fun σ => fX11_is σ x1 x2 x3 x4 x5) := con_i (own := RX11) (by decide) rfl (Nat.le_of_ble_eq_true rfl) (fun _ _ _ _ _ _ _ _ σ _ _ C hf => fX11_is_ok C σ x1 x2 x3 x4 x5 hf)
theorem cal_X11_is : CalV yX11_is RX11 cX11_is 6 (some .boolean) 5 := ⟨hI_X11_is, hS_X11_is, hIni_X11, hC_X11_is, by decide +kernel⟩
abbrev rm_X11_nameNow : Room := { frames := 2, cells := 0, slots := 0, locals := 46 }
def fX11_nameNow_b49  (σ : S0)  : Option (Int32 × S0) := obp (fX11_is σ ((3 : Int32)) ((103 : Int32)) ((97 : Int32)) ((112 : Int32)) ((0 : Int32))) (fun r1 σ2 => if r1 = 0 then (obp (fX11_is σ2 ((4 : Int32)) ((98 : Int32)) ((101 : Int32)) ((108 : Int32)) ((108 : Int32))) (fun r5 σ6 => if r5 = 0 then (obp (fX11_is σ6 ((4 : Int32)) ((116 : Int32)) ((117 : Int32)) ((110 : Int32)) ((101 : Int32))) (fun r9 σ10 => if r9 = 0 then (obp (fX11_is σ10 ((4 : Int32)) ((102 : Int32)) ((101 : Int32)) ((117 : Int32)) ((100 : Int32))) (fun r13 σ14 => if r13 = 0 then (some ((-4), σ14)) else (some (4, σ14)))) else (some (3, σ10)))) else (some (2, σ6)))) else (some (1, σ2)))
set_option maxHeartbeats 1000000 in
set_option maxRecDepth 100000 in
theorem fX11_nameNow_b49_ok {p : Program} {l : Launch} {e : Env} {s : State} {m : MethodId} {args : Array Value} {below : List Frame} {meth : Method} {c : Code} {dC : Nat → ClassId} {dI : Nat → Nat → Nat} {ad : Nat → Nat} {cy : Nat → ClassId} {sz : Nat} (C : Cx p s m args meth c RX11 cX11_nameNow 1 (some .int) dC dI ad cy sz) {rr : Int32} {ρ : S0}  (σ : S0)   (hf : fX11_nameNow_b49 σ = some (rr, ρ)) : Gw p l e rm_X11_nameNow s m args below meth c (MQ below (QcI dC dI ad cy sz rr ρ) args s 0 0 (AW ad sz)) dC dI ad cy 1 sz 0 0 49 [(0, .ref (ad 98))] [] σ := by
  unfold fX11_nameNow_b49 at hf
  refine g_aload_n C dX11_nameNow_49 rfl 0 rfl ?_
  refine g_iconst (v := 3) C dX11_nameNow_50 (by decide) ?_
  refine g_bipush (v := 103) C dX11_nameNow_51 (by decide) ?_
  refine g_bipush (v := 97) C dX11_nameNow_53 (by decide) ?_
  refine g_bipush (v := 112) C dX11_nameNow_55 (by decide) ?_
  refine g_iconst (v := 0) C dX11_nameNow_57 (by decide) ?_
  obtain ⟨r1, σ2, h3, hf⟩ := obp_e hf
  refine g_callVi (As := [.int 3, .int 103, .int 97, .int 112, .int 0]) (rest := []) C (a_98 ad cy _) rfl (c_X11_is l dC dI ad cy ((3 : Int32)) ((103 : Int32)) ((97 : Int32)) ((112 : Int32)) ((0 : Int32))) h3 hM_X11_112 cal_X11_is ⟨Nat.zero_le _, Nat.zero_le _⟩ ⟨rfl, rfl⟩ ⟨Nat.le_of_ble_eq_true rfl, Nat.le_of_ble_eq_true rfl⟩ rfl rfl (Nat.le_of_ble_eq_true rfl) dX11_nameNow_58 ?_
  rcases oi_e hf with ⟨c4, hf⟩ | ⟨c4, hf⟩
  · refine g_if_eq_t (tgt := 66) C dX11_nameNow_61 (by decide) c4 ?_
    refine g_aload_n C dX11_nameNow_66 rfl 0 rfl ?_
    refine g_iconst (v := 4) C dX11_nameNow_67 (by decide) ?_
    refine g_bipush (v := 98) C dX11_nameNow_68 (by decide) ?_
    refine g_bipush (v := 101) C dX11_nameNow_70 (by decide) ?_
    refine g_bipush (v := 108) C dX11_nameNow_72 (by decide) ?_
    refine g_bipush (v := 108) C dX11_nameNow_74 (by decide) ?_
    obtain ⟨r5, σ6, h7, hf⟩ := obp_e hf
    refine g_callVi (As := [.int 4, .int 98, .int 101, .int 108, .int 108]) (rest := []) C (a_98 ad cy _) rfl (c_X11_is l dC dI ad cy ((4 : Int32)) ((98 : Int32)) ((101 : Int32)) ((108 : Int32)) ((108 : Int32))) h7 hM_X11_112 cal_X11_is ⟨Nat.zero_le _, Nat.zero_le _⟩ ⟨rfl, rfl⟩ ⟨Nat.le_of_ble_eq_true rfl, Nat.le_of_ble_eq_true rfl⟩ rfl rfl (Nat.le_of_ble_eq_true rfl) dX11_nameNow_76 ?_
    rcases oi_e hf with ⟨c8, hf⟩ | ⟨c8, hf⟩
    · refine g_if_eq_t (tgt := 84) C dX11_nameNow_79 (by decide) c8 ?_
      refine g_aload_n C dX11_nameNow_84 rfl 0 rfl ?_
      refine g_iconst (v := 4) C dX11_nameNow_85 (by decide) ?_
      refine g_bipush (v := 116) C dX11_nameNow_86 (by decide) ?_
      refine g_bipush (v := 117) C dX11_nameNow_88 (by decide) ?_
      refine g_bipush (v := 110) C dX11_nameNow_90 (by decide) ?_
      refine g_bipush (v := 101) C dX11_nameNow_92 (by decide) ?_
      obtain ⟨r9, σ10, h11, hf⟩ := obp_e hf
      refine g_callVi (As := [.int 4, .int 116, .int 117, .int 110, .int 101]) (rest := []) C (a_98 ad cy _) rfl (c_X11_is l dC dI ad cy ((4 : Int32)) ((116 : Int32)) ((117 : Int32)) ((110 : Int32)) ((101 : Int32))) h11 hM_X11_112 cal_X11_is ⟨Nat.zero_le _, Nat.zero_le _⟩ ⟨rfl, rfl⟩ ⟨Nat.le_of_ble_eq_true rfl, Nat.le_of_ble_eq_true rfl⟩ rfl rfl (Nat.le_of_ble_eq_true rfl) dX11_nameNow_94 ?_
      rcases oi_e hf with ⟨c12, hf⟩ | ⟨c12, hf⟩
      · refine g_if_eq_t (tgt := 104) C dX11_nameNow_97 (by decide) c12 ?_
        refine g_aload_n C dX11_nameNow_104 rfl 0 rfl ?_
        refine g_iconst (v := 4) C dX11_nameNow_105 (by decide) ?_
        refine g_bipush (v := 102) C dX11_nameNow_106 (by decide) ?_
        refine g_bipush (v := 101) C dX11_nameNow_108 (by decide) ?_
        refine g_bipush (v := 117) C dX11_nameNow_110 (by decide) ?_
        refine g_bipush (v := 100) C dX11_nameNow_112 (by decide) ?_
        obtain ⟨r13, σ14, h15, hf⟩ := obp_e hf
        refine g_callVi (As := [.int 4, .int 102, .int 101, .int 117, .int 100]) (rest := []) C (a_98 ad cy _) rfl (c_X11_is l dC dI ad cy ((4 : Int32)) ((102 : Int32)) ((101 : Int32)) ((117 : Int32)) ((100 : Int32))) h15 hM_X11_112 cal_X11_is ⟨Nat.zero_le _, Nat.zero_le _⟩ ⟨rfl, rfl⟩ ⟨Nat.le_of_ble_eq_true rfl, Nat.le_of_ble_eq_true rfl⟩ rfl rfl (Nat.le_of_ble_eq_true rfl) dX11_nameNow_114 ?_
        rcases oi_e hf with ⟨c16, hf⟩ | ⟨c16, hf⟩
        · refine g_if_eq_t (tgt := 124) C dX11_nameNow_117 (by decide) c16 ?_
          refine g_bipush (v := (-4)) C dX11_nameNow_124 (by decide) ?_
          obtain ⟨rfl, rfl⟩ := os_e hf
          exact g_iret C rfl dX11_nameNow_126
        · refine g_if_eq_f (tgt := 124) C dX11_nameNow_117 (by decide) c16 ?_
          refine g_iconst (v := 4) C dX11_nameNow_120 (by decide) ?_
          refine g_goto (tgt := 126) C dX11_nameNow_121 (by decide) ?_
          obtain ⟨rfl, rfl⟩ := os_e hf
          exact g_iret C rfl dX11_nameNow_126
      · refine g_if_eq_f (tgt := 104) C dX11_nameNow_97 (by decide) c12 ?_
        refine g_iconst (v := 3) C dX11_nameNow_100 (by decide) ?_
        refine g_goto (tgt := 126) C dX11_nameNow_101 (by decide) ?_
        obtain ⟨rfl, rfl⟩ := os_e hf
        exact g_iret C rfl dX11_nameNow_126
    · refine g_if_eq_f (tgt := 84) C dX11_nameNow_79 (by decide) c8 ?_
      refine g_iconst (v := 2) C dX11_nameNow_82 (by decide) ?_
      obtain ⟨rfl, rfl⟩ := os_e hf
      exact g_iret C rfl dX11_nameNow_83
  · refine g_if_eq_f (tgt := 66) C dX11_nameNow_61 (by decide) c4 ?_
    refine g_iconst (v := 1) C dX11_nameNow_64 (by decide) ?_
    obtain ⟨rfl, rfl⟩ := os_e hf
    exact g_iret C rfl dX11_nameNow_65
def fX11_nameNow (σ : S0)  : Option (Int32 × S0) := obp (fX11_is σ ((6 : Int32)) ((104 : Int32)) ((111 : Int32)) ((117 : Int32)) ((115 : Int32))) (fun r1 σ2 => if r1 = 0 then (fX11_nameNow_b49 σ2) else (obp (fX11_look σ2 ((σ2 98 19) + 4)) (fun r5 σ6 => if ¬ r5 = 101 then (fX11_nameNow_b49 σ6) else (obp (fX11_look σ6 ((σ6 98 19) + 5)) (fun r9 σ10 => if ¬ r9 = 115 then (fX11_nameNow_b49 σ10) else (some (0, σ10)))))))
set_option maxHeartbeats 1000000 in
set_option maxRecDepth 100000 in
theorem fX11_nameNow_ok {p : Program} {l : Launch} {e : Env} {s : State} {m : MethodId} {args : Array Value} {below : List Frame} {meth : Method} {c : Code} {dC : Nat → ClassId} {dI : Nat → Nat → Nat} {ad : Nat → Nat} {cy : Nat → ClassId} {sz : Nat} (C : Cx p s m args meth c RX11 cX11_nameNow 1 (some .int) dC dI ad cy sz) {rr : Int32} {ρ : S0} (σ : S0)   (hf : fX11_nameNow σ = some (rr, ρ)) : Gw p l e rm_X11_nameNow s m args below meth c (MQ below (QcI dC dI ad cy sz rr ρ) args s 0 0 (AW ad sz)) dC dI ad cy 1 sz 0 0 0 [(0, .ref (ad 98))] [] σ := by
  unfold fX11_nameNow at hf
  refine g_aload_n C dX11_nameNow_0 rfl 0 rfl ?_
  refine g_bipush (v := 6) C dX11_nameNow_1 (by decide) ?_
  refine g_bipush (v := 104) C dX11_nameNow_3 (by decide) ?_
  refine g_bipush (v := 111) C dX11_nameNow_5 (by decide) ?_
  refine g_bipush (v := 117) C dX11_nameNow_7 (by decide) ?_
  refine g_bipush (v := 115) C dX11_nameNow_9 (by decide) ?_
  obtain ⟨r1, σ2, h3, hf⟩ := obp_e hf
  refine g_callVi (As := [.int 6, .int 104, .int 111, .int 117, .int 115]) (rest := []) C (a_98 ad cy _) rfl (c_X11_is l dC dI ad cy ((6 : Int32)) ((104 : Int32)) ((111 : Int32)) ((117 : Int32)) ((115 : Int32))) h3 hM_X11_112 cal_X11_is ⟨Nat.zero_le _, Nat.zero_le _⟩ ⟨rfl, rfl⟩ ⟨Nat.le_of_ble_eq_true rfl, Nat.le_of_ble_eq_true rfl⟩ rfl rfl (Nat.le_of_ble_eq_true rfl) dX11_nameNow_11 ?_
  rcases oi_e hf with ⟨c4, hf⟩ | ⟨c4, hf⟩
  · refine g_if_eq_t (tgt := 49) C dX11_nameNow_14 (by decide) c4 ?_
    exact g_sub [0] rfl (fX11_nameNow_b49_ok C σ2 hf)
  · refine g_if_eq_f (tgt := 49) C dX11_nameNow_14 (by decide) c4 ?_
    refine g_aload_n C dX11_nameNow_17 rfl 0 rfl ?_
    refine g_aload_n C dX11_nameNow_18 rfl 0 rfl ?_
    refine g_get C (a_98 ad cy _) rfl hin_X11 19 (by decide) hF_X11_99 rfl rfl dX11_nameNow_19 ?_
    refine g_iconst (v := 4) C dX11_nameNow_22 (by decide) ?_
    refine g_iadd C dX11_nameNow_23 ?_
    obtain ⟨r5, σ6, h7, hf⟩ := obp_e hf
    refine g_callVi (As := [.int ((σ2 98 19) + 4)]) (rest := []) C (a_98 ad cy _) rfl (c_X11_look l dC dI ad cy ((σ2 98 19) + 4)) h7 hM_X11_108 cal_X11_look ⟨Nat.zero_le _, Nat.zero_le _⟩ ⟨rfl, rfl⟩ ⟨Nat.le_of_ble_eq_true rfl, Nat.le_of_ble_eq_true rfl⟩ rfl rfl (Nat.le_of_ble_eq_true rfl) dX11_nameNow_24 ?_
    refine g_bipush (v := 101) C dX11_nameNow_27 (by decide) ?_
    rcases oi_e hf with ⟨c8, hf⟩ | ⟨c8, hf⟩
    · refine g_icmp_ne_t (tgt := 49) C dX11_nameNow_29 (by decide) c8 ?_
      exact g_sub [0] rfl (fX11_nameNow_b49_ok C σ6 hf)
    · refine g_icmp_ne_f (tgt := 49) C dX11_nameNow_29 (by decide) (Decidable.of_not_not c8) ?_
      refine g_aload_n C dX11_nameNow_32 rfl 0 rfl ?_
      refine g_aload_n C dX11_nameNow_33 rfl 0 rfl ?_
      refine g_get C (a_98 ad cy _) rfl hin_X11 19 (by decide) hF_X11_99 rfl rfl dX11_nameNow_34 ?_
      refine g_iconst (v := 5) C dX11_nameNow_37 (by decide) ?_
      refine g_iadd C dX11_nameNow_38 ?_
      obtain ⟨r9, σ10, h11, hf⟩ := obp_e hf
      refine g_callVi (As := [.int ((σ6 98 19) + 5)]) (rest := []) C (a_98 ad cy _) rfl (c_X11_look l dC dI ad cy ((σ6 98 19) + 5)) h11 hM_X11_108 cal_X11_look ⟨Nat.zero_le _, Nat.zero_le _⟩ ⟨rfl, rfl⟩ ⟨Nat.le_of_ble_eq_true rfl, Nat.le_of_ble_eq_true rfl⟩ rfl rfl (Nat.le_of_ble_eq_true rfl) dX11_nameNow_39 ?_
      refine g_bipush (v := 115) C dX11_nameNow_42 (by decide) ?_
      rcases oi_e hf with ⟨c12, hf⟩ | ⟨c12, hf⟩
      · refine g_icmp_ne_t (tgt := 49) C dX11_nameNow_44 (by decide) c12 ?_
        exact g_sub [0] rfl (fX11_nameNow_b49_ok C σ10 hf)
      · refine g_icmp_ne_f (tgt := 49) C dX11_nameNow_44 (by decide) (Decidable.of_not_not c12) ?_
        refine g_iconst (v := 0) C dX11_nameNow_47 (by decide) ?_
        obtain ⟨rfl, rfl⟩ := os_e hf
        exact g_iret C rfl dX11_nameNow_48
theorem c_X11_nameNow (l : Launch) (dC : Nat → ClassId) (dI : Nat → Nat → Nat) (ad : Nat → Nat) (cy : Nat → ClassId)  : ConI l yX11_nameNow cX11_nameNow 1 (some .int) rm_X11_nameNow dC dI ad cy [.ref (ad 98)] (fun σ => fX11_nameNow σ) := con_i (own := RX11) (by decide) rfl (Nat.le_of_ble_eq_true rfl) (fun _ _ _ _ _ _ _ _ σ _ _ C hf => fX11_nameNow_ok C σ  hf)
theorem cal_X11_nameNow : CalV yX11_nameNow RX11 cX11_nameNow 1 (some .int) 0 := ⟨hI_X11_nameNow, hS_X11_nameNow, hIni_X11, hC_X11_nameNow, by decide +kernel⟩
abbrev rm_X11_withNow : Room := { frames := 2, cells := 0, slots := 0, locals := 46 }
def fX11_withNow (σ : S0)  : Option (Int32 × S0) := obp (fX11_is σ ((4 : Int32)) ((104 : Int32)) ((97 : Int32)) ((108 : Int32)) ((102 : Int32))) (fun r1 σ2 => if r1 = 0 then (obp (fX11_is σ2 ((4 : Int32)) ((115 : Int32)) ((104 : Int32)) ((117 : Int32)) ((116 : Int32))) (fun r5 σ6 => if r5 = 0 then (some ((-4), σ6)) else (some (11, σ6)))) else (some (10, σ2)))
set_option maxHeartbeats 1000000 in
set_option maxRecDepth 100000 in
theorem fX11_withNow_ok {p : Program} {l : Launch} {e : Env} {s : State} {m : MethodId} {args : Array Value} {below : List Frame} {meth : Method} {c : Code} {dC : Nat → ClassId} {dI : Nat → Nat → Nat} {ad : Nat → Nat} {cy : Nat → ClassId} {sz : Nat} (C : Cx p s m args meth c RX11 cX11_withNow 1 (some .int) dC dI ad cy sz) {rr : Int32} {ρ : S0} (σ : S0)   (hf : fX11_withNow σ = some (rr, ρ)) : Gw p l e rm_X11_withNow s m args below meth c (MQ below (QcI dC dI ad cy sz rr ρ) args s 0 0 (AW ad sz)) dC dI ad cy 1 sz 0 0 0 [(0, .ref (ad 98))] [] σ := by
  unfold fX11_withNow at hf
  refine g_aload_n C dX11_withNow_0 rfl 0 rfl ?_
  refine g_iconst (v := 4) C dX11_withNow_1 (by decide) ?_
  refine g_bipush (v := 104) C dX11_withNow_2 (by decide) ?_
  refine g_bipush (v := 97) C dX11_withNow_4 (by decide) ?_
  refine g_bipush (v := 108) C dX11_withNow_6 (by decide) ?_
  refine g_bipush (v := 102) C dX11_withNow_8 (by decide) ?_
  obtain ⟨r1, σ2, h3, hf⟩ := obp_e hf
  refine g_callVi (As := [.int 4, .int 104, .int 97, .int 108, .int 102]) (rest := []) C (a_98 ad cy _) rfl (c_X11_is l dC dI ad cy ((4 : Int32)) ((104 : Int32)) ((97 : Int32)) ((108 : Int32)) ((102 : Int32))) h3 hM_X11_112 cal_X11_is ⟨Nat.zero_le _, Nat.zero_le _⟩ ⟨rfl, rfl⟩ ⟨Nat.le_of_ble_eq_true rfl, Nat.le_of_ble_eq_true rfl⟩ rfl rfl (Nat.le_of_ble_eq_true rfl) dX11_withNow_10 ?_
  rcases oi_e hf with ⟨c4, hf⟩ | ⟨c4, hf⟩
  · refine g_if_eq_t (tgt := 21) C dX11_withNow_13 (by decide) c4 ?_
    refine g_aload_n C dX11_withNow_21 rfl 0 rfl ?_
    refine g_iconst (v := 4) C dX11_withNow_22 (by decide) ?_
    refine g_bipush (v := 115) C dX11_withNow_23 (by decide) ?_
    refine g_bipush (v := 104) C dX11_withNow_25 (by decide) ?_
    refine g_bipush (v := 117) C dX11_withNow_27 (by decide) ?_
    refine g_bipush (v := 116) C dX11_withNow_29 (by decide) ?_
    obtain ⟨r5, σ6, h7, hf⟩ := obp_e hf
    refine g_callVi (As := [.int 4, .int 115, .int 104, .int 117, .int 116]) (rest := []) C (a_98 ad cy _) rfl (c_X11_is l dC dI ad cy ((4 : Int32)) ((115 : Int32)) ((104 : Int32)) ((117 : Int32)) ((116 : Int32))) h7 hM_X11_112 cal_X11_is ⟨Nat.zero_le _, Nat.zero_le _⟩ ⟨rfl, rfl⟩ ⟨Nat.le_of_ble_eq_true rfl, Nat.le_of_ble_eq_true rfl⟩ rfl rfl (Nat.le_of_ble_eq_true rfl) dX11_withNow_31 ?_
    rcases oi_e hf with ⟨c8, hf⟩ | ⟨c8, hf⟩
    · refine g_if_eq_t (tgt := 42) C dX11_withNow_34 (by decide) c8 ?_
      refine g_bipush (v := (-4)) C dX11_withNow_42 (by decide) ?_
      obtain ⟨rfl, rfl⟩ := os_e hf
      exact g_iret C rfl dX11_withNow_44
    · refine g_if_eq_f (tgt := 42) C dX11_withNow_34 (by decide) c8 ?_
      refine g_bipush (v := 11) C dX11_withNow_37 (by decide) ?_
      refine g_goto (tgt := 44) C dX11_withNow_39 (by decide) ?_
      obtain ⟨rfl, rfl⟩ := os_e hf
      exact g_iret C rfl dX11_withNow_44
  · refine g_if_eq_f (tgt := 21) C dX11_withNow_13 (by decide) c4 ?_
    refine g_bipush (v := 10) C dX11_withNow_16 (by decide) ?_
    refine g_goto (tgt := 44) C dX11_withNow_18 (by decide) ?_
    obtain ⟨rfl, rfl⟩ := os_e hf
    exact g_iret C rfl dX11_withNow_44
theorem c_X11_withNow (l : Launch) (dC : Nat → ClassId) (dI : Nat → Nat → Nat) (ad : Nat → Nat) (cy : Nat → ClassId)  : ConI l yX11_withNow cX11_withNow 1 (some .int) rm_X11_withNow dC dI ad cy [.ref (ad 98)] (fun σ => fX11_withNow σ) := con_i (own := RX11) (by decide) rfl (Nat.le_of_ble_eq_true rfl) (fun _ _ _ _ _ _ _ _ σ _ _ C hf => fX11_withNow_ok C σ  hf)
theorem cal_X11_withNow : CalV yX11_withNow RX11 cX11_withNow 1 (some .int) 0 := ⟨hI_X11_withNow, hS_X11_withNow, hIni_X11, hC_X11_withNow, by decide +kernel⟩
abbrev rm_X11_next : Room := { frames := 1, cells := 0, slots := 0, locals := 25 }
def fX11_next_b260  (σ : S0) (t0 : Int32) : Option (Int32 × S0) := obp (fX11_needs σ t0 ((1 : Int32))) (fun r1 σ2 => ol ((σ2 98 18) + 1) (fun v4 => ol (su σ2 98 18 v4) (fun σ5 => some (0, σ5))))
set_option maxHeartbeats 1000000 in
set_option maxRecDepth 100000 in
theorem fX11_next_b260_ok {p : Program} {l : Launch} {e : Env} {s : State} {m : MethodId} {args : Array Value} {below : List Frame} {meth : Method} {c : Code} {dC : Nat → ClassId} {dI : Nat → Nat → Nat} {ad : Nat → Nat} {cy : Nat → ClassId} {sz : Nat} (C : Cx p s m args meth c RX11 cX11_next 2 none dC dI ad cy sz) {rr : Int32} {ρ : S0}  (σ : S0) (t0 : Int32)  (hf : fX11_next_b260 σ t0 = some (rr, ρ)) : Gw p l e rm_X11_next s m args below meth c (MQ below (QcV dC dI ad cy sz ρ) args s 0 0 (AW ad sz)) dC dI ad cy 2 sz 0 0 260 [(0, .ref (ad 98))] [.int t0, .ref (ad 98)] σ := by
  unfold fX11_next_b260 at hf
  refine g_iconst (v := 1) C dX11_next_260 (by decide) ?_
  obtain ⟨r1, σ2, h3, hf⟩ := obp_e hf
  refine g_callVv (As := [.int t0, .int 1]) (rest := []) C (a_98 ad cy _) rfl (c_X11_needs l dC dI ad cy t0 ((1 : Int32))) h3 hM_X11_130 cal_X11_needs ⟨Nat.zero_le _, Nat.zero_le _⟩ ⟨rfl, rfl⟩ ⟨Nat.le_of_ble_eq_true rfl, Nat.le_of_ble_eq_true rfl⟩ rfl rfl (Nat.le_of_ble_eq_true rfl) dX11_next_261 ?_
  refine g_aload_n C dX11_next_264 rfl 0 rfl ?_
  refine g_dup C dX11_next_265 rfl ?_
  refine g_get C (a_98 ad cy _) rfl hin_X11 18 (by decide) hF_X11_105 rfl rfl dX11_next_266 ?_
  refine g_iconst (v := 1) C dX11_next_269 (by decide) ?_
  refine g_iadd C dX11_next_270 ?_
  obtain ⟨v4, ev4, hf⟩ := ol_e hf
  refine g_nm ev4 ?_
  obtain ⟨σ5, eσ5, hf⟩ := ol_e hf
  refine g_put (ty := .int) C (a_98 ad cy _) rfl hin_X11 tyX11 tyX11_ok nmX11 18 (by decide) hF_X11_105 rfl rfl (by decide +kernel) rfl rfl (Nat.le_of_ble_eq_true rfl) (p_98_18 ad cy _ _) eσ5 dX11_next_271 ?_
  obtain ⟨rfl, rfl⟩ := os_e hf
  exact g_vret C rfl dX11_next_274
def fX11_next_b82 (sf_82 : S0 → Option (Int32 × S0)) (σ : S0)  : Option (Int32 × S0) := obp (fX11_look σ (σ 98 18)) (fun r1 σ2 => obp (fX11_in σ2 r1.toInt64 ((97 : Int64)) ((122 : Int64))) (fun r4 σ5 => if r4 = 0 then (some (0, σ5)) else (ol ((σ5 98 18) + 1) (fun v8 => ol (su σ5 98 18 v8) (fun σ9 => sf_82 σ9)))))
set_option maxHeartbeats 1000000 in
set_option maxRecDepth 100000 in
theorem fX11_next_b82_ok {p : Program} {l : Launch} {e : Env} {s : State} {m : MethodId} {args : Array Value} {below : List Frame} {meth : Method} {c : Code} {dC : Nat → ClassId} {dI : Nat → Nat → Nat} {ad : Nat → Nat} {cy : Nat → ClassId} {sz : Nat} (C : Cx p s m args meth c RX11 cX11_next 2 none dC dI ad cy sz) {rr : Int32} {ρ : S0} (sf_82 : S0 → Option (Int32 × S0)) (hs_82 : ∀ (σ : S0)  , sf_82 σ = some (rr, ρ) → Gw p l e rm_X11_next s m args below meth c (MQ below (QcV dC dI ad cy sz ρ) args s 0 0 (AW ad sz)) dC dI ad cy 2 sz 0 0 82 [(0, .ref (ad 98))] [] σ) (σ : S0)   (hf : fX11_next_b82 sf_82 σ = some (rr, ρ)) : Gw p l e rm_X11_next s m args below meth c (MQ below (QcV dC dI ad cy sz ρ) args s 0 0 (AW ad sz)) dC dI ad cy 2 sz 0 0 82 [(0, .ref (ad 98))] [] σ := by
  unfold fX11_next_b82 at hf
  refine g_aload_n C dX11_next_82 rfl 0 rfl ?_
  refine g_aload_n C dX11_next_83 rfl 0 rfl ?_
  refine g_get C (a_98 ad cy _) rfl hin_X11 18 (by decide) hF_X11_105 rfl rfl dX11_next_84 ?_
  obtain ⟨r1, σ2, h3, hf⟩ := obp_e hf
  refine g_callVi (As := [.int (σ 98 18)]) (rest := []) C (a_98 ad cy _) rfl (c_X11_look l dC dI ad cy (σ 98 18)) h3 hM_X11_108 cal_X11_look ⟨Nat.zero_le _, Nat.zero_le _⟩ ⟨rfl, rfl⟩ ⟨Nat.le_of_ble_eq_true rfl, Nat.le_of_ble_eq_true rfl⟩ rfl rfl (Nat.le_of_ble_eq_true rfl) dX11_next_87 ?_
  refine g_i2l C dX11_next_90 ?_
  refine g_ldc2 (v := 97) C dX11_next_91 hK_X11_119 ?_
  refine g_ldc2 (v := 122) C dX11_next_94 hK_X11_121 ?_
  obtain ⟨r4, σ5, h6, hf⟩ := obp_e hf
  refine g_callSi (As := [.long r1.toInt64, .long 97, .long 122]) (rest := []) C (c_X11_in l dC dI ad cy r1.toInt64 ((97 : Int64)) ((122 : Int64))) h6 hM_X11_92 cal_X11_in ⟨Nat.zero_le _, Nat.zero_le _⟩ ⟨rfl, rfl⟩ ⟨Nat.le_of_ble_eq_true rfl, Nat.le_of_ble_eq_true rfl⟩ rfl rfl (Nat.le_of_ble_eq_true rfl) dX11_next_97 ?_
  rcases oi_e hf with ⟨c7, hf⟩ | ⟨c7, hf⟩
  · refine g_if_eq_t (tgt := 274) C dX11_next_100 (by decide) c7 ?_
    obtain ⟨rfl, rfl⟩ := os_e hf
    exact g_vret C rfl dX11_next_274
  · refine g_if_eq_f (tgt := 274) C dX11_next_100 (by decide) c7 ?_
    refine g_aload_n C dX11_next_103 rfl 0 rfl ?_
    refine g_dup C dX11_next_104 rfl ?_
    refine g_get C (a_98 ad cy _) rfl hin_X11 18 (by decide) hF_X11_105 rfl rfl dX11_next_105 ?_
    refine g_iconst (v := 1) C dX11_next_108 (by decide) ?_
    refine g_iadd C dX11_next_109 ?_
    obtain ⟨v8, ev8, hf⟩ := ol_e hf
    refine g_nm ev8 ?_
    obtain ⟨σ9, eσ9, hf⟩ := ol_e hf
    refine g_put (ty := .int) C (a_98 ad cy _) rfl hin_X11 tyX11 tyX11_ok nmX11 18 (by decide) hF_X11_105 rfl rfl (by decide +kernel) rfl rfl (Nat.le_of_ble_eq_true rfl) (p_98_18 ad cy _ _) eσ9 dX11_next_110 ?_
    refine g_goto (tgt := 82) C dX11_next_113 (by decide) ?_
    exact g_sub [0] rfl (hs_82 σ9 hf)
def fX11_next_h82  : Nat → S0 → Option (Int32 × S0)
  | 0 => fun _ => none
  | n + 1 => fun σ => fX11_next_b82  (fX11_next_h82  n) σ
set_option maxHeartbeats 1000000 in
set_option maxRecDepth 100000 in
theorem fX11_next_h82_ok {p : Program} {l : Launch} {e : Env} {s : State} {m : MethodId} {args : Array Value} {below : List Frame} {meth : Method} {c : Code} {dC : Nat → ClassId} {dI : Nat → Nat → Nat} {ad : Nat → Nat} {cy : Nat → ClassId} {sz : Nat} (C : Cx p s m args meth c RX11 cX11_next 2 none dC dI ad cy sz) {rr : Int32} {ρ : S0}  : ∀ (n : Nat) (σ : S0)   (_hf : fX11_next_h82  n σ = some (rr, ρ)), Gw p l e rm_X11_next s m args below meth c (MQ below (QcV dC dI ad cy sz ρ) args s 0 0 (AW ad sz)) dC dI ad cy 2 sz 0 0 82 [(0, .ref (ad 98))] [] σ
  | 0, _, hf => by cases hf
  | n + 1, σ, hf => fX11_next_b82_ok C  (fX11_next_h82  n) (fX11_next_h82_ok C  n) σ hf
def fX11_next_b201 (sf_140 : S0 → Option (Int32 × S0)) (σ : S0) (t0 : Int32) : Option (Int32 × S0) := ol (su σ 98 21 t0) (fun σ1 => ol ((σ1 98 18) + 1) (fun v2 => ol (su σ1 98 18 v2) (fun σ3 => sf_140 σ3)))
set_option maxHeartbeats 1000000 in
set_option maxRecDepth 100000 in
theorem fX11_next_b201_ok {p : Program} {l : Launch} {e : Env} {s : State} {m : MethodId} {args : Array Value} {below : List Frame} {meth : Method} {c : Code} {dC : Nat → ClassId} {dI : Nat → Nat → Nat} {ad : Nat → Nat} {cy : Nat → ClassId} {sz : Nat} (C : Cx p s m args meth c RX11 cX11_next 2 none dC dI ad cy sz) {rr : Int32} {ρ : S0} (sf_140 : S0 → Option (Int32 × S0)) (hs_140 : ∀ (σ : S0)  , sf_140 σ = some (rr, ρ) → Gw p l e rm_X11_next s m args below meth c (MQ below (QcV dC dI ad cy sz ρ) args s 0 0 (AW ad sz)) dC dI ad cy 2 sz 0 0 140 [(0, .ref (ad 98))] [] σ) (σ : S0) (t0 : Int32)  (hf : fX11_next_b201 sf_140 σ t0 = some (rr, ρ)) : Gw p l e rm_X11_next s m args below meth c (MQ below (QcV dC dI ad cy sz ρ) args s 0 0 (AW ad sz)) dC dI ad cy 2 sz 0 0 201 [(0, .ref (ad 98))] [.int t0, .ref (ad 98)] σ := by
  unfold fX11_next_b201 at hf
  obtain ⟨σ1, eσ1, hf⟩ := ol_e hf
  refine g_put (ty := .int) C (a_98 ad cy _) rfl hin_X11 tyX11 tyX11_ok nmX11 21 (by decide) hF_X11_127 rfl rfl (by decide +kernel) rfl rfl (Nat.le_of_ble_eq_true rfl) (p_98_21 ad cy _ _) eσ1 dX11_next_201 ?_
  refine g_aload_n C dX11_next_204 rfl 0 rfl ?_
  refine g_dup C dX11_next_205 rfl ?_
  refine g_get C (a_98 ad cy _) rfl hin_X11 18 (by decide) hF_X11_105 rfl rfl dX11_next_206 ?_
  refine g_iconst (v := 1) C dX11_next_209 (by decide) ?_
  refine g_iadd C dX11_next_210 ?_
  obtain ⟨v2, ev2, hf⟩ := ol_e hf
  refine g_nm ev2 ?_
  obtain ⟨σ3, eσ3, hf⟩ := ol_e hf
  refine g_put (ty := .int) C (a_98 ad cy _) rfl hin_X11 tyX11 tyX11_ok nmX11 18 (by decide) hF_X11_105 rfl rfl (by decide +kernel) rfl rfl (Nat.le_of_ble_eq_true rfl) (p_98_18 ad cy _ _) eσ3 dX11_next_211 ?_
  refine g_goto (tgt := 140) C dX11_next_214 (by decide) ?_
  exact g_sub [0] rfl (hs_140 σ3 hf)
def fX11_next_b236  (σ : S0) (t0 : Int32) : Option (Int32 × S0) := obp (fX11_needs σ t0 ((1 : Int32))) (fun r1 σ2 => some (0, σ2))
set_option maxHeartbeats 1000000 in
set_option maxRecDepth 100000 in
theorem fX11_next_b236_ok {p : Program} {l : Launch} {e : Env} {s : State} {m : MethodId} {args : Array Value} {below : List Frame} {meth : Method} {c : Code} {dC : Nat → ClassId} {dI : Nat → Nat → Nat} {ad : Nat → Nat} {cy : Nat → ClassId} {sz : Nat} (C : Cx p s m args meth c RX11 cX11_next 2 none dC dI ad cy sz) {rr : Int32} {ρ : S0}  (σ : S0) (t0 : Int32)  (hf : fX11_next_b236 σ t0 = some (rr, ρ)) : Gw p l e rm_X11_next s m args below meth c (MQ below (QcV dC dI ad cy sz ρ) args s 0 0 (AW ad sz)) dC dI ad cy 2 sz 0 0 236 [] [.int t0, .ref (ad 98)] σ := by
  unfold fX11_next_b236 at hf
  refine g_iconst (v := 1) C dX11_next_236 (by decide) ?_
  obtain ⟨r1, σ2, h3, hf⟩ := obp_e hf
  refine g_callVv (As := [.int t0, .int 1]) (rest := []) C (a_98 ad cy _) rfl (c_X11_needs l dC dI ad cy t0 ((1 : Int32))) h3 hM_X11_130 cal_X11_needs ⟨Nat.zero_le _, Nat.zero_le _⟩ ⟨rfl, rfl⟩ ⟨Nat.le_of_ble_eq_true rfl, Nat.le_of_ble_eq_true rfl⟩ rfl rfl (Nat.le_of_ble_eq_true rfl) dX11_next_237 ?_
  refine g_goto (tgt := 274) C dX11_next_240 (by decide) ?_
  obtain ⟨rfl, rfl⟩ := os_e hf
  exact g_vret C rfl dX11_next_274
def fX11_next_b140 (sf_140 : S0 → Option (Int32 × S0)) (σ : S0)  : Option (Int32 × S0) := obp (fX11_look σ (σ 98 18)) (fun r1 σ2 => obp (fX11_in σ2 r1.toInt64 ((48 : Int64)) ((57 : Int64))) (fun r4 σ5 => if r4 = 0 then (if (2 : Int32) < ((σ5 98 18) - (σ5 98 19)) then (fX11_next_b236 σ5 0) else (fX11_next_b236 σ5 1)) else (if (2 : Int32) ≤ ((σ5 98 18) - (σ5 98 19)) then (fX11_next_b201 sf_140 σ5 (σ5 98 21)) else (obp (fX11_look σ5 (σ5 98 18)) (fun r10 σ11 => fX11_next_b201 sf_140 σ11 (((10 * (σ5 98 21)) + r10) - 48))))))
set_option maxHeartbeats 1000000 in
set_option maxRecDepth 100000 in
theorem fX11_next_b140_ok {p : Program} {l : Launch} {e : Env} {s : State} {m : MethodId} {args : Array Value} {below : List Frame} {meth : Method} {c : Code} {dC : Nat → ClassId} {dI : Nat → Nat → Nat} {ad : Nat → Nat} {cy : Nat → ClassId} {sz : Nat} (C : Cx p s m args meth c RX11 cX11_next 2 none dC dI ad cy sz) {rr : Int32} {ρ : S0} (sf_140 : S0 → Option (Int32 × S0)) (hs_140 : ∀ (σ : S0)  , sf_140 σ = some (rr, ρ) → Gw p l e rm_X11_next s m args below meth c (MQ below (QcV dC dI ad cy sz ρ) args s 0 0 (AW ad sz)) dC dI ad cy 2 sz 0 0 140 [(0, .ref (ad 98))] [] σ) (σ : S0)   (hf : fX11_next_b140 sf_140 σ = some (rr, ρ)) : Gw p l e rm_X11_next s m args below meth c (MQ below (QcV dC dI ad cy sz ρ) args s 0 0 (AW ad sz)) dC dI ad cy 2 sz 0 0 140 [(0, .ref (ad 98))] [] σ := by
  unfold fX11_next_b140 at hf
  refine g_aload_n C dX11_next_140 rfl 0 rfl ?_
  refine g_aload_n C dX11_next_141 rfl 0 rfl ?_
  refine g_get C (a_98 ad cy _) rfl hin_X11 18 (by decide) hF_X11_105 rfl rfl dX11_next_142 ?_
  obtain ⟨r1, σ2, h3, hf⟩ := obp_e hf
  refine g_callVi (As := [.int (σ 98 18)]) (rest := []) C (a_98 ad cy _) rfl (c_X11_look l dC dI ad cy (σ 98 18)) h3 hM_X11_108 cal_X11_look ⟨Nat.zero_le _, Nat.zero_le _⟩ ⟨rfl, rfl⟩ ⟨Nat.le_of_ble_eq_true rfl, Nat.le_of_ble_eq_true rfl⟩ rfl rfl (Nat.le_of_ble_eq_true rfl) dX11_next_145 ?_
  refine g_i2l C dX11_next_148 ?_
  refine g_ldc2 (v := 48) C dX11_next_149 hK_X11_123 ?_
  refine g_ldc2 (v := 57) C dX11_next_152 hK_X11_125 ?_
  obtain ⟨r4, σ5, h6, hf⟩ := obp_e hf
  refine g_callSi (As := [.long r1.toInt64, .long 48, .long 57]) (rest := []) C (c_X11_in l dC dI ad cy r1.toInt64 ((48 : Int64)) ((57 : Int64))) h6 hM_X11_92 cal_X11_in ⟨Nat.zero_le _, Nat.zero_le _⟩ ⟨rfl, rfl⟩ ⟨Nat.le_of_ble_eq_true rfl, Nat.le_of_ble_eq_true rfl⟩ rfl rfl (Nat.le_of_ble_eq_true rfl) dX11_next_155 ?_
  rcases oi_e hf with ⟨c7, hf⟩ | ⟨c7, hf⟩
  · refine g_if_eq_t (tgt := 217) C dX11_next_158 (by decide) c7 ?_
    refine g_aload_n C dX11_next_217 rfl 0 rfl ?_
    refine g_aload_n C dX11_next_218 rfl 0 rfl ?_
    refine g_get C (a_98 ad cy _) rfl hin_X11 18 (by decide) hF_X11_105 rfl rfl dX11_next_219 ?_
    refine g_aload_n C dX11_next_222 rfl 0 rfl ?_
    refine g_get C (a_98 ad cy _) rfl hin_X11 19 (by decide) hF_X11_99 rfl rfl dX11_next_223 ?_
    refine g_isub C dX11_next_226 ?_
    refine g_iconst (v := 2) C dX11_next_227 (by decide) ?_
    rcases oi_e hf with ⟨c8, hf⟩ | ⟨c8, hf⟩
    · refine g_icmp_gt_t (tgt := 235) C dX11_next_228 (by decide) c8 ?_
      refine g_iconst (v := 0) C dX11_next_235 (by decide) ?_
      exact g_sub [] rfl (fX11_next_b236_ok C σ5 0 hf)
    · refine g_icmp_gt_f (tgt := 235) C dX11_next_228 (by decide) c8 ?_
      refine g_iconst (v := 1) C dX11_next_231 (by decide) ?_
      refine g_goto (tgt := 236) C dX11_next_232 (by decide) ?_
      exact g_sub [] rfl (fX11_next_b236_ok C σ5 1 hf)
  · refine g_if_eq_f (tgt := 217) C dX11_next_158 (by decide) c7 ?_
    refine g_aload_n C dX11_next_161 rfl 0 rfl ?_
    refine g_aload_n C dX11_next_162 rfl 0 rfl ?_
    refine g_get C (a_98 ad cy _) rfl hin_X11 18 (by decide) hF_X11_105 rfl rfl dX11_next_163 ?_
    refine g_aload_n C dX11_next_166 rfl 0 rfl ?_
    refine g_get C (a_98 ad cy _) rfl hin_X11 19 (by decide) hF_X11_99 rfl rfl dX11_next_167 ?_
    refine g_isub C dX11_next_170 ?_
    refine g_iconst (v := 2) C dX11_next_171 (by decide) ?_
    rcases oi_e hf with ⟨c9, hf⟩ | ⟨c9, hf⟩
    · refine g_icmp_ge_t (tgt := 197) C dX11_next_172 (by decide) c9 ?_
      refine g_aload_n C dX11_next_197 rfl 0 rfl ?_
      refine g_get C (a_98 ad cy _) rfl hin_X11 21 (by decide) hF_X11_127 rfl rfl dX11_next_198 ?_
      exact g_sub [0] rfl (fX11_next_b201_ok C sf_140 hs_140 σ5 (σ5 98 21) hf)
    · refine g_icmp_ge_f (tgt := 197) C dX11_next_172 (by decide) c9 ?_
      refine g_bipush (v := 10) C dX11_next_175 (by decide) ?_
      refine g_aload_n C dX11_next_177 rfl 0 rfl ?_
      refine g_get C (a_98 ad cy _) rfl hin_X11 21 (by decide) hF_X11_127 rfl rfl dX11_next_178 ?_
      refine g_imul C dX11_next_181 ?_
      refine g_aload_n C dX11_next_182 rfl 0 rfl ?_
      refine g_aload_n C dX11_next_183 rfl 0 rfl ?_
      refine g_get C (a_98 ad cy _) rfl hin_X11 18 (by decide) hF_X11_105 rfl rfl dX11_next_184 ?_
      obtain ⟨r10, σ11, h12, hf⟩ := obp_e hf
      refine g_callVi (As := [.int (σ5 98 18)]) (rest := [.int (10 * (σ5 98 21)), .ref (ad 98)]) C (a_98 ad cy _) rfl (c_X11_look l dC dI ad cy (σ5 98 18)) h12 hM_X11_108 cal_X11_look ⟨Nat.zero_le _, Nat.zero_le _⟩ ⟨rfl, rfl⟩ ⟨Nat.le_of_ble_eq_true rfl, Nat.le_of_ble_eq_true rfl⟩ rfl rfl (Nat.le_of_ble_eq_true rfl) dX11_next_187 ?_
      refine g_iadd C dX11_next_190 ?_
      refine g_bipush (v := 48) C dX11_next_191 (by decide) ?_
      refine g_isub C dX11_next_193 ?_
      refine g_goto (tgt := 201) C dX11_next_194 (by decide) ?_
      exact g_sub [0] rfl (fX11_next_b201_ok C sf_140 hs_140 σ11 (((10 * (σ5 98 21)) + r10) - 48) hf)
def fX11_next_h140  : Nat → S0 → Option (Int32 × S0)
  | 0 => fun _ => none
  | n + 1 => fun σ => fX11_next_b140  (fX11_next_h140  n) σ
set_option maxHeartbeats 1000000 in
set_option maxRecDepth 100000 in
theorem fX11_next_h140_ok {p : Program} {l : Launch} {e : Env} {s : State} {m : MethodId} {args : Array Value} {below : List Frame} {meth : Method} {c : Code} {dC : Nat → ClassId} {dI : Nat → Nat → Nat} {ad : Nat → Nat} {cy : Nat → ClassId} {sz : Nat} (C : Cx p s m args meth c RX11 cX11_next 2 none dC dI ad cy sz) {rr : Int32} {ρ : S0}  : ∀ (n : Nat) (σ : S0)   (_hf : fX11_next_h140  n σ = some (rr, ρ)), Gw p l e rm_X11_next s m args below meth c (MQ below (QcV dC dI ad cy sz ρ) args s 0 0 (AW ad sz)) dC dI ad cy 2 sz 0 0 140 [(0, .ref (ad 98))] [] σ
  | 0, _, hf => by cases hf
  | n + 1, σ, hf => fX11_next_b140_ok C  (fX11_next_h140  n) (fX11_next_h140_ok C  n) σ hf
def fX11_next_b8 (sf_8 : S0 → Option (Int32 × S0)) (σ : S0)  : Option (Int32 × S0) := obp (fX11_look σ (σ 98 18)) (fun r1 σ2 => if ¬ r1 = 32 then (ol (σ2 98 18) (fun v5 => ol (su σ2 98 19 v5) (fun σ6 => obp (fX11_look σ6 (σ6 98 18)) (fun r7 σ8 => if 0 ≤ r7 then (obp (fX11_in σ8 r7.toInt64 ((97 : Int64)) ((122 : Int64))) (fun r11 σ12 => if r11 = 0 then (obp (fX11_in σ12 r7.toInt64 ((48 : Int64)) ((57 : Int64))) (fun r15 σ16 => if r15 = 0 then (ol (su σ16 98 20 3) (fun σ19 => if ¬ r7 = 59 then (fX11_next_b260 σ19 0) else (fX11_next_b260 σ19 1))) else (ol (su σ16 98 20 2) (fun σ21 => ol (su σ21 98 21 0) (fun σ22 => fX11_next_h140 400 σ22))))) else (ol (su σ12 98 20 1) (fun σ23 => fX11_next_h82 400 σ23)))) else (ol (su σ8 98 20 0) (fun σ24 => some (0, σ24))))))) else (ol ((σ2 98 18) + 1) (fun v25 => ol (su σ2 98 18 v25) (fun σ26 => sf_8 σ26))))
set_option maxHeartbeats 1000000 in
set_option maxRecDepth 100000 in
theorem fX11_next_b8_ok {p : Program} {l : Launch} {e : Env} {s : State} {m : MethodId} {args : Array Value} {below : List Frame} {meth : Method} {c : Code} {dC : Nat → ClassId} {dI : Nat → Nat → Nat} {ad : Nat → Nat} {cy : Nat → ClassId} {sz : Nat} (C : Cx p s m args meth c RX11 cX11_next 2 none dC dI ad cy sz) {rr : Int32} {ρ : S0} (sf_8 : S0 → Option (Int32 × S0)) (hs_8 : ∀ (σ : S0)  , sf_8 σ = some (rr, ρ) → Gw p l e rm_X11_next s m args below meth c (MQ below (QcV dC dI ad cy sz ρ) args s 0 0 (AW ad sz)) dC dI ad cy 2 sz 0 0 8 [(0, .ref (ad 98))] [] σ) (σ : S0)   (hf : fX11_next_b8 sf_8 σ = some (rr, ρ)) : Gw p l e rm_X11_next s m args below meth c (MQ below (QcV dC dI ad cy sz ρ) args s 0 0 (AW ad sz)) dC dI ad cy 2 sz 0 0 8 [(0, .ref (ad 98))] [] σ := by
  unfold fX11_next_b8 at hf
  refine g_aload_n C dX11_next_8 rfl 0 rfl ?_
  refine g_aload_n C dX11_next_9 rfl 0 rfl ?_
  refine g_get C (a_98 ad cy _) rfl hin_X11 18 (by decide) hF_X11_105 rfl rfl dX11_next_10 ?_
  obtain ⟨r1, σ2, h3, hf⟩ := obp_e hf
  refine g_callVi (As := [.int (σ 98 18)]) (rest := []) C (a_98 ad cy _) rfl (c_X11_look l dC dI ad cy (σ 98 18)) h3 hM_X11_108 cal_X11_look ⟨Nat.zero_le _, Nat.zero_le _⟩ ⟨rfl, rfl⟩ ⟨Nat.le_of_ble_eq_true rfl, Nat.le_of_ble_eq_true rfl⟩ rfl rfl (Nat.le_of_ble_eq_true rfl) dX11_next_13 ?_
  refine g_bipush (v := 32) C dX11_next_16 (by decide) ?_
  rcases oi_e hf with ⟨c4, hf⟩ | ⟨c4, hf⟩
  · refine g_icmp_ne_t (tgt := 34) C dX11_next_18 (by decide) c4 ?_
    refine g_aload_n C dX11_next_34 rfl 0 rfl ?_
    refine g_aload_n C dX11_next_35 rfl 0 rfl ?_
    refine g_get C (a_98 ad cy _) rfl hin_X11 18 (by decide) hF_X11_105 rfl rfl dX11_next_36 ?_
    obtain ⟨v5, ev5, hf⟩ := ol_e hf
    refine g_nm ev5 ?_
    obtain ⟨σ6, eσ6, hf⟩ := ol_e hf
    refine g_put (ty := .int) C (a_98 ad cy _) rfl hin_X11 tyX11 tyX11_ok nmX11 19 (by decide) hF_X11_99 rfl rfl (by decide +kernel) rfl rfl (Nat.le_of_ble_eq_true rfl) (p_98_19 ad cy _ _) eσ6 dX11_next_39 ?_
    refine g_aload_n C dX11_next_42 rfl 0 rfl ?_
    refine g_aload_n C dX11_next_43 rfl 0 rfl ?_
    refine g_get C (a_98 ad cy _) rfl hin_X11 18 (by decide) hF_X11_105 rfl rfl dX11_next_44 ?_
    obtain ⟨r7, σ8, h9, hf⟩ := obp_e hf
    refine g_callVi (As := [.int (σ6 98 18)]) (rest := []) C (a_98 ad cy _) rfl (c_X11_look l dC dI ad cy (σ6 98 18)) h9 hM_X11_108 cal_X11_look ⟨Nat.zero_le _, Nat.zero_le _⟩ ⟨rfl, rfl⟩ ⟨Nat.le_of_ble_eq_true rfl, Nat.le_of_ble_eq_true rfl⟩ rfl rfl (Nat.le_of_ble_eq_true rfl) dX11_next_47 ?_
    refine g_istore_n (lv2 := [(0, .ref (ad 98)), (1, .int r7)]) C dX11_next_50 rfl (by decide) [1, 0] rfl ?_
    refine g_iload_n C dX11_next_51 rfl 1 rfl ?_
    rcases oi_e hf with ⟨c10, hf⟩ | ⟨c10, hf⟩
    · refine g_if_ge_t (tgt := 63) C dX11_next_52 (by decide) c10 ?_
      refine g_iload_n C dX11_next_63 rfl 1 rfl ?_
      refine g_i2l C dX11_next_64 ?_
      refine g_ldc2 (v := 97) C dX11_next_65 hK_X11_119 ?_
      refine g_ldc2 (v := 122) C dX11_next_68 hK_X11_121 ?_
      obtain ⟨r11, σ12, h13, hf⟩ := obp_e hf
      refine g_callSi (As := [.long r7.toInt64, .long 97, .long 122]) (rest := []) C (c_X11_in l dC dI ad cy r7.toInt64 ((97 : Int64)) ((122 : Int64))) h13 hM_X11_92 cal_X11_in ⟨Nat.zero_le _, Nat.zero_le _⟩ ⟨rfl, rfl⟩ ⟨Nat.le_of_ble_eq_true rfl, Nat.le_of_ble_eq_true rfl⟩ rfl rfl (Nat.le_of_ble_eq_true rfl) dX11_next_71 ?_
      rcases oi_e hf with ⟨c14, hf⟩ | ⟨c14, hf⟩
      · refine g_if_eq_t (tgt := 116) C dX11_next_74 (by decide) c14 ?_
        refine g_iload_n C dX11_next_116 rfl 1 rfl ?_
        refine g_i2l C dX11_next_117 ?_
        refine g_ldc2 (v := 48) C dX11_next_118 hK_X11_123 ?_
        refine g_ldc2 (v := 57) C dX11_next_121 hK_X11_125 ?_
        obtain ⟨r15, σ16, h17, hf⟩ := obp_e hf
        refine g_callSi (As := [.long r7.toInt64, .long 48, .long 57]) (rest := []) C (c_X11_in l dC dI ad cy r7.toInt64 ((48 : Int64)) ((57 : Int64))) h17 hM_X11_92 cal_X11_in ⟨Nat.zero_le _, Nat.zero_le _⟩ ⟨rfl, rfl⟩ ⟨Nat.le_of_ble_eq_true rfl, Nat.le_of_ble_eq_true rfl⟩ rfl rfl (Nat.le_of_ble_eq_true rfl) dX11_next_124 ?_
        rcases oi_e hf with ⟨c18, hf⟩ | ⟨c18, hf⟩
        · refine g_if_eq_t (tgt := 243) C dX11_next_127 (by decide) c18 ?_
          refine g_aload_n C dX11_next_243 rfl 0 rfl ?_
          refine g_iconst (v := 3) C dX11_next_244 (by decide) ?_
          obtain ⟨σ19, eσ19, hf⟩ := ol_e hf
          refine g_put (ty := .int) C (a_98 ad cy _) rfl hin_X11 tyX11 tyX11_ok nmX11 20 (by decide) hF_X11_116 rfl rfl (by decide +kernel) rfl rfl (Nat.le_of_ble_eq_true rfl) (p_98_20 ad cy _ _) eσ19 dX11_next_245 ?_
          refine g_aload_n C dX11_next_248 rfl 0 rfl ?_
          refine g_iload_n C dX11_next_249 rfl 1 rfl ?_
          refine g_bipush (v := 59) C dX11_next_250 (by decide) ?_
          rcases oi_e hf with ⟨c20, hf⟩ | ⟨c20, hf⟩
          · refine g_icmp_ne_t (tgt := 259) C dX11_next_252 (by decide) c20 ?_
            refine g_iconst (v := 0) C dX11_next_259 (by decide) ?_
            exact g_sub [0] rfl (fX11_next_b260_ok C σ19 0 hf)
          · refine g_icmp_ne_f (tgt := 259) C dX11_next_252 (by decide) (Decidable.of_not_not c20) ?_
            refine g_iconst (v := 1) C dX11_next_255 (by decide) ?_
            refine g_goto (tgt := 260) C dX11_next_256 (by decide) ?_
            exact g_sub [0] rfl (fX11_next_b260_ok C σ19 1 hf)
        · refine g_if_eq_f (tgt := 243) C dX11_next_127 (by decide) c18 ?_
          refine g_aload_n C dX11_next_130 rfl 0 rfl ?_
          refine g_iconst (v := 2) C dX11_next_131 (by decide) ?_
          obtain ⟨σ21, eσ21, hf⟩ := ol_e hf
          refine g_put (ty := .int) C (a_98 ad cy _) rfl hin_X11 tyX11 tyX11_ok nmX11 20 (by decide) hF_X11_116 rfl rfl (by decide +kernel) rfl rfl (Nat.le_of_ble_eq_true rfl) (p_98_20 ad cy _ _) eσ21 dX11_next_132 ?_
          refine g_aload_n C dX11_next_135 rfl 0 rfl ?_
          refine g_iconst (v := 0) C dX11_next_136 (by decide) ?_
          obtain ⟨σ22, eσ22, hf⟩ := ol_e hf
          refine g_put (ty := .int) C (a_98 ad cy _) rfl hin_X11 tyX11 tyX11_ok nmX11 21 (by decide) hF_X11_127 rfl rfl (by decide +kernel) rfl rfl (Nat.le_of_ble_eq_true rfl) (p_98_21 ad cy _ _) eσ22 dX11_next_137 ?_
          exact g_sub [0] rfl (fX11_next_h140_ok C 400 σ22 hf)
      · refine g_if_eq_f (tgt := 116) C dX11_next_74 (by decide) c14 ?_
        refine g_aload_n C dX11_next_77 rfl 0 rfl ?_
        refine g_iconst (v := 1) C dX11_next_78 (by decide) ?_
        obtain ⟨σ23, eσ23, hf⟩ := ol_e hf
        refine g_put (ty := .int) C (a_98 ad cy _) rfl hin_X11 tyX11 tyX11_ok nmX11 20 (by decide) hF_X11_116 rfl rfl (by decide +kernel) rfl rfl (Nat.le_of_ble_eq_true rfl) (p_98_20 ad cy _ _) eσ23 dX11_next_79 ?_
        exact g_sub [0] rfl (fX11_next_h82_ok C 400 σ23 hf)
    · refine g_if_ge_f (tgt := 63) C dX11_next_52 (by decide) c10 ?_
      refine g_aload_n C dX11_next_55 rfl 0 rfl ?_
      refine g_iconst (v := 0) C dX11_next_56 (by decide) ?_
      obtain ⟨σ24, eσ24, hf⟩ := ol_e hf
      refine g_put (ty := .int) C (a_98 ad cy _) rfl hin_X11 tyX11 tyX11_ok nmX11 20 (by decide) hF_X11_116 rfl rfl (by decide +kernel) rfl rfl (Nat.le_of_ble_eq_true rfl) (p_98_20 ad cy _ _) eσ24 dX11_next_57 ?_
      refine g_goto (tgt := 274) C dX11_next_60 (by decide) ?_
      obtain ⟨rfl, rfl⟩ := os_e hf
      exact g_vret C rfl dX11_next_274
  · refine g_icmp_ne_f (tgt := 34) C dX11_next_18 (by decide) (Decidable.of_not_not c4) ?_
    refine g_aload_n C dX11_next_21 rfl 0 rfl ?_
    refine g_dup C dX11_next_22 rfl ?_
    refine g_get C (a_98 ad cy _) rfl hin_X11 18 (by decide) hF_X11_105 rfl rfl dX11_next_23 ?_
    refine g_iconst (v := 1) C dX11_next_26 (by decide) ?_
    refine g_iadd C dX11_next_27 ?_
    obtain ⟨v25, ev25, hf⟩ := ol_e hf
    refine g_nm ev25 ?_
    obtain ⟨σ26, eσ26, hf⟩ := ol_e hf
    refine g_put (ty := .int) C (a_98 ad cy _) rfl hin_X11 tyX11 tyX11_ok nmX11 18 (by decide) hF_X11_105 rfl rfl (by decide +kernel) rfl rfl (Nat.le_of_ble_eq_true rfl) (p_98_18 ad cy _ _) eσ26 dX11_next_28 ?_
    refine g_goto (tgt := 8) C dX11_next_31 (by decide) ?_
    exact g_sub [0] rfl (hs_8 σ26 hf)
def fX11_next_h8  : Nat → S0 → Option (Int32 × S0)
  | 0 => fun _ => none
  | n + 1 => fun σ => fX11_next_b8  (fX11_next_h8  n) σ
set_option maxHeartbeats 1000000 in
set_option maxRecDepth 100000 in
theorem fX11_next_h8_ok {p : Program} {l : Launch} {e : Env} {s : State} {m : MethodId} {args : Array Value} {below : List Frame} {meth : Method} {c : Code} {dC : Nat → ClassId} {dI : Nat → Nat → Nat} {ad : Nat → Nat} {cy : Nat → ClassId} {sz : Nat} (C : Cx p s m args meth c RX11 cX11_next 2 none dC dI ad cy sz) {rr : Int32} {ρ : S0}  : ∀ (n : Nat) (σ : S0)   (_hf : fX11_next_h8  n σ = some (rr, ρ)), Gw p l e rm_X11_next s m args below meth c (MQ below (QcV dC dI ad cy sz ρ) args s 0 0 (AW ad sz)) dC dI ad cy 2 sz 0 0 8 [(0, .ref (ad 98))] [] σ
  | 0, _, hf => by cases hf
  | n + 1, σ, hf => fX11_next_b8_ok C  (fX11_next_h8  n) (fX11_next_h8_ok C  n) σ hf
def fX11_next (σ : S0)  : Option (Int32 × S0) := if (σ 98 22) ≤ 0 then (fX11_next_h8 400 σ) else (some (0, σ))
set_option maxHeartbeats 1000000 in
set_option maxRecDepth 100000 in
theorem fX11_next_ok {p : Program} {l : Launch} {e : Env} {s : State} {m : MethodId} {args : Array Value} {below : List Frame} {meth : Method} {c : Code} {dC : Nat → ClassId} {dI : Nat → Nat → Nat} {ad : Nat → Nat} {cy : Nat → ClassId} {sz : Nat} (C : Cx p s m args meth c RX11 cX11_next 2 none dC dI ad cy sz) {rr : Int32} {ρ : S0} (σ : S0)   (hf : fX11_next σ = some (rr, ρ)) : Gw p l e rm_X11_next s m args below meth c (MQ below (QcV dC dI ad cy sz ρ) args s 0 0 (AW ad sz)) dC dI ad cy 2 sz 0 0 0 [(0, .ref (ad 98))] [] σ := by
  unfold fX11_next at hf
  refine g_aload_n C dX11_next_0 rfl 0 rfl ?_
  refine g_get C (a_98 ad cy _) rfl hin_X11 22 (by decide) hF_X11_96 rfl rfl dX11_next_1 ?_
  rcases oi_e hf with ⟨c1, hf⟩ | ⟨c1, hf⟩
  · refine g_if_le_t (tgt := 8) C dX11_next_4 (by decide) c1 ?_
    exact g_sub [0] rfl (fX11_next_h8_ok C 400 σ hf)
  · refine g_if_le_f (tgt := 8) C dX11_next_4 (by decide) c1 ?_
    obtain ⟨rfl, rfl⟩ := os_e hf
    exact g_vret C rfl dX11_next_7
theorem c_X11_next (l : Launch) (dC : Nat → ClassId) (dI : Nat → Nat → Nat) (ad : Nat → Nat) (cy : Nat → ClassId)  : ConV l yX11_next cX11_next 2 none rm_X11_next dC dI ad cy [.ref (ad 98)] (fun σ => fX11_next σ) := con_v (own := RX11) (by decide) rfl (Nat.le_of_ble_eq_true rfl) (fun _ _ _ _ _ _ _ _ σ _ _ C hf => fX11_next_ok C σ  hf)
theorem cal_X11_next : CalV yX11_next RX11 cX11_next 2 none 0 := ⟨hI_X11_next, hS_X11_next, hIni_X11, hC_X11_next, by decide +kernel⟩
abbrev rm_X11_looked : Room := { frames := 1, cells := 0, slots := 0, locals := 25 }
def fX11_looked_b49  (σ : S0)  : Option (Int32 × S0) := if ¬ (σ 98 22) = 0 then (some (0, σ)) else (some (σ 98 21, σ))
set_option maxHeartbeats 1000000 in
set_option maxRecDepth 100000 in
theorem fX11_looked_b49_ok {p : Program} {l : Launch} {e : Env} {s : State} {m : MethodId} {args : Array Value} {below : List Frame} {meth : Method} {c : Code} {dC : Nat → ClassId} {dI : Nat → Nat → Nat} {ad : Nat → Nat} {cy : Nat → ClassId} {sz : Nat} (C : Cx p s m args meth c RX11 cX11_looked 3 (some .int) dC dI ad cy sz) {rr : Int32} {ρ : S0}  (σ : S0)   (hf : fX11_looked_b49 σ = some (rr, ρ)) : Gw p l e rm_X11_looked s m args below meth c (MQ below (QcI dC dI ad cy sz rr ρ) args s 0 0 (AW ad sz)) dC dI ad cy 3 sz 0 0 49 [(0, .ref (ad 98))] [] σ := by
  unfold fX11_looked_b49 at hf
  refine g_aload_n C dX11_looked_49 rfl 0 rfl ?_
  refine g_get C (a_98 ad cy _) rfl hin_X11 22 (by decide) hF_X11_96 rfl rfl dX11_looked_50 ?_
  rcases oi_e hf with ⟨c1, hf⟩ | ⟨c1, hf⟩
  · refine g_if_ne_t (tgt := 63) C dX11_looked_53 (by decide) c1 ?_
    refine g_iconst (v := 0) C dX11_looked_63 (by decide) ?_
    obtain ⟨rfl, rfl⟩ := os_e hf
    exact g_iret C rfl dX11_looked_64
  · refine g_if_ne_f (tgt := 63) C dX11_looked_53 (by decide) (Decidable.of_not_not c1) ?_
    refine g_aload_n C dX11_looked_56 rfl 0 rfl ?_
    refine g_get C (a_98 ad cy _) rfl hin_X11 21 (by decide) hF_X11_127 rfl rfl dX11_looked_57 ?_
    refine g_goto (tgt := 64) C dX11_looked_60 (by decide) ?_
    obtain ⟨rfl, rfl⟩ := os_e hf
    exact g_iret C rfl dX11_looked_64
def fX11_looked_b25  (σ : S0) (x1 : Int32) (x2 : Int32) : Option (Int32 × S0) := if ¬ (σ 98 22) = 0 then (fX11_looked_b49 σ) else (obp (fX11_in σ ((σ 98 21).toInt64) x1.toInt64 x2.toInt64) (fun r2 σ3 => obp (fX11_needs σ3 r2 ((3 : Int32))) (fun r5 σ6 => fX11_looked_b49 σ6)))
set_option maxHeartbeats 1000000 in
set_option maxRecDepth 100000 in
theorem fX11_looked_b25_ok {p : Program} {l : Launch} {e : Env} {s : State} {m : MethodId} {args : Array Value} {below : List Frame} {meth : Method} {c : Code} {dC : Nat → ClassId} {dI : Nat → Nat → Nat} {ad : Nat → Nat} {cy : Nat → ClassId} {sz : Nat} (C : Cx p s m args meth c RX11 cX11_looked 3 (some .int) dC dI ad cy sz) {rr : Int32} {ρ : S0}  (σ : S0) (x1 : Int32) (x2 : Int32)  (hf : fX11_looked_b25 σ x1 x2 = some (rr, ρ)) : Gw p l e rm_X11_looked s m args below meth c (MQ below (QcI dC dI ad cy sz rr ρ) args s 0 0 (AW ad sz)) dC dI ad cy 3 sz 0 0 25 [(0, .ref (ad 98)), (1, .int x1), (2, .int x2)] [] σ := by
  unfold fX11_looked_b25 at hf
  refine g_aload_n C dX11_looked_25 rfl 0 rfl ?_
  refine g_get C (a_98 ad cy _) rfl hin_X11 22 (by decide) hF_X11_96 rfl rfl dX11_looked_26 ?_
  rcases oi_e hf with ⟨c1, hf⟩ | ⟨c1, hf⟩
  · refine g_if_ne_t (tgt := 49) C dX11_looked_29 (by decide) c1 ?_
    exact g_sub [0] rfl (fX11_looked_b49_ok C σ hf)
  · refine g_if_ne_f (tgt := 49) C dX11_looked_29 (by decide) (Decidable.of_not_not c1) ?_
    refine g_aload_n C dX11_looked_32 rfl 0 rfl ?_
    refine g_aload_n C dX11_looked_33 rfl 0 rfl ?_
    refine g_get C (a_98 ad cy _) rfl hin_X11 21 (by decide) hF_X11_127 rfl rfl dX11_looked_34 ?_
    refine g_i2l C dX11_looked_37 ?_
    refine g_iload_n C dX11_looked_38 rfl 1 rfl ?_
    refine g_i2l C dX11_looked_39 ?_
    refine g_iload_n C dX11_looked_40 rfl 2 rfl ?_
    refine g_i2l C dX11_looked_41 ?_
    obtain ⟨r2, σ3, h4, hf⟩ := obp_e hf
    refine g_callSi (As := [.long ((σ 98 21).toInt64), .long x1.toInt64, .long x2.toInt64]) (rest := [.ref (ad 98)]) C (c_X11_in l dC dI ad cy ((σ 98 21).toInt64) x1.toInt64 x2.toInt64) h4 hM_X11_92 cal_X11_in ⟨Nat.zero_le _, Nat.zero_le _⟩ ⟨rfl, rfl⟩ ⟨Nat.le_of_ble_eq_true rfl, Nat.le_of_ble_eq_true rfl⟩ rfl rfl (Nat.le_of_ble_eq_true rfl) dX11_looked_42 ?_
    refine g_iconst (v := 3) C dX11_looked_45 (by decide) ?_
    obtain ⟨r5, σ6, h7, hf⟩ := obp_e hf
    refine g_callVv (As := [.int r2, .int 3]) (rest := []) C (a_98 ad cy _) rfl (c_X11_needs l dC dI ad cy r2 ((3 : Int32))) h7 hM_X11_130 cal_X11_needs ⟨Nat.zero_le _, Nat.zero_le _⟩ ⟨rfl, rfl⟩ ⟨Nat.le_of_ble_eq_true rfl, Nat.le_of_ble_eq_true rfl⟩ rfl rfl (Nat.le_of_ble_eq_true rfl) dX11_looked_46 ?_
    exact g_sub [0] rfl (fX11_looked_b49_ok C σ6 hf)
def fX11_looked_b21  (σ : S0) (x1 : Int32) (x2 : Int32) (t0 : Int32) : Option (Int32 × S0) := obp (fX11_needs σ t0 ((2 : Int32))) (fun r1 σ2 => fX11_looked_b25 σ2 x1 x2)
set_option maxHeartbeats 1000000 in
set_option maxRecDepth 100000 in
theorem fX11_looked_b21_ok {p : Program} {l : Launch} {e : Env} {s : State} {m : MethodId} {args : Array Value} {below : List Frame} {meth : Method} {c : Code} {dC : Nat → ClassId} {dI : Nat → Nat → Nat} {ad : Nat → Nat} {cy : Nat → ClassId} {sz : Nat} (C : Cx p s m args meth c RX11 cX11_looked 3 (some .int) dC dI ad cy sz) {rr : Int32} {ρ : S0}  (σ : S0) (x1 : Int32) (x2 : Int32) (t0 : Int32)  (hf : fX11_looked_b21 σ x1 x2 t0 = some (rr, ρ)) : Gw p l e rm_X11_looked s m args below meth c (MQ below (QcI dC dI ad cy sz rr ρ) args s 0 0 (AW ad sz)) dC dI ad cy 3 sz 0 0 21 [(0, .ref (ad 98)), (1, .int x1), (2, .int x2)] [.int t0, .ref (ad 98)] σ := by
  unfold fX11_looked_b21 at hf
  refine g_iconst (v := 2) C dX11_looked_21 (by decide) ?_
  obtain ⟨r1, σ2, h3, hf⟩ := obp_e hf
  refine g_callVv (As := [.int t0, .int 2]) (rest := []) C (a_98 ad cy _) rfl (c_X11_needs l dC dI ad cy t0 ((2 : Int32))) h3 hM_X11_130 cal_X11_needs ⟨Nat.zero_le _, Nat.zero_le _⟩ ⟨rfl, rfl⟩ ⟨Nat.le_of_ble_eq_true rfl, Nat.le_of_ble_eq_true rfl⟩ rfl rfl (Nat.le_of_ble_eq_true rfl) dX11_looked_22 ?_
  exact g_sub [0, 1, 2] rfl (fX11_looked_b25_ok C σ2 x1 x2 hf)
def fX11_looked (σ : S0) (x1 : Int32) (x2 : Int32) : Option (Int32 × S0) := if ¬ (σ 98 22) = 0 then (fX11_looked_b25 σ x1 x2) else (if ¬ (σ 98 20) = 2 then (fX11_looked_b21 σ x1 x2 0) else (fX11_looked_b21 σ x1 x2 1))
set_option maxHeartbeats 1000000 in
set_option maxRecDepth 100000 in
theorem fX11_looked_ok {p : Program} {l : Launch} {e : Env} {s : State} {m : MethodId} {args : Array Value} {below : List Frame} {meth : Method} {c : Code} {dC : Nat → ClassId} {dI : Nat → Nat → Nat} {ad : Nat → Nat} {cy : Nat → ClassId} {sz : Nat} (C : Cx p s m args meth c RX11 cX11_looked 3 (some .int) dC dI ad cy sz) {rr : Int32} {ρ : S0} (σ : S0) (x1 : Int32) (x2 : Int32)  (hf : fX11_looked σ x1 x2 = some (rr, ρ)) : Gw p l e rm_X11_looked s m args below meth c (MQ below (QcI dC dI ad cy sz rr ρ) args s 0 0 (AW ad sz)) dC dI ad cy 3 sz 0 0 0 [(0, .ref (ad 98)), (1, .int x1), (2, .int x2)] [] σ := by
  unfold fX11_looked at hf
  refine g_aload_n C dX11_looked_0 rfl 0 rfl ?_
  refine g_get C (a_98 ad cy _) rfl hin_X11 22 (by decide) hF_X11_96 rfl rfl dX11_looked_1 ?_
  rcases oi_e hf with ⟨c1, hf⟩ | ⟨c1, hf⟩
  · refine g_if_ne_t (tgt := 25) C dX11_looked_4 (by decide) c1 ?_
    exact g_sub [0, 1, 2] rfl (fX11_looked_b25_ok C σ x1 x2 hf)
  · refine g_if_ne_f (tgt := 25) C dX11_looked_4 (by decide) (Decidable.of_not_not c1) ?_
    refine g_aload_n C dX11_looked_7 rfl 0 rfl ?_
    refine g_aload_n C dX11_looked_8 rfl 0 rfl ?_
    refine g_get C (a_98 ad cy _) rfl hin_X11 20 (by decide) hF_X11_116 rfl rfl dX11_looked_9 ?_
    refine g_iconst (v := 2) C dX11_looked_12 (by decide) ?_
    rcases oi_e hf with ⟨c2, hf⟩ | ⟨c2, hf⟩
    · refine g_icmp_ne_t (tgt := 20) C dX11_looked_13 (by decide) c2 ?_
      refine g_iconst (v := 0) C dX11_looked_20 (by decide) ?_
      exact g_sub [0, 1, 2] rfl (fX11_looked_b21_ok C σ x1 x2 0 hf)
    · refine g_icmp_ne_f (tgt := 20) C dX11_looked_13 (by decide) (Decidable.of_not_not c2) ?_
      refine g_iconst (v := 1) C dX11_looked_16 (by decide) ?_
      refine g_goto (tgt := 21) C dX11_looked_17 (by decide) ?_
      exact g_sub [0, 1, 2] rfl (fX11_looked_b21_ok C σ x1 x2 1 hf)
theorem c_X11_looked (l : Launch) (dC : Nat → ClassId) (dI : Nat → Nat → Nat) (ad : Nat → Nat) (cy : Nat → ClassId) (x1 : Int32) (x2 : Int32) : ConI l yX11_looked cX11_looked 3 (some .int) rm_X11_looked dC dI ad cy [.ref (ad 98), .int x1, .int x2] (fun σ => fX11_looked σ x1 x2) := con_i (own := RX11) (by decide) rfl (Nat.le_of_ble_eq_true rfl) (fun _ _ _ _ _ _ _ _ σ _ _ C hf => fX11_looked_ok C σ x1 x2 hf)
theorem cal_X11_looked : CalV yX11_looked RX11 cX11_looked 3 (some .int) 2 := ⟨hI_X11_looked, hS_X11_looked, hIni_X11, hC_X11_looked, by decide +kernel⟩
end
section
abbrev rm_X11_readNumber : Room := { frames := 2, cells := 0, slots := 0, locals := 47 }
def fX11_readNumber (σ : S0) (x1 : Int32) (x2 : Int32) : Option (Int32 × S0) := obp (fX11_looked σ x1 x2) (fun r1 σ2 => obp (fX11_next σ2) (fun r4 σ5 => some (r1, σ5)))
set_option maxHeartbeats 1000000 in
set_option maxRecDepth 100000 in
theorem fX11_readNumber_ok {p : Program} {l : Launch} {e : Env} {s : State} {m : MethodId} {args : Array Value} {below : List Frame} {meth : Method} {c : Code} {dC : Nat → ClassId} {dI : Nat → Nat → Nat} {ad : Nat → Nat} {cy : Nat → ClassId} {sz : Nat} (C : Cx p s m args meth c RX11 cX11_readNumber 4 (some .int) dC dI ad cy sz) {rr : Int32} {ρ : S0} (σ : S0) (x1 : Int32) (x2 : Int32)  (hf : fX11_readNumber σ x1 x2 = some (rr, ρ)) : Gw p l e rm_X11_readNumber s m args below meth c (MQ below (QcI dC dI ad cy sz rr ρ) args s 0 0 (AW ad sz)) dC dI ad cy 4 sz 0 0 0 [(0, .ref (ad 98)), (1, .int x1), (2, .int x2)] [] σ := by
  unfold fX11_readNumber at hf
  refine g_aload_n C dX11_readNumber_0 rfl 0 rfl ?_
  refine g_iload_n C dX11_readNumber_1 rfl 1 rfl ?_
  refine g_iload_n C dX11_readNumber_2 rfl 2 rfl ?_
  obtain ⟨r1, σ2, h3, hf⟩ := obp_e hf
  refine g_callVi (As := [.int x1, .int x2]) (rest := []) C (a_98 ad cy _) rfl (c_X11_looked l dC dI ad cy x1 x2) h3 hM_X11_134 cal_X11_looked ⟨Nat.zero_le _, Nat.zero_le _⟩ ⟨rfl, rfl⟩ ⟨Nat.le_of_ble_eq_true rfl, Nat.le_of_ble_eq_true rfl⟩ rfl rfl (Nat.le_of_ble_eq_true rfl) dX11_readNumber_3 ?_
  refine g_istore_n (lv2 := [(0, .ref (ad 98)), (1, .int x1), (2, .int x2), (3, .int r1)]) C dX11_readNumber_6 rfl (by decide) [1, 2, 3, 0] rfl ?_
  refine g_aload_n C dX11_readNumber_7 rfl 0 rfl ?_
  obtain ⟨r4, σ5, h6, hf⟩ := obp_e hf
  refine g_callVv (As := []) (rest := []) C (a_98 ad cy _) rfl (c_X11_next l dC dI ad cy ) h6 hM_X11_138 cal_X11_next ⟨Nat.zero_le _, Nat.zero_le _⟩ ⟨rfl, rfl⟩ ⟨Nat.le_of_ble_eq_true rfl, Nat.le_of_ble_eq_true rfl⟩ rfl rfl (Nat.le_of_ble_eq_true rfl) dX11_readNumber_8 ?_
  refine g_iload_n C dX11_readNumber_11 rfl 3 rfl ?_
  obtain ⟨rfl, rfl⟩ := os_e hf
  exact g_iret C rfl dX11_readNumber_12
theorem c_X11_readNumber (l : Launch) (dC : Nat → ClassId) (dI : Nat → Nat → Nat) (ad : Nat → Nat) (cy : Nat → ClassId) (x1 : Int32) (x2 : Int32) : ConI l yX11_readNumber cX11_readNumber 4 (some .int) rm_X11_readNumber dC dI ad cy [.ref (ad 98), .int x1, .int x2] (fun σ => fX11_readNumber σ x1 x2) := con_i (own := RX11) (by decide) rfl (Nat.le_of_ble_eq_true rfl) (fun _ _ _ _ _ _ _ _ σ _ _ C hf => fX11_readNumber_ok C σ x1 x2 hf)
theorem cal_X11_readNumber : CalV yX11_readNumber RX11 cX11_readNumber 4 (some .int) 2 := ⟨hI_X11_readNumber, hS_X11_readNumber, hIni_X11, hC_X11_readNumber, by decide +kernel⟩
abbrev rm_X11_readHouse : Room := { frames := 2, cells := 0, slots := 0, locals := 47 }
def fX11_readHouse_b46  (σ : S0) (x2 : Int32) (t0 : Int32) : Option (Int32 × S0) := ol (su σ 98 13 t0) (fun σ1 => obp (fX11_next σ1) (fun r2 σ3 => some (x2, σ3)))
set_option maxHeartbeats 1000000 in
set_option maxRecDepth 100000 in
theorem fX11_readHouse_b46_ok {p : Program} {l : Launch} {e : Env} {s : State} {m : MethodId} {args : Array Value} {below : List Frame} {meth : Method} {c : Code} {dC : Nat → ClassId} {dI : Nat → Nat → Nat} {ad : Nat → Nat} {cy : Nat → ClassId} {sz : Nat} (C : Cx p s m args meth c RX11 cX11_readHouse 3 (some .int) dC dI ad cy sz) {rr : Int32} {ρ : S0}  (σ : S0) (x2 : Int32) (t0 : Int32)  (hf : fX11_readHouse_b46 σ x2 t0 = some (rr, ρ)) : Gw p l e rm_X11_readHouse s m args below meth c (MQ below (QcI dC dI ad cy sz rr ρ) args s 0 0 (AW ad sz)) dC dI ad cy 3 sz 0 0 46 [(0, .ref (ad 98)), (2, .int x2)] [.int t0, .ref (ad 98)] σ := by
  unfold fX11_readHouse_b46 at hf
  obtain ⟨σ1, eσ1, hf⟩ := ol_e hf
  refine g_put (ty := .int) C (a_98 ad cy _) rfl hin_X11 tyX11 tyX11_ok nmX11 13 (by decide) hF_X11_66 rfl rfl (by decide +kernel) rfl rfl (Nat.le_of_ble_eq_true rfl) (p_98_13 ad cy _ _) eσ1 dX11_readHouse_46 ?_
  refine g_aload_n C dX11_readHouse_49 rfl 0 rfl ?_
  obtain ⟨r2, σ3, h4, hf⟩ := obp_e hf
  refine g_callVv (As := []) (rest := []) C (a_98 ad cy _) rfl (c_X11_next l dC dI ad cy ) h4 hM_X11_138 cal_X11_next ⟨Nat.zero_le _, Nat.zero_le _⟩ ⟨rfl, rfl⟩ ⟨Nat.le_of_ble_eq_true rfl, Nat.le_of_ble_eq_true rfl⟩ rfl rfl (Nat.le_of_ble_eq_true rfl) dX11_readHouse_50 ?_
  refine g_iload_n C dX11_readHouse_53 rfl 1 rfl ?_
  obtain ⟨rfl, rfl⟩ := os_e hf
  exact g_iret C rfl dX11_readHouse_54
def fX11_readHouse_b29  (σ : S0) (x2 : Int32) : Option (Int32 × S0) := if x2 ≤ (σ 98 13) then (fX11_readHouse_b46 σ x2 (σ 98 13)) else (fX11_readHouse_b46 σ x2 x2)
set_option maxHeartbeats 1000000 in
set_option maxRecDepth 100000 in
theorem fX11_readHouse_b29_ok {p : Program} {l : Launch} {e : Env} {s : State} {m : MethodId} {args : Array Value} {below : List Frame} {meth : Method} {c : Code} {dC : Nat → ClassId} {dI : Nat → Nat → Nat} {ad : Nat → Nat} {cy : Nat → ClassId} {sz : Nat} (C : Cx p s m args meth c RX11 cX11_readHouse 3 (some .int) dC dI ad cy sz) {rr : Int32} {ρ : S0}  (σ : S0) (x2 : Int32)  (hf : fX11_readHouse_b29 σ x2 = some (rr, ρ)) : Gw p l e rm_X11_readHouse s m args below meth c (MQ below (QcI dC dI ad cy sz rr ρ) args s 0 0 (AW ad sz)) dC dI ad cy 3 sz 0 0 29 [(0, .ref (ad 98)), (2, .int x2)] [] σ := by
  unfold fX11_readHouse_b29 at hf
  refine g_aload_n C dX11_readHouse_29 rfl 0 rfl ?_
  refine g_iload_n C dX11_readHouse_30 rfl 1 rfl ?_
  refine g_aload_n C dX11_readHouse_31 rfl 0 rfl ?_
  refine g_get C (a_98 ad cy _) rfl hin_X11 13 (by decide) hF_X11_66 rfl rfl dX11_readHouse_32 ?_
  rcases oi_e hf with ⟨c1, hf⟩ | ⟨c1, hf⟩
  · refine g_icmp_le_t (tgt := 42) C dX11_readHouse_35 (by decide) c1 ?_
    refine g_aload_n C dX11_readHouse_42 rfl 0 rfl ?_
    refine g_get C (a_98 ad cy _) rfl hin_X11 13 (by decide) hF_X11_66 rfl rfl dX11_readHouse_43 ?_
    exact g_sub [0, 1] rfl (fX11_readHouse_b46_ok C σ x2 (σ 98 13) hf)
  · refine g_icmp_le_f (tgt := 42) C dX11_readHouse_35 (by decide) c1 ?_
    refine g_iload_n C dX11_readHouse_38 rfl 1 rfl ?_
    refine g_goto (tgt := 46) C dX11_readHouse_39 (by decide) ?_
    exact g_sub [0, 1] rfl (fX11_readHouse_b46_ok C σ x2 x2 hf)
def fX11_readHouse_b25  (σ : S0) (x2 : Int32) (t0 : Int32) : Option (Int32 × S0) := obp (fX11_needs σ t0 ((4 : Int32))) (fun r1 σ2 => fX11_readHouse_b29 σ2 x2)
set_option maxHeartbeats 1000000 in
set_option maxRecDepth 100000 in
theorem fX11_readHouse_b25_ok {p : Program} {l : Launch} {e : Env} {s : State} {m : MethodId} {args : Array Value} {below : List Frame} {meth : Method} {c : Code} {dC : Nat → ClassId} {dI : Nat → Nat → Nat} {ad : Nat → Nat} {cy : Nat → ClassId} {sz : Nat} (C : Cx p s m args meth c RX11 cX11_readHouse 3 (some .int) dC dI ad cy sz) {rr : Int32} {ρ : S0}  (σ : S0) (x2 : Int32) (t0 : Int32)  (hf : fX11_readHouse_b25 σ x2 t0 = some (rr, ρ)) : Gw p l e rm_X11_readHouse s m args below meth c (MQ below (QcI dC dI ad cy sz rr ρ) args s 0 0 (AW ad sz)) dC dI ad cy 3 sz 0 0 25 [(0, .ref (ad 98)), (2, .int x2)] [.int t0, .ref (ad 98)] σ := by
  unfold fX11_readHouse_b25 at hf
  refine g_iconst (v := 4) C dX11_readHouse_25 (by decide) ?_
  obtain ⟨r1, σ2, h3, hf⟩ := obp_e hf
  refine g_callVv (As := [.int t0, .int 4]) (rest := []) C (a_98 ad cy _) rfl (c_X11_needs l dC dI ad cy t0 ((4 : Int32))) h3 hM_X11_130 cal_X11_needs ⟨Nat.zero_le _, Nat.zero_le _⟩ ⟨rfl, rfl⟩ ⟨Nat.le_of_ble_eq_true rfl, Nat.le_of_ble_eq_true rfl⟩ rfl rfl (Nat.le_of_ble_eq_true rfl) dX11_readHouse_26 ?_
  exact g_sub [0, 1] rfl (fX11_readHouse_b29_ok C σ2 x2 hf)
def fX11_readHouse (σ : S0) (x1 : Int32) : Option (Int32 × S0) := obp (fX11_looked σ ((0 : Int32)) ((5 : Int32))) (fun r1 σ2 => if ¬ (σ2 98 22) = 0 then (fX11_readHouse_b29 σ2 r1) else (if r1 = x1 then (fX11_readHouse_b25 σ2 r1 0) else (fX11_readHouse_b25 σ2 r1 1)))
set_option maxHeartbeats 1000000 in
set_option maxRecDepth 100000 in
theorem fX11_readHouse_ok {p : Program} {l : Launch} {e : Env} {s : State} {m : MethodId} {args : Array Value} {below : List Frame} {meth : Method} {c : Code} {dC : Nat → ClassId} {dI : Nat → Nat → Nat} {ad : Nat → Nat} {cy : Nat → ClassId} {sz : Nat} (C : Cx p s m args meth c RX11 cX11_readHouse 3 (some .int) dC dI ad cy sz) {rr : Int32} {ρ : S0} (σ : S0) (x1 : Int32)  (hf : fX11_readHouse σ x1 = some (rr, ρ)) : Gw p l e rm_X11_readHouse s m args below meth c (MQ below (QcI dC dI ad cy sz rr ρ) args s 0 0 (AW ad sz)) dC dI ad cy 3 sz 0 0 0 [(0, .ref (ad 98)), (1, .int x1)] [] σ := by
  unfold fX11_readHouse at hf
  refine g_aload_n C dX11_readHouse_0 rfl 0 rfl ?_
  refine g_iconst (v := 0) C dX11_readHouse_1 (by decide) ?_
  refine g_iconst (v := 5) C dX11_readHouse_2 (by decide) ?_
  obtain ⟨r1, σ2, h3, hf⟩ := obp_e hf
  refine g_callVi (As := [.int 0, .int 5]) (rest := []) C (a_98 ad cy _) rfl (c_X11_looked l dC dI ad cy ((0 : Int32)) ((5 : Int32))) h3 hM_X11_134 cal_X11_looked ⟨Nat.zero_le _, Nat.zero_le _⟩ ⟨rfl, rfl⟩ ⟨Nat.le_of_ble_eq_true rfl, Nat.le_of_ble_eq_true rfl⟩ rfl rfl (Nat.le_of_ble_eq_true rfl) dX11_readHouse_3 ?_
  refine g_istore_n (lv2 := [(0, .ref (ad 98)), (1, .int x1), (2, .int r1)]) C dX11_readHouse_6 rfl (by decide) [1, 2, 0] rfl ?_
  refine g_aload_n C dX11_readHouse_7 rfl 0 rfl ?_
  refine g_get C (a_98 ad cy _) rfl hin_X11 22 (by decide) hF_X11_96 rfl rfl dX11_readHouse_8 ?_
  rcases oi_e hf with ⟨c4, hf⟩ | ⟨c4, hf⟩
  · refine g_if_ne_t (tgt := 29) C dX11_readHouse_11 (by decide) c4 ?_
    exact g_sub [0, 2] rfl (fX11_readHouse_b29_ok C σ2 r1 hf)
  · refine g_if_ne_f (tgt := 29) C dX11_readHouse_11 (by decide) (Decidable.of_not_not c4) ?_
    refine g_aload_n C dX11_readHouse_14 rfl 0 rfl ?_
    refine g_iload_n C dX11_readHouse_15 rfl 2 rfl ?_
    refine g_iload_n C dX11_readHouse_16 rfl 1 rfl ?_
    rcases oi_e hf with ⟨c5, hf⟩ | ⟨c5, hf⟩
    · refine g_icmp_eq_t (tgt := 24) C dX11_readHouse_17 (by decide) c5 ?_
      refine g_iconst (v := 0) C dX11_readHouse_24 (by decide) ?_
      exact g_sub [0, 2] rfl (fX11_readHouse_b25_ok C σ2 r1 0 hf)
    · refine g_icmp_eq_f (tgt := 24) C dX11_readHouse_17 (by decide) c5 ?_
      refine g_iconst (v := 1) C dX11_readHouse_20 (by decide) ?_
      refine g_goto (tgt := 25) C dX11_readHouse_21 (by decide) ?_
      exact g_sub [0, 2] rfl (fX11_readHouse_b25_ok C σ2 r1 1 hf)
theorem c_X11_readHouse (l : Launch) (dC : Nat → ClassId) (dI : Nat → Nat → Nat) (ad : Nat → Nat) (cy : Nat → ClassId) (x1 : Int32) : ConI l yX11_readHouse cX11_readHouse 3 (some .int) rm_X11_readHouse dC dI ad cy [.ref (ad 98), .int x1] (fun σ => fX11_readHouse σ x1) := con_i (own := RX11) (by decide) rfl (Nat.le_of_ble_eq_true rfl) (fun _ _ _ _ _ _ _ _ σ _ _ C hf => fX11_readHouse_ok C σ x1 hf)
theorem cal_X11_readHouse : CalV yX11_readHouse RX11 cX11_readHouse 3 (some .int) 1 := ⟨hI_X11_readHouse, hS_X11_readHouse, hIni_X11, hC_X11_readHouse, by decide +kernel⟩
abbrev rm_X11_readBell : Room := { frames := 3, cells := 0, slots := 0, locals := 70 }
def fX11_readBell_b204 (sf_72 : S0 → Int32 → Int32 → Option (Int32 × S0)) (σ : S0) (x1 : Int32) (x2 : Int32) : Option (Int32 × S0) := sf_72 σ x1 x2
set_option maxHeartbeats 1000000 in
set_option maxRecDepth 100000 in
theorem fX11_readBell_b204_ok {p : Program} {l : Launch} {e : Env} {s : State} {m : MethodId} {args : Array Value} {below : List Frame} {meth : Method} {c : Code} {dC : Nat → ClassId} {dI : Nat → Nat → Nat} {ad : Nat → Nat} {cy : Nat → ClassId} {sz : Nat} (C : Cx p s m args meth c RX11 cX11_readBell 4 none dC dI ad cy sz) {rr : Int32} {ρ : S0} (sf_72 : S0 → Int32 → Int32 → Option (Int32 × S0)) (hs_72 : ∀ (σ : S0) (x1 : Int32) (x2 : Int32) , sf_72 σ x1 x2 = some (rr, ρ) → Gw p l e rm_X11_readBell s m args below meth c (MQ below (QcV dC dI ad cy sz ρ) args s 0 0 (AW ad sz)) dC dI ad cy 4 sz 0 0 72 [(0, .ref (ad 98)), (1, .int x1), (2, .int x2)] [] σ) (σ : S0) (x1 : Int32) (x2 : Int32)  (hf : fX11_readBell_b204 sf_72 σ x1 x2 = some (rr, ρ)) : Gw p l e rm_X11_readBell s m args below meth c (MQ below (QcV dC dI ad cy sz ρ) args s 0 0 (AW ad sz)) dC dI ad cy 4 sz 0 0 204 [(0, .ref (ad 98)), (1, .int x1), (2, .int x2)] [] σ := by
  unfold fX11_readBell_b204 at hf
  refine g_goto (tgt := 72) C dX11_readBell_204 (by decide) ?_
  exact g_sub [0, 1, 2] rfl (hs_72 σ x1 x2 hf)
def fX11_readBell_b177 (sf_72 : S0 → Int32 → Int32 → Option (Int32 × S0)) (σ : S0) (x1 : Int32) (x2 : Int32) : Option (Int32 × S0) := if ¬ (σ 98 22) = 0 then (fX11_readBell_b204 sf_72 σ x1 x2) else (ol (x1 + 0) (fun v2 => og (¬ (v2 < 0 ∨ 80 ≤ v2.toNatClampNeg)) (ol (σ 102 v2.toNatClampNeg) (fun v4 => obp (fX11_readHouse σ v4) (fun r5 σ6 => ol (x1 + 4) (fun v8 => og (¬ (v8 < 0 ∨ 80 ≤ v8.toNatClampNeg)) (ol (su σ6 102 v8.toNatClampNeg r5) (fun σ10 => fX11_readBell_b204 sf_72 σ10 x1 x2))))))))
set_option maxHeartbeats 1000000 in
set_option maxRecDepth 100000 in
theorem fX11_readBell_b177_ok {p : Program} {l : Launch} {e : Env} {s : State} {m : MethodId} {args : Array Value} {below : List Frame} {meth : Method} {c : Code} {dC : Nat → ClassId} {dI : Nat → Nat → Nat} {ad : Nat → Nat} {cy : Nat → ClassId} {sz : Nat} (C : Cx p s m args meth c RX11 cX11_readBell 4 none dC dI ad cy sz) {rr : Int32} {ρ : S0} (sf_72 : S0 → Int32 → Int32 → Option (Int32 × S0)) (hs_72 : ∀ (σ : S0) (x1 : Int32) (x2 : Int32) , sf_72 σ x1 x2 = some (rr, ρ) → Gw p l e rm_X11_readBell s m args below meth c (MQ below (QcV dC dI ad cy sz ρ) args s 0 0 (AW ad sz)) dC dI ad cy 4 sz 0 0 72 [(0, .ref (ad 98)), (1, .int x1), (2, .int x2)] [] σ) (σ : S0) (x1 : Int32) (x2 : Int32)  (hf : fX11_readBell_b177 sf_72 σ x1 x2 = some (rr, ρ)) : Gw p l e rm_X11_readBell s m args below meth c (MQ below (QcV dC dI ad cy sz ρ) args s 0 0 (AW ad sz)) dC dI ad cy 4 sz 0 0 177 [(0, .ref (ad 98)), (1, .int x1), (2, .int x2)] [] σ := by
  unfold fX11_readBell_b177 at hf
  refine g_aload_n C dX11_readBell_177 rfl 0 rfl ?_
  refine g_get C (a_98 ad cy _) rfl hin_X11 22 (by decide) hF_X11_96 rfl rfl dX11_readBell_178 ?_
  rcases oi_e hf with ⟨c1, hf⟩ | ⟨c1, hf⟩
  · refine g_if_ne_t (tgt := 204) C dX11_readBell_181 (by decide) c1 ?_
    exact g_sub [0, 1, 2] rfl (fX11_readBell_b204_ok C sf_72 hs_72 σ x1 x2 hf)
  · refine g_if_ne_f (tgt := 204) C dX11_readBell_181 (by decide) (Decidable.of_not_not c1) ?_
    refine g_aload_n C dX11_readBell_184 rfl 0 rfl ?_
    refine g_get C (a_98 ad cy _) rfl hin_X11 7 (by decide) hF_X11_20 rfl rfl dX11_readBell_185 ?_
    refine g_iload_n C dX11_readBell_188 rfl 1 rfl ?_
    refine g_iconst (v := 4) C dX11_readBell_189 (by decide) ?_
    refine g_iadd C dX11_readBell_190 ?_
    refine g_aload_n C dX11_readBell_191 rfl 0 rfl ?_
    refine g_aload_n C dX11_readBell_192 rfl 0 rfl ?_
    refine g_get C (a_98 ad cy _) rfl hin_X11 7 (by decide) hF_X11_20 rfl rfl dX11_readBell_193 ?_
    refine g_iload_n C dX11_readBell_196 rfl 1 rfl ?_
    refine g_iconst (v := 0) C dX11_readBell_197 (by decide) ?_
    refine g_iadd C dX11_readBell_198 ?_
    obtain ⟨v2, ev2, hf⟩ := ol_e hf
    refine g_nm ev2 ?_
    obtain ⟨h3, hf⟩ := og_e hf
    refine g_iald C (a_102 ad cy _) h3 dX11_readBell_199 ?_
    obtain ⟨v4, ev4, hf⟩ := ol_e hf
    refine g_nm ev4 ?_
    obtain ⟨r5, σ6, h7, hf⟩ := obp_e hf
    refine g_callVi (As := [.int v4]) (rest := [.int (x1 + 4), .ref (ad 102)]) C (a_98 ad cy _) rfl (c_X11_readHouse l dC dI ad cy v4) h7 hM_X11_141 cal_X11_readHouse ⟨Nat.zero_le _, Nat.zero_le _⟩ ⟨rfl, rfl⟩ ⟨Nat.le_of_ble_eq_true rfl, Nat.le_of_ble_eq_true rfl⟩ rfl rfl (Nat.le_of_ble_eq_true rfl) dX11_readBell_200 ?_
    obtain ⟨v8, ev8, hf⟩ := ol_e hf
    refine g_nm2 ev8 ?_
    obtain ⟨h9, hf⟩ := og_e hf
    obtain ⟨σ10, eσ10, hf⟩ := ol_e hf
    refine g_iast C (a_102 ad cy _) h9 (w_102 ad cy _) eσ10 dX11_readBell_203 ?_
    exact g_sub [0, 1, 2] rfl (fX11_readBell_b204_ok C sf_72 hs_72 σ10 x1 x2 hf)
def fX11_readBell_b146 (sf_72 : S0 → Int32 → Int32 → Option (Int32 × S0)) (σ : S0) (x1 : Int32) (x3 : Int32) (t0 : Int32) (t1 : Int32) : Option (Int32 × S0) := ol (t1 ||| t0) (fun v1 => obp (fX11_next σ) (fun r2 σ3 => if ¬ (σ3 98 22) = 0 then (fX11_readBell_b177 sf_72 σ3 x1 v1) else (if ¬ x3 = 11 then (fX11_readBell_b177 sf_72 σ3 x1 v1) else (ol (x1 + 3) (fun v7 => og (¬ (v7 < 0 ∨ 80 ≤ v7.toNatClampNeg)) (ol (su σ3 102 v7.toNatClampNeg 1) (fun σ9 => fX11_readBell_b204 sf_72 σ9 x1 v1)))))))
set_option maxHeartbeats 1000000 in
set_option maxRecDepth 100000 in
theorem fX11_readBell_b146_ok {p : Program} {l : Launch} {e : Env} {s : State} {m : MethodId} {args : Array Value} {below : List Frame} {meth : Method} {c : Code} {dC : Nat → ClassId} {dI : Nat → Nat → Nat} {ad : Nat → Nat} {cy : Nat → ClassId} {sz : Nat} (C : Cx p s m args meth c RX11 cX11_readBell 4 none dC dI ad cy sz) {rr : Int32} {ρ : S0} (sf_72 : S0 → Int32 → Int32 → Option (Int32 × S0)) (hs_72 : ∀ (σ : S0) (x1 : Int32) (x2 : Int32) , sf_72 σ x1 x2 = some (rr, ρ) → Gw p l e rm_X11_readBell s m args below meth c (MQ below (QcV dC dI ad cy sz ρ) args s 0 0 (AW ad sz)) dC dI ad cy 4 sz 0 0 72 [(0, .ref (ad 98)), (1, .int x1), (2, .int x2)] [] σ) (σ : S0) (x1 : Int32) (x3 : Int32) (t0 : Int32) (t1 : Int32)  (hf : fX11_readBell_b146 sf_72 σ x1 x3 t0 t1 = some (rr, ρ)) : Gw p l e rm_X11_readBell s m args below meth c (MQ below (QcV dC dI ad cy sz ρ) args s 0 0 (AW ad sz)) dC dI ad cy 4 sz 0 0 146 [(0, .ref (ad 98)), (1, .int x1), (3, .int x3)] [.int t0, .int t1] σ := by
  unfold fX11_readBell_b146 at hf
  refine g_ior C dX11_readBell_146 ?_
  obtain ⟨v1, ev1, hf⟩ := ol_e hf
  refine g_nm ev1 ?_
  refine g_istore_n (lv2 := [(0, .ref (ad 98)), (1, .int x1), (2, .int v1), (3, .int x3)]) C dX11_readBell_147 rfl (by decide) [1, 2, 0, 3] rfl ?_
  refine g_aload_n C dX11_readBell_148 rfl 0 rfl ?_
  obtain ⟨r2, σ3, h4, hf⟩ := obp_e hf
  refine g_callVv (As := []) (rest := []) C (a_98 ad cy _) rfl (c_X11_next l dC dI ad cy ) h4 hM_X11_138 cal_X11_next ⟨Nat.zero_le _, Nat.zero_le _⟩ ⟨rfl, rfl⟩ ⟨Nat.le_of_ble_eq_true rfl, Nat.le_of_ble_eq_true rfl⟩ rfl rfl (Nat.le_of_ble_eq_true rfl) dX11_readBell_149 ?_
  refine g_aload_n C dX11_readBell_152 rfl 0 rfl ?_
  refine g_get C (a_98 ad cy _) rfl hin_X11 22 (by decide) hF_X11_96 rfl rfl dX11_readBell_153 ?_
  rcases oi_e hf with ⟨c5, hf⟩ | ⟨c5, hf⟩
  · refine g_if_ne_t (tgt := 177) C dX11_readBell_156 (by decide) c5 ?_
    exact g_sub [0, 1, 2] rfl (fX11_readBell_b177_ok C sf_72 hs_72 σ3 x1 v1 hf)
  · refine g_if_ne_f (tgt := 177) C dX11_readBell_156 (by decide) (Decidable.of_not_not c5) ?_
    refine g_iload_n C dX11_readBell_159 rfl 3 rfl ?_
    refine g_bipush (v := 11) C dX11_readBell_160 (by decide) ?_
    rcases oi_e hf with ⟨c6, hf⟩ | ⟨c6, hf⟩
    · refine g_icmp_ne_t (tgt := 177) C dX11_readBell_162 (by decide) c6 ?_
      exact g_sub [0, 1, 2] rfl (fX11_readBell_b177_ok C sf_72 hs_72 σ3 x1 v1 hf)
    · refine g_icmp_ne_f (tgt := 177) C dX11_readBell_162 (by decide) (Decidable.of_not_not c6) ?_
      refine g_aload_n C dX11_readBell_165 rfl 0 rfl ?_
      refine g_get C (a_98 ad cy _) rfl hin_X11 7 (by decide) hF_X11_20 rfl rfl dX11_readBell_166 ?_
      refine g_iload_n C dX11_readBell_169 rfl 1 rfl ?_
      refine g_iconst (v := 3) C dX11_readBell_170 (by decide) ?_
      refine g_iadd C dX11_readBell_171 ?_
      refine g_iconst (v := 1) C dX11_readBell_172 (by decide) ?_
      obtain ⟨v7, ev7, hf⟩ := ol_e hf
      refine g_nm2 ev7 ?_
      obtain ⟨h8, hf⟩ := og_e hf
      obtain ⟨σ9, eσ9, hf⟩ := ol_e hf
      refine g_iast C (a_102 ad cy _) h8 (w_102 ad cy _) eσ9 dX11_readBell_173 ?_
      refine g_goto (tgt := 204) C dX11_readBell_174 (by decide) ?_
      exact g_sub [0, 1, 2] rfl (fX11_readBell_b204_ok C sf_72 hs_72 σ9 x1 v1 hf)
def fX11_readBell_b128 (sf_72 : S0 → Int32 → Int32 → Option (Int32 × S0)) (σ : S0) (x1 : Int32) (x2 : Int32) (x3 : Int32) (t0 : Int32) : Option (Int32 × S0) := obp (fX11_needs σ t0 ((4 : Int32))) (fun r1 σ2 => if ¬ x3 = ((-4)) then (fX11_readBell_b146 sf_72 σ2 x1 x3 ((1 : Int32) <<< (x3 &&& 31)) x2) else (fX11_readBell_b146 sf_72 σ2 x1 x3 0 x2))
set_option maxHeartbeats 1000000 in
set_option maxRecDepth 100000 in
theorem fX11_readBell_b128_ok {p : Program} {l : Launch} {e : Env} {s : State} {m : MethodId} {args : Array Value} {below : List Frame} {meth : Method} {c : Code} {dC : Nat → ClassId} {dI : Nat → Nat → Nat} {ad : Nat → Nat} {cy : Nat → ClassId} {sz : Nat} (C : Cx p s m args meth c RX11 cX11_readBell 4 none dC dI ad cy sz) {rr : Int32} {ρ : S0} (sf_72 : S0 → Int32 → Int32 → Option (Int32 × S0)) (hs_72 : ∀ (σ : S0) (x1 : Int32) (x2 : Int32) , sf_72 σ x1 x2 = some (rr, ρ) → Gw p l e rm_X11_readBell s m args below meth c (MQ below (QcV dC dI ad cy sz ρ) args s 0 0 (AW ad sz)) dC dI ad cy 4 sz 0 0 72 [(0, .ref (ad 98)), (1, .int x1), (2, .int x2)] [] σ) (σ : S0) (x1 : Int32) (x2 : Int32) (x3 : Int32) (t0 : Int32)  (hf : fX11_readBell_b128 sf_72 σ x1 x2 x3 t0 = some (rr, ρ)) : Gw p l e rm_X11_readBell s m args below meth c (MQ below (QcV dC dI ad cy sz ρ) args s 0 0 (AW ad sz)) dC dI ad cy 4 sz 0 0 128 [(0, .ref (ad 98)), (1, .int x1), (2, .int x2), (3, .int x3)] [.int t0, .ref (ad 98)] σ := by
  unfold fX11_readBell_b128 at hf
  refine g_iconst (v := 4) C dX11_readBell_128 (by decide) ?_
  obtain ⟨r1, σ2, h3, hf⟩ := obp_e hf
  refine g_callVv (As := [.int t0, .int 4]) (rest := []) C (a_98 ad cy _) rfl (c_X11_needs l dC dI ad cy t0 ((4 : Int32))) h3 hM_X11_130 cal_X11_needs ⟨Nat.zero_le _, Nat.zero_le _⟩ ⟨rfl, rfl⟩ ⟨Nat.le_of_ble_eq_true rfl, Nat.le_of_ble_eq_true rfl⟩ rfl rfl (Nat.le_of_ble_eq_true rfl) dX11_readBell_129 ?_
  refine g_iload_n C dX11_readBell_132 rfl 2 rfl ?_
  refine g_iload_n C dX11_readBell_133 rfl 3 rfl ?_
  refine g_bipush (v := (-4)) C dX11_readBell_134 (by decide) ?_
  rcases oi_e hf with ⟨c4, hf⟩ | ⟨c4, hf⟩
  · refine g_icmp_ne_t (tgt := 143) C dX11_readBell_136 (by decide) c4 ?_
    refine g_iconst (v := 1) C dX11_readBell_143 (by decide) ?_
    refine g_iload_n C dX11_readBell_144 rfl 3 rfl ?_
    refine g_ishl C dX11_readBell_145 ?_
    exact g_sub [0, 1, 3] rfl (fX11_readBell_b146_ok C sf_72 hs_72 σ2 x1 x3 ((1 : Int32) <<< (x3 &&& 31)) x2 hf)
  · refine g_icmp_ne_f (tgt := 143) C dX11_readBell_136 (by decide) (Decidable.of_not_not c4) ?_
    refine g_iconst (v := 0) C dX11_readBell_139 (by decide) ?_
    refine g_goto (tgt := 146) C dX11_readBell_140 (by decide) ?_
    exact g_sub [0, 1, 3] rfl (fX11_readBell_b146_ok C sf_72 hs_72 σ2 x1 x3 0 x2 hf)
def fX11_readBell_b123 (sf_72 : S0 → Int32 → Int32 → Option (Int32 × S0)) (σ : S0) (x1 : Int32) (x2 : Int32) (x3 : Int32) : Option (Int32 × S0) := fX11_readBell_b128 sf_72 σ x1 x2 x3 1
set_option maxHeartbeats 1000000 in
set_option maxRecDepth 100000 in
theorem fX11_readBell_b123_ok {p : Program} {l : Launch} {e : Env} {s : State} {m : MethodId} {args : Array Value} {below : List Frame} {meth : Method} {c : Code} {dC : Nat → ClassId} {dI : Nat → Nat → Nat} {ad : Nat → Nat} {cy : Nat → ClassId} {sz : Nat} (C : Cx p s m args meth c RX11 cX11_readBell 4 none dC dI ad cy sz) {rr : Int32} {ρ : S0} (sf_72 : S0 → Int32 → Int32 → Option (Int32 × S0)) (hs_72 : ∀ (σ : S0) (x1 : Int32) (x2 : Int32) , sf_72 σ x1 x2 = some (rr, ρ) → Gw p l e rm_X11_readBell s m args below meth c (MQ below (QcV dC dI ad cy sz ρ) args s 0 0 (AW ad sz)) dC dI ad cy 4 sz 0 0 72 [(0, .ref (ad 98)), (1, .int x1), (2, .int x2)] [] σ) (σ : S0) (x1 : Int32) (x2 : Int32) (x3 : Int32)  (hf : fX11_readBell_b123 sf_72 σ x1 x2 x3 = some (rr, ρ)) : Gw p l e rm_X11_readBell s m args below meth c (MQ below (QcV dC dI ad cy sz ρ) args s 0 0 (AW ad sz)) dC dI ad cy 4 sz 0 0 123 [(0, .ref (ad 98)), (1, .int x1), (2, .int x2), (3, .int x3)] [.ref (ad 98)] σ := by
  unfold fX11_readBell_b123 at hf
  refine g_iconst (v := 1) C dX11_readBell_123 (by decide) ?_
  refine g_goto (tgt := 128) C dX11_readBell_124 (by decide) ?_
  exact g_sub [0, 1, 2, 3] rfl (fX11_readBell_b128_ok C sf_72 hs_72 σ x1 x2 x3 1 hf)
def fX11_readBell_b104 (sf_72 : S0 → Int32 → Int32 → Option (Int32 × S0)) (σ : S0) (x1 : Int32) (x2 : Int32) (x3 : Int32) (t0 : Int32) : Option (Int32 × S0) := obp (fX11_needs σ t0 ((2 : Int32))) (fun r1 σ2 => if x3 = ((-4)) then (fX11_readBell_b123 sf_72 σ2 x1 x2 x3) else (if ¬ ((x2 >>> (x3 &&& 31)) &&& 1) = 0 then (fX11_readBell_b128 sf_72 σ2 x1 x2 x3 0) else (fX11_readBell_b123 sf_72 σ2 x1 x2 x3)))
set_option maxHeartbeats 1000000 in
set_option maxRecDepth 100000 in
theorem fX11_readBell_b104_ok {p : Program} {l : Launch} {e : Env} {s : State} {m : MethodId} {args : Array Value} {below : List Frame} {meth : Method} {c : Code} {dC : Nat → ClassId} {dI : Nat → Nat → Nat} {ad : Nat → Nat} {cy : Nat → ClassId} {sz : Nat} (C : Cx p s m args meth c RX11 cX11_readBell 4 none dC dI ad cy sz) {rr : Int32} {ρ : S0} (sf_72 : S0 → Int32 → Int32 → Option (Int32 × S0)) (hs_72 : ∀ (σ : S0) (x1 : Int32) (x2 : Int32) , sf_72 σ x1 x2 = some (rr, ρ) → Gw p l e rm_X11_readBell s m args below meth c (MQ below (QcV dC dI ad cy sz ρ) args s 0 0 (AW ad sz)) dC dI ad cy 4 sz 0 0 72 [(0, .ref (ad 98)), (1, .int x1), (2, .int x2)] [] σ) (σ : S0) (x1 : Int32) (x2 : Int32) (x3 : Int32) (t0 : Int32)  (hf : fX11_readBell_b104 sf_72 σ x1 x2 x3 t0 = some (rr, ρ)) : Gw p l e rm_X11_readBell s m args below meth c (MQ below (QcV dC dI ad cy sz ρ) args s 0 0 (AW ad sz)) dC dI ad cy 4 sz 0 0 104 [(0, .ref (ad 98)), (1, .int x1), (2, .int x2), (3, .int x3)] [.int t0, .ref (ad 98)] σ := by
  unfold fX11_readBell_b104 at hf
  refine g_iconst (v := 2) C dX11_readBell_104 (by decide) ?_
  obtain ⟨r1, σ2, h3, hf⟩ := obp_e hf
  refine g_callVv (As := [.int t0, .int 2]) (rest := []) C (a_98 ad cy _) rfl (c_X11_needs l dC dI ad cy t0 ((2 : Int32))) h3 hM_X11_130 cal_X11_needs ⟨Nat.zero_le _, Nat.zero_le _⟩ ⟨rfl, rfl⟩ ⟨Nat.le_of_ble_eq_true rfl, Nat.le_of_ble_eq_true rfl⟩ rfl rfl (Nat.le_of_ble_eq_true rfl) dX11_readBell_105 ?_
  refine g_aload_n C dX11_readBell_108 rfl 0 rfl ?_
  refine g_iload_n C dX11_readBell_109 rfl 3 rfl ?_
  refine g_bipush (v := (-4)) C dX11_readBell_110 (by decide) ?_
  rcases oi_e hf with ⟨c4, hf⟩ | ⟨c4, hf⟩
  · refine g_icmp_eq_t (tgt := 123) C dX11_readBell_112 (by decide) c4 ?_
    exact g_sub [0, 1, 2, 3] rfl (fX11_readBell_b123_ok C sf_72 hs_72 σ2 x1 x2 x3 hf)
  · refine g_icmp_eq_f (tgt := 123) C dX11_readBell_112 (by decide) c4 ?_
    refine g_iload_n C dX11_readBell_115 rfl 2 rfl ?_
    refine g_iload_n C dX11_readBell_116 rfl 3 rfl ?_
    refine g_ishr C dX11_readBell_117 ?_
    refine g_iconst (v := 1) C dX11_readBell_118 (by decide) ?_
    refine g_iand C dX11_readBell_119 ?_
    rcases oi_e hf with ⟨c5, hf⟩ | ⟨c5, hf⟩
    · refine g_if_ne_t (tgt := 127) C dX11_readBell_120 (by decide) c5 ?_
      refine g_iconst (v := 0) C dX11_readBell_127 (by decide) ?_
      exact g_sub [0, 1, 2, 3] rfl (fX11_readBell_b128_ok C sf_72 hs_72 σ2 x1 x2 x3 0 hf)
    · refine g_if_ne_f (tgt := 127) C dX11_readBell_120 (by decide) (Decidable.of_not_not c5) ?_
      exact g_sub [0, 1, 2, 3] rfl (fX11_readBell_b123_ok C sf_72 hs_72 σ2 x1 x2 x3 hf)
def fX11_readBell_b207  (σ : S0)  : Option (Int32 × S0) := ol ((σ 98 11) + 1) (fun v1 => ol (su σ 98 11 v1) (fun σ2 => some (0, σ2)))
set_option maxHeartbeats 1000000 in
set_option maxRecDepth 100000 in
theorem fX11_readBell_b207_ok {p : Program} {l : Launch} {e : Env} {s : State} {m : MethodId} {args : Array Value} {below : List Frame} {meth : Method} {c : Code} {dC : Nat → ClassId} {dI : Nat → Nat → Nat} {ad : Nat → Nat} {cy : Nat → ClassId} {sz : Nat} (C : Cx p s m args meth c RX11 cX11_readBell 4 none dC dI ad cy sz) {rr : Int32} {ρ : S0}  (σ : S0)   (hf : fX11_readBell_b207 σ = some (rr, ρ)) : Gw p l e rm_X11_readBell s m args below meth c (MQ below (QcV dC dI ad cy sz ρ) args s 0 0 (AW ad sz)) dC dI ad cy 4 sz 0 0 207 [(0, .ref (ad 98))] [] σ := by
  unfold fX11_readBell_b207 at hf
  refine g_aload_n C dX11_readBell_207 rfl 0 rfl ?_
  refine g_dup C dX11_readBell_208 rfl ?_
  refine g_get C (a_98 ad cy _) rfl hin_X11 11 (by decide) hF_X11_60 rfl rfl dX11_readBell_209 ?_
  refine g_iconst (v := 1) C dX11_readBell_212 (by decide) ?_
  refine g_iadd C dX11_readBell_213 ?_
  obtain ⟨v1, ev1, hf⟩ := ol_e hf
  refine g_nm ev1 ?_
  obtain ⟨σ2, eσ2, hf⟩ := ol_e hf
  refine g_put (ty := .int) C (a_98 ad cy _) rfl hin_X11 tyX11 tyX11_ok nmX11 11 (by decide) hF_X11_60 rfl rfl (by decide +kernel) rfl rfl (Nat.le_of_ble_eq_true rfl) (p_98_11 ad cy _ _) eσ2 dX11_readBell_214 ?_
  obtain ⟨rfl, rfl⟩ := os_e hf
  exact g_vret C rfl dX11_readBell_217
def fX11_readBell_b72 (sf_72 : S0 → Int32 → Int32 → Option (Int32 × S0)) (σ : S0) (x1 : Int32) (x2 : Int32) : Option (Int32 × S0) := if ¬ (σ 98 22) = 0 then (fX11_readBell_b207 σ) else (if ¬ (σ 98 20) = 1 then (fX11_readBell_b207 σ) else (obp (fX11_withNow σ) (fun r3 σ4 => if r3 = ((-4)) then (fX11_readBell_b104 sf_72 σ4 x1 x2 r3 0) else (fX11_readBell_b104 sf_72 σ4 x1 x2 r3 1))))
set_option maxHeartbeats 1000000 in
set_option maxRecDepth 100000 in
theorem fX11_readBell_b72_ok {p : Program} {l : Launch} {e : Env} {s : State} {m : MethodId} {args : Array Value} {below : List Frame} {meth : Method} {c : Code} {dC : Nat → ClassId} {dI : Nat → Nat → Nat} {ad : Nat → Nat} {cy : Nat → ClassId} {sz : Nat} (C : Cx p s m args meth c RX11 cX11_readBell 4 none dC dI ad cy sz) {rr : Int32} {ρ : S0} (sf_72 : S0 → Int32 → Int32 → Option (Int32 × S0)) (hs_72 : ∀ (σ : S0) (x1 : Int32) (x2 : Int32) , sf_72 σ x1 x2 = some (rr, ρ) → Gw p l e rm_X11_readBell s m args below meth c (MQ below (QcV dC dI ad cy sz ρ) args s 0 0 (AW ad sz)) dC dI ad cy 4 sz 0 0 72 [(0, .ref (ad 98)), (1, .int x1), (2, .int x2)] [] σ) (σ : S0) (x1 : Int32) (x2 : Int32)  (hf : fX11_readBell_b72 sf_72 σ x1 x2 = some (rr, ρ)) : Gw p l e rm_X11_readBell s m args below meth c (MQ below (QcV dC dI ad cy sz ρ) args s 0 0 (AW ad sz)) dC dI ad cy 4 sz 0 0 72 [(0, .ref (ad 98)), (1, .int x1), (2, .int x2)] [] σ := by
  unfold fX11_readBell_b72 at hf
  refine g_aload_n C dX11_readBell_72 rfl 0 rfl ?_
  refine g_get C (a_98 ad cy _) rfl hin_X11 22 (by decide) hF_X11_96 rfl rfl dX11_readBell_73 ?_
  rcases oi_e hf with ⟨c1, hf⟩ | ⟨c1, hf⟩
  · refine g_if_ne_t (tgt := 207) C dX11_readBell_76 (by decide) c1 ?_
    exact g_sub [0] rfl (fX11_readBell_b207_ok C σ hf)
  · refine g_if_ne_f (tgt := 207) C dX11_readBell_76 (by decide) (Decidable.of_not_not c1) ?_
    refine g_aload_n C dX11_readBell_79 rfl 0 rfl ?_
    refine g_get C (a_98 ad cy _) rfl hin_X11 20 (by decide) hF_X11_116 rfl rfl dX11_readBell_80 ?_
    refine g_iconst (v := 1) C dX11_readBell_83 (by decide) ?_
    rcases oi_e hf with ⟨c2, hf⟩ | ⟨c2, hf⟩
    · refine g_icmp_ne_t (tgt := 207) C dX11_readBell_84 (by decide) c2 ?_
      exact g_sub [0] rfl (fX11_readBell_b207_ok C σ hf)
    · refine g_icmp_ne_f (tgt := 207) C dX11_readBell_84 (by decide) (Decidable.of_not_not c2) ?_
      refine g_aload_n C dX11_readBell_87 rfl 0 rfl ?_
      obtain ⟨r3, σ4, h5, hf⟩ := obp_e hf
      refine g_callVi (As := []) (rest := []) C (a_98 ad cy _) rfl (c_X11_withNow l dC dI ad cy ) h5 hM_X11_147 cal_X11_withNow ⟨Nat.zero_le _, Nat.zero_le _⟩ ⟨rfl, rfl⟩ ⟨Nat.le_of_ble_eq_true rfl, Nat.le_of_ble_eq_true rfl⟩ rfl rfl (Nat.le_of_ble_eq_true rfl) dX11_readBell_88 ?_
      refine g_istore_n (lv2 := [(0, .ref (ad 98)), (1, .int x1), (2, .int x2), (3, .int r3)]) C dX11_readBell_91 rfl (by decide) [1, 2, 3, 0] rfl ?_
      refine g_aload_n C dX11_readBell_92 rfl 0 rfl ?_
      refine g_iload_n C dX11_readBell_93 rfl 3 rfl ?_
      refine g_bipush (v := (-4)) C dX11_readBell_94 (by decide) ?_
      rcases oi_e hf with ⟨c6, hf⟩ | ⟨c6, hf⟩
      · refine g_icmp_eq_t (tgt := 103) C dX11_readBell_96 (by decide) c6 ?_
        refine g_iconst (v := 0) C dX11_readBell_103 (by decide) ?_
        exact g_sub [0, 1, 2, 3] rfl (fX11_readBell_b104_ok C sf_72 hs_72 σ4 x1 x2 r3 0 hf)
      · refine g_icmp_eq_f (tgt := 103) C dX11_readBell_96 (by decide) c6 ?_
        refine g_iconst (v := 1) C dX11_readBell_99 (by decide) ?_
        refine g_goto (tgt := 104) C dX11_readBell_100 (by decide) ?_
        exact g_sub [0, 1, 2, 3] rfl (fX11_readBell_b104_ok C sf_72 hs_72 σ4 x1 x2 r3 1 hf)
def fX11_readBell_h72  : Nat → S0 → Int32 → Int32 → Option (Int32 × S0)
  | 0 => fun _ _ _ => none
  | n + 1 => fun σ x1 x2 => fX11_readBell_b72  (fX11_readBell_h72  n) σ x1 x2
set_option maxHeartbeats 1000000 in
set_option maxRecDepth 100000 in
theorem fX11_readBell_h72_ok {p : Program} {l : Launch} {e : Env} {s : State} {m : MethodId} {args : Array Value} {below : List Frame} {meth : Method} {c : Code} {dC : Nat → ClassId} {dI : Nat → Nat → Nat} {ad : Nat → Nat} {cy : Nat → ClassId} {sz : Nat} (C : Cx p s m args meth c RX11 cX11_readBell 4 none dC dI ad cy sz) {rr : Int32} {ρ : S0}  : ∀ (n : Nat) (σ : S0) (x1 : Int32) (x2 : Int32)  (_hf : fX11_readBell_h72  n σ x1 x2 = some (rr, ρ)), Gw p l e rm_X11_readBell s m args below meth c (MQ below (QcV dC dI ad cy sz ρ) args s 0 0 (AW ad sz)) dC dI ad cy 4 sz 0 0 72 [(0, .ref (ad 98)), (1, .int x1), (2, .int x2)] [] σ
  | 0, _, _, _, hf => by cases hf
  | n + 1, σ, x1, x2, hf => fX11_readBell_b72_ok C  (fX11_readBell_h72  n) (fX11_readBell_h72_ok C  n) σ x1 x2 hf
def fX11_readBell (σ : S0)  : Option (Int32 × S0) := ol (5 * (σ 98 11)) (fun v1 => obp (fX11_readHouse σ (((-4) : Int32))) (fun r2 σ3 => ol (v1 + 0) (fun v5 => og (¬ (v5 < 0 ∨ 80 ≤ v5.toNatClampNeg)) (ol (su σ3 102 v5.toNatClampNeg r2) (fun σ7 => obp (fX11_readNumber σ7 ((0 : Int32)) ((20 : Int32))) (fun r8 σ9 => ol (v1 + 1) (fun v11 => og (¬ (v11 < 0 ∨ 80 ≤ v11.toNatClampNeg)) (ol (su σ9 102 v11.toNatClampNeg r8) (fun σ13 => obp (fX11_readNumber σ13 ((0 : Int32)) ((9 : Int32))) (fun r14 σ15 => ol (v1 + 2) (fun v17 => og (¬ (v17 < 0 ∨ 80 ≤ v17.toNatClampNeg)) (ol (su σ15 102 v17.toNatClampNeg r14) (fun σ19 => ol (v1 + 3) (fun v20 => og (¬ (v20 < 0 ∨ 80 ≤ v20.toNatClampNeg)) (ol (su σ19 102 v20.toNatClampNeg 0) (fun σ22 => ol (v1 + 4) (fun v23 => og (¬ (v23 < 0 ∨ 80 ≤ v23.toNatClampNeg)) (ol (su σ22 102 v23.toNatClampNeg ((-4))) (fun σ25 => fX11_readBell_h72 400 σ25 v1 0)))))))))))))))))))
set_option maxHeartbeats 1000000 in
set_option maxRecDepth 100000 in
theorem fX11_readBell_ok {p : Program} {l : Launch} {e : Env} {s : State} {m : MethodId} {args : Array Value} {below : List Frame} {meth : Method} {c : Code} {dC : Nat → ClassId} {dI : Nat → Nat → Nat} {ad : Nat → Nat} {cy : Nat → ClassId} {sz : Nat} (C : Cx p s m args meth c RX11 cX11_readBell 4 none dC dI ad cy sz) {rr : Int32} {ρ : S0} (σ : S0)   (hf : fX11_readBell σ = some (rr, ρ)) : Gw p l e rm_X11_readBell s m args below meth c (MQ below (QcV dC dI ad cy sz ρ) args s 0 0 (AW ad sz)) dC dI ad cy 4 sz 0 0 0 [(0, .ref (ad 98))] [] σ := by
  unfold fX11_readBell at hf
  refine g_iconst (v := 5) C dX11_readBell_0 (by decide) ?_
  refine g_aload_n C dX11_readBell_1 rfl 0 rfl ?_
  refine g_get C (a_98 ad cy _) rfl hin_X11 11 (by decide) hF_X11_60 rfl rfl dX11_readBell_2 ?_
  refine g_imul C dX11_readBell_5 ?_
  obtain ⟨v1, ev1, hf⟩ := ol_e hf
  refine g_nm ev1 ?_
  refine g_istore_n (lv2 := [(0, .ref (ad 98)), (1, .int v1)]) C dX11_readBell_6 rfl (by decide) [1, 0] rfl ?_
  refine g_aload_n C dX11_readBell_7 rfl 0 rfl ?_
  refine g_get C (a_98 ad cy _) rfl hin_X11 7 (by decide) hF_X11_20 rfl rfl dX11_readBell_8 ?_
  refine g_iload_n C dX11_readBell_11 rfl 1 rfl ?_
  refine g_iconst (v := 0) C dX11_readBell_12 (by decide) ?_
  refine g_iadd C dX11_readBell_13 ?_
  refine g_aload_n C dX11_readBell_14 rfl 0 rfl ?_
  refine g_bipush (v := (-4)) C dX11_readBell_15 (by decide) ?_
  obtain ⟨r2, σ3, h4, hf⟩ := obp_e hf
  refine g_callVi (As := [.int ((-4))]) (rest := [.int (v1 + 0), .ref (ad 102)]) C (a_98 ad cy _) rfl (c_X11_readHouse l dC dI ad cy (((-4) : Int32))) h4 hM_X11_141 cal_X11_readHouse ⟨Nat.zero_le _, Nat.zero_le _⟩ ⟨rfl, rfl⟩ ⟨Nat.le_of_ble_eq_true rfl, Nat.le_of_ble_eq_true rfl⟩ rfl rfl (Nat.le_of_ble_eq_true rfl) dX11_readBell_17 ?_
  obtain ⟨v5, ev5, hf⟩ := ol_e hf
  refine g_nm2 ev5 ?_
  obtain ⟨h6, hf⟩ := og_e hf
  obtain ⟨σ7, eσ7, hf⟩ := ol_e hf
  refine g_iast C (a_102 ad cy _) h6 (w_102 ad cy _) eσ7 dX11_readBell_20 ?_
  refine g_aload_n C dX11_readBell_21 rfl 0 rfl ?_
  refine g_get C (a_98 ad cy _) rfl hin_X11 7 (by decide) hF_X11_20 rfl rfl dX11_readBell_22 ?_
  refine g_iload_n C dX11_readBell_25 rfl 1 rfl ?_
  refine g_iconst (v := 1) C dX11_readBell_26 (by decide) ?_
  refine g_iadd C dX11_readBell_27 ?_
  refine g_aload_n C dX11_readBell_28 rfl 0 rfl ?_
  refine g_iconst (v := 0) C dX11_readBell_29 (by decide) ?_
  refine g_bipush (v := 20) C dX11_readBell_30 (by decide) ?_
  obtain ⟨r8, σ9, h10, hf⟩ := obp_e hf
  refine g_callVi (As := [.int 0, .int 20]) (rest := [.int (v1 + 1), .ref (ad 102)]) C (a_98 ad cy _) rfl (c_X11_readNumber l dC dI ad cy ((0 : Int32)) ((20 : Int32))) h10 hM_X11_144 cal_X11_readNumber ⟨Nat.zero_le _, Nat.zero_le _⟩ ⟨rfl, rfl⟩ ⟨Nat.le_of_ble_eq_true rfl, Nat.le_of_ble_eq_true rfl⟩ rfl rfl (Nat.le_of_ble_eq_true rfl) dX11_readBell_32 ?_
  obtain ⟨v11, ev11, hf⟩ := ol_e hf
  refine g_nm2 ev11 ?_
  obtain ⟨h12, hf⟩ := og_e hf
  obtain ⟨σ13, eσ13, hf⟩ := ol_e hf
  refine g_iast C (a_102 ad cy _) h12 (w_102 ad cy _) eσ13 dX11_readBell_35 ?_
  refine g_aload_n C dX11_readBell_36 rfl 0 rfl ?_
  refine g_get C (a_98 ad cy _) rfl hin_X11 7 (by decide) hF_X11_20 rfl rfl dX11_readBell_37 ?_
  refine g_iload_n C dX11_readBell_40 rfl 1 rfl ?_
  refine g_iconst (v := 2) C dX11_readBell_41 (by decide) ?_
  refine g_iadd C dX11_readBell_42 ?_
  refine g_aload_n C dX11_readBell_43 rfl 0 rfl ?_
  refine g_iconst (v := 0) C dX11_readBell_44 (by decide) ?_
  refine g_bipush (v := 9) C dX11_readBell_45 (by decide) ?_
  obtain ⟨r14, σ15, h16, hf⟩ := obp_e hf
  refine g_callVi (As := [.int 0, .int 9]) (rest := [.int (v1 + 2), .ref (ad 102)]) C (a_98 ad cy _) rfl (c_X11_readNumber l dC dI ad cy ((0 : Int32)) ((9 : Int32))) h16 hM_X11_144 cal_X11_readNumber ⟨Nat.zero_le _, Nat.zero_le _⟩ ⟨rfl, rfl⟩ ⟨Nat.le_of_ble_eq_true rfl, Nat.le_of_ble_eq_true rfl⟩ rfl rfl (Nat.le_of_ble_eq_true rfl) dX11_readBell_47 ?_
  obtain ⟨v17, ev17, hf⟩ := ol_e hf
  refine g_nm2 ev17 ?_
  obtain ⟨h18, hf⟩ := og_e hf
  obtain ⟨σ19, eσ19, hf⟩ := ol_e hf
  refine g_iast C (a_102 ad cy _) h18 (w_102 ad cy _) eσ19 dX11_readBell_50 ?_
  refine g_aload_n C dX11_readBell_51 rfl 0 rfl ?_
  refine g_get C (a_98 ad cy _) rfl hin_X11 7 (by decide) hF_X11_20 rfl rfl dX11_readBell_52 ?_
  refine g_iload_n C dX11_readBell_55 rfl 1 rfl ?_
  refine g_iconst (v := 3) C dX11_readBell_56 (by decide) ?_
  refine g_iadd C dX11_readBell_57 ?_
  refine g_iconst (v := 0) C dX11_readBell_58 (by decide) ?_
  obtain ⟨v20, ev20, hf⟩ := ol_e hf
  refine g_nm2 ev20 ?_
  obtain ⟨h21, hf⟩ := og_e hf
  obtain ⟨σ22, eσ22, hf⟩ := ol_e hf
  refine g_iast C (a_102 ad cy _) h21 (w_102 ad cy _) eσ22 dX11_readBell_59 ?_
  refine g_aload_n C dX11_readBell_60 rfl 0 rfl ?_
  refine g_get C (a_98 ad cy _) rfl hin_X11 7 (by decide) hF_X11_20 rfl rfl dX11_readBell_61 ?_
  refine g_iload_n C dX11_readBell_64 rfl 1 rfl ?_
  refine g_iconst (v := 4) C dX11_readBell_65 (by decide) ?_
  refine g_iadd C dX11_readBell_66 ?_
  refine g_bipush (v := (-4)) C dX11_readBell_67 (by decide) ?_
  obtain ⟨v23, ev23, hf⟩ := ol_e hf
  refine g_nm2 ev23 ?_
  obtain ⟨h24, hf⟩ := og_e hf
  obtain ⟨σ25, eσ25, hf⟩ := ol_e hf
  refine g_iast C (a_102 ad cy _) h24 (w_102 ad cy _) eσ25 dX11_readBell_69 ?_
  refine g_iconst (v := 0) C dX11_readBell_70 (by decide) ?_
  refine g_istore_n (lv2 := [(0, .ref (ad 98)), (1, .int v1), (2, .int 0)]) C dX11_readBell_71 rfl (by decide) [1, 2, 0] rfl ?_
  exact g_sub [0, 1, 2] rfl (fX11_readBell_h72_ok C 400 σ25 v1 0 hf)
theorem c_X11_readBell (l : Launch) (dC : Nat → ClassId) (dI : Nat → Nat → Nat) (ad : Nat → Nat) (cy : Nat → ClassId)  : ConV l yX11_readBell cX11_readBell 4 none rm_X11_readBell dC dI ad cy [.ref (ad 98)] (fun σ => fX11_readBell σ) := con_v (own := RX11) (by decide) rfl (Nat.le_of_ble_eq_true rfl) (fun _ _ _ _ _ _ _ _ σ _ _ C hf => fX11_readBell_ok C σ  hf)
theorem cal_X11_readBell : CalV yX11_readBell RX11 cX11_readBell 4 none 0 := ⟨hI_X11_readBell, hS_X11_readBell, hIni_X11, hC_X11_readBell, by decide +kernel⟩
abbrev rm_X11_readTune : Room := { frames := 3, cells := 0, slots := 0, locals := 70 }
def fX11_readTune_b130 (sf_25 : S0 → Int32 → Int32 → Int32 → Option (Int32 × S0)) (σ : S0) (x1 : Int32) (x2 : Int32) (t0 : Int32) : Option (Int32 × S0) := sf_25 σ x1 x2 t0
set_option maxHeartbeats 1000000 in
set_option maxRecDepth 100000 in
theorem fX11_readTune_b130_ok {p : Program} {l : Launch} {e : Env} {s : State} {m : MethodId} {args : Array Value} {below : List Frame} {meth : Method} {c : Code} {dC : Nat → ClassId} {dI : Nat → Nat → Nat} {ad : Nat → Nat} {cy : Nat → ClassId} {sz : Nat} (C : Cx p s m args meth c RX11 cX11_readTune 5 none dC dI ad cy sz) {rr : Int32} {ρ : S0} (sf_25 : S0 → Int32 → Int32 → Int32 → Option (Int32 × S0)) (hs_25 : ∀ (σ : S0) (x1 : Int32) (x2 : Int32) (x3 : Int32) , sf_25 σ x1 x2 x3 = some (rr, ρ) → Gw p l e rm_X11_readTune s m args below meth c (MQ below (QcV dC dI ad cy sz ρ) args s 0 0 (AW ad sz)) dC dI ad cy 5 sz 0 0 25 [(0, .ref (ad 98)), (1, .int x1), (2, .int x2), (3, .int x3)] [] σ) (σ : S0) (x1 : Int32) (x2 : Int32) (t0 : Int32)  (hf : fX11_readTune_b130 sf_25 σ x1 x2 t0 = some (rr, ρ)) : Gw p l e rm_X11_readTune s m args below meth c (MQ below (QcV dC dI ad cy sz ρ) args s 0 0 (AW ad sz)) dC dI ad cy 5 sz 0 0 130 [(0, .ref (ad 98)), (1, .int x1), (2, .int x2)] [.int t0] σ := by
  unfold fX11_readTune_b130 at hf
  refine g_istore_n (lv2 := [(0, .ref (ad 98)), (1, .int x1), (2, .int x2), (3, .int t0)]) C dX11_readTune_130 rfl (by decide) [1, 2, 3, 0] rfl ?_
  refine g_goto (tgt := 25) C dX11_readTune_131 (by decide) ?_
  exact g_sub [0, 1, 2, 3] rfl (hs_25 σ x1 x2 t0 hf)
def fX11_readTune_b117 (sf_25 : S0 → Int32 → Int32 → Int32 → Option (Int32 × S0)) (σ : S0) (x1 : Int32) (x2 : Int32) : Option (Int32 × S0) := if ¬ (σ 98 20) = 2 then (fX11_readTune_b130 sf_25 σ x1 x2 0) else (fX11_readTune_b130 sf_25 σ x1 x2 1)
set_option maxHeartbeats 1000000 in
set_option maxRecDepth 100000 in
theorem fX11_readTune_b117_ok {p : Program} {l : Launch} {e : Env} {s : State} {m : MethodId} {args : Array Value} {below : List Frame} {meth : Method} {c : Code} {dC : Nat → ClassId} {dI : Nat → Nat → Nat} {ad : Nat → Nat} {cy : Nat → ClassId} {sz : Nat} (C : Cx p s m args meth c RX11 cX11_readTune 5 none dC dI ad cy sz) {rr : Int32} {ρ : S0} (sf_25 : S0 → Int32 → Int32 → Int32 → Option (Int32 × S0)) (hs_25 : ∀ (σ : S0) (x1 : Int32) (x2 : Int32) (x3 : Int32) , sf_25 σ x1 x2 x3 = some (rr, ρ) → Gw p l e rm_X11_readTune s m args below meth c (MQ below (QcV dC dI ad cy sz ρ) args s 0 0 (AW ad sz)) dC dI ad cy 5 sz 0 0 25 [(0, .ref (ad 98)), (1, .int x1), (2, .int x2), (3, .int x3)] [] σ) (σ : S0) (x1 : Int32) (x2 : Int32)  (hf : fX11_readTune_b117 sf_25 σ x1 x2 = some (rr, ρ)) : Gw p l e rm_X11_readTune s m args below meth c (MQ below (QcV dC dI ad cy sz ρ) args s 0 0 (AW ad sz)) dC dI ad cy 5 sz 0 0 117 [(0, .ref (ad 98)), (1, .int x1), (2, .int x2)] [] σ := by
  unfold fX11_readTune_b117 at hf
  refine g_aload_n C dX11_readTune_117 rfl 0 rfl ?_
  refine g_get C (a_98 ad cy _) rfl hin_X11 20 (by decide) hF_X11_116 rfl rfl dX11_readTune_118 ?_
  refine g_iconst (v := 2) C dX11_readTune_121 (by decide) ?_
  rcases oi_e hf with ⟨c1, hf⟩ | ⟨c1, hf⟩
  · refine g_icmp_ne_t (tgt := 129) C dX11_readTune_122 (by decide) c1 ?_
    refine g_iconst (v := 0) C dX11_readTune_129 (by decide) ?_
    exact g_sub [0, 1, 2] rfl (fX11_readTune_b130_ok C sf_25 hs_25 σ x1 x2 0 hf)
  · refine g_icmp_ne_f (tgt := 129) C dX11_readTune_122 (by decide) (Decidable.of_not_not c1) ?_
    refine g_iconst (v := 1) C dX11_readTune_125 (by decide) ?_
    refine g_goto (tgt := 130) C dX11_readTune_126 (by decide) ?_
    exact g_sub [0, 1, 2] rfl (fX11_readTune_b130_ok C sf_25 hs_25 σ x1 x2 1 hf)
def fX11_readTune_b111 (sf_25 : S0 → Int32 → Int32 → Int32 → Option (Int32 × S0)) (σ : S0) (x1 : Int32) (x2 : Int32) (t0 : Int32) : Option (Int32 × S0) := ol (su σ 98 14 t0) (fun σ1 => ol (x2 + 1) (fun v2 => fX11_readTune_b117 sf_25 σ1 x1 v2))
set_option maxHeartbeats 1000000 in
set_option maxRecDepth 100000 in
theorem fX11_readTune_b111_ok {p : Program} {l : Launch} {e : Env} {s : State} {m : MethodId} {args : Array Value} {below : List Frame} {meth : Method} {c : Code} {dC : Nat → ClassId} {dI : Nat → Nat → Nat} {ad : Nat → Nat} {cy : Nat → ClassId} {sz : Nat} (C : Cx p s m args meth c RX11 cX11_readTune 5 none dC dI ad cy sz) {rr : Int32} {ρ : S0} (sf_25 : S0 → Int32 → Int32 → Int32 → Option (Int32 × S0)) (hs_25 : ∀ (σ : S0) (x1 : Int32) (x2 : Int32) (x3 : Int32) , sf_25 σ x1 x2 x3 = some (rr, ρ) → Gw p l e rm_X11_readTune s m args below meth c (MQ below (QcV dC dI ad cy sz ρ) args s 0 0 (AW ad sz)) dC dI ad cy 5 sz 0 0 25 [(0, .ref (ad 98)), (1, .int x1), (2, .int x2), (3, .int x3)] [] σ) (σ : S0) (x1 : Int32) (x2 : Int32) (t0 : Int32)  (hf : fX11_readTune_b111 sf_25 σ x1 x2 t0 = some (rr, ρ)) : Gw p l e rm_X11_readTune s m args below meth c (MQ below (QcV dC dI ad cy sz ρ) args s 0 0 (AW ad sz)) dC dI ad cy 5 sz 0 0 111 [(0, .ref (ad 98)), (1, .int x1), (2, .int x2)] [.int t0, .ref (ad 98)] σ := by
  unfold fX11_readTune_b111 at hf
  obtain ⟨σ1, eσ1, hf⟩ := ol_e hf
  refine g_put (ty := .int) C (a_98 ad cy _) rfl hin_X11 tyX11 tyX11_ok nmX11 14 (by decide) hF_X11_69 rfl rfl (by decide +kernel) rfl rfl (Nat.le_of_ble_eq_true rfl) (p_98_14 ad cy _ _) eσ1 dX11_readTune_111 ?_
  obtain ⟨v2, ev2, hf⟩ := ol_e hf
  refine g_iinc (j := 2) (w := 1) (lv2 := [(0, .ref (ad 98)), (1, .int x1), (2, .int v2)]) C dX11_readTune_114 rfl (by decide) ev2 (by decide) [1, 2, 0] rfl ?_
  exact g_sub [0, 1, 2] rfl (fX11_readTune_b117_ok C sf_25 hs_25 σ1 x1 v2 hf)
def fX11_readTune_b56 (sf_25 : S0 → Int32 → Int32 → Int32 → Option (Int32 × S0)) (σ : S0) (x1 : Int32) (x2 : Int32) (t0 : Int32) : Option (Int32 × S0) := obp (fX11_needs σ t0 ((5 : Int32))) (fun r1 σ2 => obp (fX11_looked σ2 ((0 : Int32)) ((11 : Int32))) (fun r4 σ5 => obp (fX11_next σ5) (fun r7 σ8 => if ¬ (σ8 98 22) = 0 then (fX11_readTune_b117 sf_25 σ8 x1 x2) else (ol ((x1 + 2) + x2) (fun v11 => og (¬ (v11 < 0 ∨ 84 ≤ v11.toNatClampNeg)) (ol (su σ8 103 v11.toNatClampNeg r4) (fun σ13 => if r4 ≤ (σ13 98 14) then (fX11_readTune_b111 sf_25 σ13 x1 x2 (σ13 98 14)) else (fX11_readTune_b111 sf_25 σ13 x1 x2 r4))))))))
set_option maxHeartbeats 1000000 in
set_option maxRecDepth 100000 in
theorem fX11_readTune_b56_ok {p : Program} {l : Launch} {e : Env} {s : State} {m : MethodId} {args : Array Value} {below : List Frame} {meth : Method} {c : Code} {dC : Nat → ClassId} {dI : Nat → Nat → Nat} {ad : Nat → Nat} {cy : Nat → ClassId} {sz : Nat} (C : Cx p s m args meth c RX11 cX11_readTune 5 none dC dI ad cy sz) {rr : Int32} {ρ : S0} (sf_25 : S0 → Int32 → Int32 → Int32 → Option (Int32 × S0)) (hs_25 : ∀ (σ : S0) (x1 : Int32) (x2 : Int32) (x3 : Int32) , sf_25 σ x1 x2 x3 = some (rr, ρ) → Gw p l e rm_X11_readTune s m args below meth c (MQ below (QcV dC dI ad cy sz ρ) args s 0 0 (AW ad sz)) dC dI ad cy 5 sz 0 0 25 [(0, .ref (ad 98)), (1, .int x1), (2, .int x2), (3, .int x3)] [] σ) (σ : S0) (x1 : Int32) (x2 : Int32) (t0 : Int32)  (hf : fX11_readTune_b56 sf_25 σ x1 x2 t0 = some (rr, ρ)) : Gw p l e rm_X11_readTune s m args below meth c (MQ below (QcV dC dI ad cy sz ρ) args s 0 0 (AW ad sz)) dC dI ad cy 5 sz 0 0 56 [(0, .ref (ad 98)), (1, .int x1), (2, .int x2)] [.int t0, .ref (ad 98)] σ := by
  unfold fX11_readTune_b56 at hf
  refine g_iconst (v := 5) C dX11_readTune_56 (by decide) ?_
  obtain ⟨r1, σ2, h3, hf⟩ := obp_e hf
  refine g_callVv (As := [.int t0, .int 5]) (rest := []) C (a_98 ad cy _) rfl (c_X11_needs l dC dI ad cy t0 ((5 : Int32))) h3 hM_X11_130 cal_X11_needs ⟨Nat.zero_le _, Nat.zero_le _⟩ ⟨rfl, rfl⟩ ⟨Nat.le_of_ble_eq_true rfl, Nat.le_of_ble_eq_true rfl⟩ rfl rfl (Nat.le_of_ble_eq_true rfl) dX11_readTune_57 ?_
  refine g_aload_n C dX11_readTune_60 rfl 0 rfl ?_
  refine g_iconst (v := 0) C dX11_readTune_61 (by decide) ?_
  refine g_bipush (v := 11) C dX11_readTune_62 (by decide) ?_
  obtain ⟨r4, σ5, h6, hf⟩ := obp_e hf
  refine g_callVi (As := [.int 0, .int 11]) (rest := []) C (a_98 ad cy _) rfl (c_X11_looked l dC dI ad cy ((0 : Int32)) ((11 : Int32))) h6 hM_X11_134 cal_X11_looked ⟨Nat.zero_le _, Nat.zero_le _⟩ ⟨rfl, rfl⟩ ⟨Nat.le_of_ble_eq_true rfl, Nat.le_of_ble_eq_true rfl⟩ rfl rfl (Nat.le_of_ble_eq_true rfl) dX11_readTune_64 ?_
  refine g_istore (lv2 := [(0, .ref (ad 98)), (1, .int x1), (2, .int x2), (4, .int r4)]) C dX11_readTune_67 (by decide) [1, 2, 3, 0] rfl ?_
  refine g_aload_n C dX11_readTune_69 rfl 0 rfl ?_
  obtain ⟨r7, σ8, h9, hf⟩ := obp_e hf
  refine g_callVv (As := []) (rest := []) C (a_98 ad cy _) rfl (c_X11_next l dC dI ad cy ) h9 hM_X11_138 cal_X11_next ⟨Nat.zero_le _, Nat.zero_le _⟩ ⟨rfl, rfl⟩ ⟨Nat.le_of_ble_eq_true rfl, Nat.le_of_ble_eq_true rfl⟩ rfl rfl (Nat.le_of_ble_eq_true rfl) dX11_readTune_70 ?_
  refine g_aload_n C dX11_readTune_73 rfl 0 rfl ?_
  refine g_get C (a_98 ad cy _) rfl hin_X11 22 (by decide) hF_X11_96 rfl rfl dX11_readTune_74 ?_
  rcases oi_e hf with ⟨c10, hf⟩ | ⟨c10, hf⟩
  · refine g_if_ne_t (tgt := 117) C dX11_readTune_77 (by decide) c10 ?_
    exact g_sub [0, 1, 2] rfl (fX11_readTune_b117_ok C sf_25 hs_25 σ8 x1 x2 hf)
  · refine g_if_ne_f (tgt := 117) C dX11_readTune_77 (by decide) (Decidable.of_not_not c10) ?_
    refine g_aload_n C dX11_readTune_80 rfl 0 rfl ?_
    refine g_get C (a_98 ad cy _) rfl hin_X11 8 (by decide) hF_X11_23 rfl rfl dX11_readTune_81 ?_
    refine g_iload_n C dX11_readTune_84 rfl 1 rfl ?_
    refine g_iconst (v := 2) C dX11_readTune_85 (by decide) ?_
    refine g_iadd C dX11_readTune_86 ?_
    refine g_iload_n C dX11_readTune_87 rfl 2 rfl ?_
    refine g_iadd C dX11_readTune_88 ?_
    refine g_iload C dX11_readTune_89 3 rfl ?_
    obtain ⟨v11, ev11, hf⟩ := ol_e hf
    refine g_nm2 ev11 ?_
    obtain ⟨h12, hf⟩ := og_e hf
    obtain ⟨σ13, eσ13, hf⟩ := ol_e hf
    refine g_iast C (a_103 ad cy _) h12 (w_103 ad cy _) eσ13 dX11_readTune_91 ?_
    refine g_aload_n C dX11_readTune_92 rfl 0 rfl ?_
    refine g_iload C dX11_readTune_93 3 rfl ?_
    refine g_aload_n C dX11_readTune_95 rfl 0 rfl ?_
    refine g_get C (a_98 ad cy _) rfl hin_X11 14 (by decide) hF_X11_69 rfl rfl dX11_readTune_96 ?_
    rcases oi_e hf with ⟨c14, hf⟩ | ⟨c14, hf⟩
    · refine g_icmp_le_t (tgt := 107) C dX11_readTune_99 (by decide) c14 ?_
      refine g_aload_n C dX11_readTune_107 rfl 0 rfl ?_
      refine g_get C (a_98 ad cy _) rfl hin_X11 14 (by decide) hF_X11_69 rfl rfl dX11_readTune_108 ?_
      exact g_sub [0, 1, 2] rfl (fX11_readTune_b111_ok C sf_25 hs_25 σ13 x1 x2 (σ13 98 14) hf)
    · refine g_icmp_le_f (tgt := 107) C dX11_readTune_99 (by decide) c14 ?_
      refine g_iload C dX11_readTune_102 3 rfl ?_
      refine g_goto (tgt := 111) C dX11_readTune_104 (by decide) ?_
      exact g_sub [0, 1, 2] rfl (fX11_readTune_b111_ok C sf_25 hs_25 σ13 x1 x2 r4 hf)
def fX11_readTune_b51 (sf_25 : S0 → Int32 → Int32 → Int32 → Option (Int32 × S0)) (σ : S0) (x1 : Int32) (x2 : Int32) : Option (Int32 × S0) := fX11_readTune_b56 sf_25 σ x1 x2 1
set_option maxHeartbeats 1000000 in
set_option maxRecDepth 100000 in
theorem fX11_readTune_b51_ok {p : Program} {l : Launch} {e : Env} {s : State} {m : MethodId} {args : Array Value} {below : List Frame} {meth : Method} {c : Code} {dC : Nat → ClassId} {dI : Nat → Nat → Nat} {ad : Nat → Nat} {cy : Nat → ClassId} {sz : Nat} (C : Cx p s m args meth c RX11 cX11_readTune 5 none dC dI ad cy sz) {rr : Int32} {ρ : S0} (sf_25 : S0 → Int32 → Int32 → Int32 → Option (Int32 × S0)) (hs_25 : ∀ (σ : S0) (x1 : Int32) (x2 : Int32) (x3 : Int32) , sf_25 σ x1 x2 x3 = some (rr, ρ) → Gw p l e rm_X11_readTune s m args below meth c (MQ below (QcV dC dI ad cy sz ρ) args s 0 0 (AW ad sz)) dC dI ad cy 5 sz 0 0 25 [(0, .ref (ad 98)), (1, .int x1), (2, .int x2), (3, .int x3)] [] σ) (σ : S0) (x1 : Int32) (x2 : Int32)  (hf : fX11_readTune_b51 sf_25 σ x1 x2 = some (rr, ρ)) : Gw p l e rm_X11_readTune s m args below meth c (MQ below (QcV dC dI ad cy sz ρ) args s 0 0 (AW ad sz)) dC dI ad cy 5 sz 0 0 51 [(0, .ref (ad 98)), (1, .int x1), (2, .int x2)] [.ref (ad 98)] σ := by
  unfold fX11_readTune_b51 at hf
  refine g_iconst (v := 1) C dX11_readTune_51 (by decide) ?_
  refine g_goto (tgt := 56) C dX11_readTune_52 (by decide) ?_
  exact g_sub [0, 1, 2] rfl (fX11_readTune_b56_ok C sf_25 hs_25 σ x1 x2 1 hf)
def fX11_readTune_b134  (σ : S0) (x1 : Int32) (x2 : Int32) : Option (Int32 × S0) := ol (x1 + 1) (fun v1 => og (¬ (v1 < 0 ∨ 84 ≤ v1.toNatClampNeg)) (ol (su σ 103 v1.toNatClampNeg x2) (fun σ3 => ol ((σ3 98 12) + 1) (fun v4 => ol (su σ3 98 12 v4) (fun σ5 => some (0, σ5))))))
set_option maxHeartbeats 1000000 in
set_option maxRecDepth 100000 in
theorem fX11_readTune_b134_ok {p : Program} {l : Launch} {e : Env} {s : State} {m : MethodId} {args : Array Value} {below : List Frame} {meth : Method} {c : Code} {dC : Nat → ClassId} {dI : Nat → Nat → Nat} {ad : Nat → Nat} {cy : Nat → ClassId} {sz : Nat} (C : Cx p s m args meth c RX11 cX11_readTune 5 none dC dI ad cy sz) {rr : Int32} {ρ : S0}  (σ : S0) (x1 : Int32) (x2 : Int32)  (hf : fX11_readTune_b134 σ x1 x2 = some (rr, ρ)) : Gw p l e rm_X11_readTune s m args below meth c (MQ below (QcV dC dI ad cy sz ρ) args s 0 0 (AW ad sz)) dC dI ad cy 5 sz 0 0 134 [(0, .ref (ad 98)), (1, .int x1), (2, .int x2)] [] σ := by
  unfold fX11_readTune_b134 at hf
  refine g_aload_n C dX11_readTune_134 rfl 0 rfl ?_
  refine g_get C (a_98 ad cy _) rfl hin_X11 8 (by decide) hF_X11_23 rfl rfl dX11_readTune_135 ?_
  refine g_iload_n C dX11_readTune_138 rfl 1 rfl ?_
  refine g_iconst (v := 1) C dX11_readTune_139 (by decide) ?_
  refine g_iadd C dX11_readTune_140 ?_
  refine g_iload_n C dX11_readTune_141 rfl 2 rfl ?_
  obtain ⟨v1, ev1, hf⟩ := ol_e hf
  refine g_nm2 ev1 ?_
  obtain ⟨h2, hf⟩ := og_e hf
  obtain ⟨σ3, eσ3, hf⟩ := ol_e hf
  refine g_iast C (a_103 ad cy _) h2 (w_103 ad cy _) eσ3 dX11_readTune_142 ?_
  refine g_aload_n C dX11_readTune_143 rfl 0 rfl ?_
  refine g_dup C dX11_readTune_144 rfl ?_
  refine g_get C (a_98 ad cy _) rfl hin_X11 12 (by decide) hF_X11_63 rfl rfl dX11_readTune_145 ?_
  refine g_iconst (v := 1) C dX11_readTune_148 (by decide) ?_
  refine g_iadd C dX11_readTune_149 ?_
  obtain ⟨v4, ev4, hf⟩ := ol_e hf
  refine g_nm ev4 ?_
  obtain ⟨σ5, eσ5, hf⟩ := ol_e hf
  refine g_put (ty := .int) C (a_98 ad cy _) rfl hin_X11 tyX11 tyX11_ok nmX11 12 (by decide) hF_X11_63 rfl rfl (by decide +kernel) rfl rfl (Nat.le_of_ble_eq_true rfl) (p_98_12 ad cy _ _) eσ5 dX11_readTune_150 ?_
  obtain ⟨rfl, rfl⟩ := os_e hf
  exact g_vret C rfl dX11_readTune_153
def fX11_readTune_b25 (sf_25 : S0 → Int32 → Int32 → Int32 → Option (Int32 × S0)) (σ : S0) (x1 : Int32) (x2 : Int32) (x3 : Int32) : Option (Int32 × S0) := if ¬ (σ 98 22) = 0 then (fX11_readTune_b134 σ x1 x2) else (if x3 = 0 then (fX11_readTune_b134 σ x1 x2) else (if ¬ (σ 98 20) = 2 then (fX11_readTune_b51 sf_25 σ x1 x2) else (if (12 : Int32) ≤ x2 then (fX11_readTune_b56 sf_25 σ x1 x2 0) else (fX11_readTune_b51 sf_25 σ x1 x2))))
set_option maxHeartbeats 1000000 in
set_option maxRecDepth 100000 in
theorem fX11_readTune_b25_ok {p : Program} {l : Launch} {e : Env} {s : State} {m : MethodId} {args : Array Value} {below : List Frame} {meth : Method} {c : Code} {dC : Nat → ClassId} {dI : Nat → Nat → Nat} {ad : Nat → Nat} {cy : Nat → ClassId} {sz : Nat} (C : Cx p s m args meth c RX11 cX11_readTune 5 none dC dI ad cy sz) {rr : Int32} {ρ : S0} (sf_25 : S0 → Int32 → Int32 → Int32 → Option (Int32 × S0)) (hs_25 : ∀ (σ : S0) (x1 : Int32) (x2 : Int32) (x3 : Int32) , sf_25 σ x1 x2 x3 = some (rr, ρ) → Gw p l e rm_X11_readTune s m args below meth c (MQ below (QcV dC dI ad cy sz ρ) args s 0 0 (AW ad sz)) dC dI ad cy 5 sz 0 0 25 [(0, .ref (ad 98)), (1, .int x1), (2, .int x2), (3, .int x3)] [] σ) (σ : S0) (x1 : Int32) (x2 : Int32) (x3 : Int32)  (hf : fX11_readTune_b25 sf_25 σ x1 x2 x3 = some (rr, ρ)) : Gw p l e rm_X11_readTune s m args below meth c (MQ below (QcV dC dI ad cy sz ρ) args s 0 0 (AW ad sz)) dC dI ad cy 5 sz 0 0 25 [(0, .ref (ad 98)), (1, .int x1), (2, .int x2), (3, .int x3)] [] σ := by
  unfold fX11_readTune_b25 at hf
  refine g_aload_n C dX11_readTune_25 rfl 0 rfl ?_
  refine g_get C (a_98 ad cy _) rfl hin_X11 22 (by decide) hF_X11_96 rfl rfl dX11_readTune_26 ?_
  rcases oi_e hf with ⟨c1, hf⟩ | ⟨c1, hf⟩
  · refine g_if_ne_t (tgt := 134) C dX11_readTune_29 (by decide) c1 ?_
    exact g_sub [0, 1, 2] rfl (fX11_readTune_b134_ok C σ x1 x2 hf)
  · refine g_if_ne_f (tgt := 134) C dX11_readTune_29 (by decide) (Decidable.of_not_not c1) ?_
    refine g_iload_n C dX11_readTune_32 rfl 3 rfl ?_
    rcases oi_e hf with ⟨c2, hf⟩ | ⟨c2, hf⟩
    · refine g_if_eq_t (tgt := 134) C dX11_readTune_33 (by decide) c2 ?_
      exact g_sub [0, 1, 2] rfl (fX11_readTune_b134_ok C σ x1 x2 hf)
    · refine g_if_eq_f (tgt := 134) C dX11_readTune_33 (by decide) c2 ?_
      refine g_aload_n C dX11_readTune_36 rfl 0 rfl ?_
      refine g_aload_n C dX11_readTune_37 rfl 0 rfl ?_
      refine g_get C (a_98 ad cy _) rfl hin_X11 20 (by decide) hF_X11_116 rfl rfl dX11_readTune_38 ?_
      refine g_iconst (v := 2) C dX11_readTune_41 (by decide) ?_
      rcases oi_e hf with ⟨c3, hf⟩ | ⟨c3, hf⟩
      · refine g_icmp_ne_t (tgt := 51) C dX11_readTune_42 (by decide) c3 ?_
        exact g_sub [0, 1, 2] rfl (fX11_readTune_b51_ok C sf_25 hs_25 σ x1 x2 hf)
      · refine g_icmp_ne_f (tgt := 51) C dX11_readTune_42 (by decide) (Decidable.of_not_not c3) ?_
        refine g_iload_n C dX11_readTune_45 rfl 2 rfl ?_
        refine g_bipush (v := 12) C dX11_readTune_46 (by decide) ?_
        rcases oi_e hf with ⟨c4, hf⟩ | ⟨c4, hf⟩
        · refine g_icmp_ge_t (tgt := 55) C dX11_readTune_48 (by decide) c4 ?_
          refine g_iconst (v := 0) C dX11_readTune_55 (by decide) ?_
          exact g_sub [0, 1, 2] rfl (fX11_readTune_b56_ok C sf_25 hs_25 σ x1 x2 0 hf)
        · refine g_icmp_ge_f (tgt := 55) C dX11_readTune_48 (by decide) c4 ?_
          exact g_sub [0, 1, 2] rfl (fX11_readTune_b51_ok C sf_25 hs_25 σ x1 x2 hf)
def fX11_readTune_h25  : Nat → S0 → Int32 → Int32 → Int32 → Option (Int32 × S0)
  | 0 => fun _ _ _ _ => none
  | n + 1 => fun σ x1 x2 x3 => fX11_readTune_b25  (fX11_readTune_h25  n) σ x1 x2 x3
set_option maxHeartbeats 1000000 in
set_option maxRecDepth 100000 in
theorem fX11_readTune_h25_ok {p : Program} {l : Launch} {e : Env} {s : State} {m : MethodId} {args : Array Value} {below : List Frame} {meth : Method} {c : Code} {dC : Nat → ClassId} {dI : Nat → Nat → Nat} {ad : Nat → Nat} {cy : Nat → ClassId} {sz : Nat} (C : Cx p s m args meth c RX11 cX11_readTune 5 none dC dI ad cy sz) {rr : Int32} {ρ : S0}  : ∀ (n : Nat) (σ : S0) (x1 : Int32) (x2 : Int32) (x3 : Int32)  (_hf : fX11_readTune_h25  n σ x1 x2 x3 = some (rr, ρ)), Gw p l e rm_X11_readTune s m args below meth c (MQ below (QcV dC dI ad cy sz ρ) args s 0 0 (AW ad sz)) dC dI ad cy 5 sz 0 0 25 [(0, .ref (ad 98)), (1, .int x1), (2, .int x2), (3, .int x3)] [] σ
  | 0, _, _, _, _, hf => by cases hf
  | n + 1, σ, x1, x2, x3, hf => fX11_readTune_b25_ok C  (fX11_readTune_h25  n) (fX11_readTune_h25_ok C  n) σ x1 x2 x3 hf
def fX11_readTune (σ : S0)  : Option (Int32 × S0) := ol (14 * (σ 98 12)) (fun v1 => obp (fX11_readNumber σ ((0 : Int32)) ((99 : Int32))) (fun r2 σ3 => og (¬ (v1 < 0 ∨ 84 ≤ v1.toNatClampNeg)) (ol (su σ3 103 v1.toNatClampNeg r2) (fun σ6 => fX11_readTune_h25 400 σ6 v1 0 1))))
set_option maxHeartbeats 1000000 in
set_option maxRecDepth 100000 in
theorem fX11_readTune_ok {p : Program} {l : Launch} {e : Env} {s : State} {m : MethodId} {args : Array Value} {below : List Frame} {meth : Method} {c : Code} {dC : Nat → ClassId} {dI : Nat → Nat → Nat} {ad : Nat → Nat} {cy : Nat → ClassId} {sz : Nat} (C : Cx p s m args meth c RX11 cX11_readTune 5 none dC dI ad cy sz) {rr : Int32} {ρ : S0} (σ : S0)   (hf : fX11_readTune σ = some (rr, ρ)) : Gw p l e rm_X11_readTune s m args below meth c (MQ below (QcV dC dI ad cy sz ρ) args s 0 0 (AW ad sz)) dC dI ad cy 5 sz 0 0 0 [(0, .ref (ad 98))] [] σ := by
  unfold fX11_readTune at hf
  refine g_bipush (v := 14) C dX11_readTune_0 (by decide) ?_
  refine g_aload_n C dX11_readTune_2 rfl 0 rfl ?_
  refine g_get C (a_98 ad cy _) rfl hin_X11 12 (by decide) hF_X11_63 rfl rfl dX11_readTune_3 ?_
  refine g_imul C dX11_readTune_6 ?_
  obtain ⟨v1, ev1, hf⟩ := ol_e hf
  refine g_nm ev1 ?_
  refine g_istore_n (lv2 := [(0, .ref (ad 98)), (1, .int v1)]) C dX11_readTune_7 rfl (by decide) [1, 0] rfl ?_
  refine g_aload_n C dX11_readTune_8 rfl 0 rfl ?_
  refine g_get C (a_98 ad cy _) rfl hin_X11 8 (by decide) hF_X11_23 rfl rfl dX11_readTune_9 ?_
  refine g_iload_n C dX11_readTune_12 rfl 1 rfl ?_
  refine g_aload_n C dX11_readTune_13 rfl 0 rfl ?_
  refine g_iconst (v := 0) C dX11_readTune_14 (by decide) ?_
  refine g_bipush (v := 99) C dX11_readTune_15 (by decide) ?_
  obtain ⟨r2, σ3, h4, hf⟩ := obp_e hf
  refine g_callVi (As := [.int 0, .int 99]) (rest := [.int v1, .ref (ad 103)]) C (a_98 ad cy _) rfl (c_X11_readNumber l dC dI ad cy ((0 : Int32)) ((99 : Int32))) h4 hM_X11_144 cal_X11_readNumber ⟨Nat.zero_le _, Nat.zero_le _⟩ ⟨rfl, rfl⟩ ⟨Nat.le_of_ble_eq_true rfl, Nat.le_of_ble_eq_true rfl⟩ rfl rfl (Nat.le_of_ble_eq_true rfl) dX11_readTune_17 ?_
  obtain ⟨h5, hf⟩ := og_e hf
  obtain ⟨σ6, eσ6, hf⟩ := ol_e hf
  refine g_iast C (a_103 ad cy _) h5 (w_103 ad cy _) eσ6 dX11_readTune_20 ?_
  refine g_iconst (v := 0) C dX11_readTune_21 (by decide) ?_
  refine g_istore_n (lv2 := [(0, .ref (ad 98)), (1, .int v1), (2, .int 0)]) C dX11_readTune_22 rfl (by decide) [1, 2, 0] rfl ?_
  refine g_iconst (v := 1) C dX11_readTune_23 (by decide) ?_
  refine g_istore_n (lv2 := [(0, .ref (ad 98)), (1, .int v1), (2, .int 0), (3, .int 1)]) C dX11_readTune_24 rfl (by decide) [1, 2, 3, 0] rfl ?_
  exact g_sub [0, 1, 2, 3] rfl (fX11_readTune_h25_ok C 400 σ6 v1 0 1 hf)
theorem c_X11_readTune (l : Launch) (dC : Nat → ClassId) (dI : Nat → Nat → Nat) (ad : Nat → Nat) (cy : Nat → ClassId)  : ConV l yX11_readTune cX11_readTune 5 none rm_X11_readTune dC dI ad cy [.ref (ad 98)] (fun σ => fX11_readTune σ) := con_v (own := RX11) (by decide) rfl (Nat.le_of_ble_eq_true rfl) (fun _ _ _ _ _ _ _ _ σ _ _ C hf => fX11_readTune_ok C σ  hf)
theorem cal_X11_readTune : CalV yX11_readTune RX11 cX11_readTune 5 none 0 := ⟨hI_X11_readTune, hS_X11_readTune, hIni_X11, hC_X11_readTune, by decide +kernel⟩
abbrev rm_X11_readFeud : Room := { frames := 3, cells := 0, slots := 0, locals := 69 }
def fX11_readFeud (σ : S0)  : Option (Int32 × S0) := obp (fX11_readHouse σ (((-4) : Int32))) (fun r1 σ2 => obp (fX11_readHouse σ2 r1) (fun r4 σ5 => if ¬ (σ5 98 22) = 0 then (some (0, σ5)) else (ol (60 + r1) (fun v8 => og (¬ (v8 < 0 ∨ 80 ≤ v8.toNatClampNeg)) (ol (σ5 102 v8.toNatClampNeg) (fun v10 => ol (v10 ||| ((1 : Int32) <<< (r4 &&& 31))) (fun v11 => og (¬ (v8 < 0 ∨ 80 ≤ v8.toNatClampNeg)) (ol (su σ5 102 v8.toNatClampNeg v11) (fun σ13 => ol (60 + r4) (fun v14 => og (¬ (v14 < 0 ∨ 80 ≤ v14.toNatClampNeg)) (ol (σ13 102 v14.toNatClampNeg) (fun v16 => ol (v16 ||| ((1 : Int32) <<< (r1 &&& 31))) (fun v17 => og (¬ (v14 < 0 ∨ 80 ≤ v14.toNatClampNeg)) (ol (su σ13 102 v14.toNatClampNeg v17) (fun σ19 => some (0, σ19))))))))))))))))
set_option maxHeartbeats 1000000 in
set_option maxRecDepth 100000 in
theorem fX11_readFeud_ok {p : Program} {l : Launch} {e : Env} {s : State} {m : MethodId} {args : Array Value} {below : List Frame} {meth : Method} {c : Code} {dC : Nat → ClassId} {dI : Nat → Nat → Nat} {ad : Nat → Nat} {cy : Nat → ClassId} {sz : Nat} (C : Cx p s m args meth c RX11 cX11_readFeud 3 none dC dI ad cy sz) {rr : Int32} {ρ : S0} (σ : S0)   (hf : fX11_readFeud σ = some (rr, ρ)) : Gw p l e rm_X11_readFeud s m args below meth c (MQ below (QcV dC dI ad cy sz ρ) args s 0 0 (AW ad sz)) dC dI ad cy 3 sz 0 0 0 [(0, .ref (ad 98))] [] σ := by
  unfold fX11_readFeud at hf
  refine g_aload_n C dX11_readFeud_0 rfl 0 rfl ?_
  refine g_bipush (v := (-4)) C dX11_readFeud_1 (by decide) ?_
  obtain ⟨r1, σ2, h3, hf⟩ := obp_e hf
  refine g_callVi (As := [.int ((-4))]) (rest := []) C (a_98 ad cy _) rfl (c_X11_readHouse l dC dI ad cy (((-4) : Int32))) h3 hM_X11_141 cal_X11_readHouse ⟨Nat.zero_le _, Nat.zero_le _⟩ ⟨rfl, rfl⟩ ⟨Nat.le_of_ble_eq_true rfl, Nat.le_of_ble_eq_true rfl⟩ rfl rfl (Nat.le_of_ble_eq_true rfl) dX11_readFeud_3 ?_
  refine g_istore_n (lv2 := [(0, .ref (ad 98)), (1, .int r1)]) C dX11_readFeud_6 rfl (by decide) [1, 0] rfl ?_
  refine g_aload_n C dX11_readFeud_7 rfl 0 rfl ?_
  refine g_iload_n C dX11_readFeud_8 rfl 1 rfl ?_
  obtain ⟨r4, σ5, h6, hf⟩ := obp_e hf
  refine g_callVi (As := [.int r1]) (rest := []) C (a_98 ad cy _) rfl (c_X11_readHouse l dC dI ad cy r1) h6 hM_X11_141 cal_X11_readHouse ⟨Nat.zero_le _, Nat.zero_le _⟩ ⟨rfl, rfl⟩ ⟨Nat.le_of_ble_eq_true rfl, Nat.le_of_ble_eq_true rfl⟩ rfl rfl (Nat.le_of_ble_eq_true rfl) dX11_readFeud_9 ?_
  refine g_istore_n (lv2 := [(0, .ref (ad 98)), (1, .int r1), (2, .int r4)]) C dX11_readFeud_12 rfl (by decide) [1, 2, 0] rfl ?_
  refine g_aload_n C dX11_readFeud_13 rfl 0 rfl ?_
  refine g_get C (a_98 ad cy _) rfl hin_X11 22 (by decide) hF_X11_96 rfl rfl dX11_readFeud_14 ?_
  rcases oi_e hf with ⟨c7, hf⟩ | ⟨c7, hf⟩
  · refine g_if_ne_t (tgt := 50) C dX11_readFeud_17 (by decide) c7 ?_
    obtain ⟨rfl, rfl⟩ := os_e hf
    exact g_vret C rfl dX11_readFeud_50
  · refine g_if_ne_f (tgt := 50) C dX11_readFeud_17 (by decide) (Decidable.of_not_not c7) ?_
    refine g_aload_n C dX11_readFeud_20 rfl 0 rfl ?_
    refine g_get C (a_98 ad cy _) rfl hin_X11 7 (by decide) hF_X11_20 rfl rfl dX11_readFeud_21 ?_
    refine g_bipush (v := 60) C dX11_readFeud_24 (by decide) ?_
    refine g_iload_n C dX11_readFeud_26 rfl 1 rfl ?_
    refine g_iadd C dX11_readFeud_27 ?_
    obtain ⟨v8, ev8, hf⟩ := ol_e hf
    refine g_nm ev8 ?_
    refine g_dup2 C dX11_readFeud_28 rfl rfl ?_
    obtain ⟨h9, hf⟩ := og_e hf
    refine g_iald C (a_102 ad cy _) h9 dX11_readFeud_29 ?_
    obtain ⟨v10, ev10, hf⟩ := ol_e hf
    refine g_nm ev10 ?_
    refine g_iconst (v := 1) C dX11_readFeud_30 (by decide) ?_
    refine g_iload_n C dX11_readFeud_31 rfl 2 rfl ?_
    refine g_ishl C dX11_readFeud_32 ?_
    refine g_ior C dX11_readFeud_33 ?_
    obtain ⟨v11, ev11, hf⟩ := ol_e hf
    refine g_nm ev11 ?_
    obtain ⟨h12, hf⟩ := og_e hf
    obtain ⟨σ13, eσ13, hf⟩ := ol_e hf
    refine g_iast C (a_102 ad cy _) h12 (w_102 ad cy _) eσ13 dX11_readFeud_34 ?_
    refine g_aload_n C dX11_readFeud_35 rfl 0 rfl ?_
    refine g_get C (a_98 ad cy _) rfl hin_X11 7 (by decide) hF_X11_20 rfl rfl dX11_readFeud_36 ?_
    refine g_bipush (v := 60) C dX11_readFeud_39 (by decide) ?_
    refine g_iload_n C dX11_readFeud_41 rfl 2 rfl ?_
    refine g_iadd C dX11_readFeud_42 ?_
    obtain ⟨v14, ev14, hf⟩ := ol_e hf
    refine g_nm ev14 ?_
    refine g_dup2 C dX11_readFeud_43 rfl rfl ?_
    obtain ⟨h15, hf⟩ := og_e hf
    refine g_iald C (a_102 ad cy _) h15 dX11_readFeud_44 ?_
    obtain ⟨v16, ev16, hf⟩ := ol_e hf
    refine g_nm ev16 ?_
    refine g_iconst (v := 1) C dX11_readFeud_45 (by decide) ?_
    refine g_iload_n C dX11_readFeud_46 rfl 1 rfl ?_
    refine g_ishl C dX11_readFeud_47 ?_
    refine g_ior C dX11_readFeud_48 ?_
    obtain ⟨v17, ev17, hf⟩ := ol_e hf
    refine g_nm ev17 ?_
    obtain ⟨h18, hf⟩ := og_e hf
    obtain ⟨σ19, eσ19, hf⟩ := ol_e hf
    refine g_iast C (a_102 ad cy _) h18 (w_102 ad cy _) eσ19 dX11_readFeud_49 ?_
    obtain ⟨rfl, rfl⟩ := os_e hf
    exact g_vret C rfl dX11_readFeud_50
theorem c_X11_readFeud (l : Launch) (dC : Nat → ClassId) (dI : Nat → Nat → Nat) (ad : Nat → Nat) (cy : Nat → ClassId)  : ConV l yX11_readFeud cX11_readFeud 3 none rm_X11_readFeud dC dI ad cy [.ref (ad 98)] (fun σ => fX11_readFeud σ) := con_v (own := RX11) (by decide) rfl (Nat.le_of_ble_eq_true rfl) (fun _ _ _ _ _ _ _ _ σ _ _ C hf => fX11_readFeud_ok C σ  hf)
theorem cal_X11_readFeud : CalV yX11_readFeud RX11 cX11_readFeud 3 none 0 := ⟨hI_X11_readFeud, hS_X11_readFeud, hIni_X11, hC_X11_readFeud, by decide +kernel⟩
abbrev rm_X11_readLine : Room := { frames := 4, cells := 0, slots := 0, locals := 94 }
def fX11_readLine_b231  (σ : S0)  : Option (Int32 × S0) := obp (fX11_next σ) (fun r1 σ2 => some (0, σ2))
set_option maxHeartbeats 1000000 in
set_option maxRecDepth 100000 in
theorem fX11_readLine_b231_ok {p : Program} {l : Launch} {e : Env} {s : State} {m : MethodId} {args : Array Value} {below : List Frame} {meth : Method} {c : Code} {dC : Nat → ClassId} {dI : Nat → Nat → Nat} {ad : Nat → Nat} {cy : Nat → ClassId} {sz : Nat} (C : Cx p s m args meth c RX11 cX11_readLine 2 none dC dI ad cy sz) {rr : Int32} {ρ : S0}  (σ : S0)   (hf : fX11_readLine_b231 σ = some (rr, ρ)) : Gw p l e rm_X11_readLine s m args below meth c (MQ below (QcV dC dI ad cy sz ρ) args s 0 0 (AW ad sz)) dC dI ad cy 2 sz 0 0 231 [(0, .ref (ad 98))] [] σ := by
  unfold fX11_readLine_b231 at hf
  refine g_aload_n C dX11_readLine_231 rfl 0 rfl ?_
  obtain ⟨r1, σ2, h3, hf⟩ := obp_e hf
  refine g_callVv (As := []) (rest := []) C (a_98 ad cy _) rfl (c_X11_next l dC dI ad cy ) h3 hM_X11_138 cal_X11_next ⟨Nat.zero_le _, Nat.zero_le _⟩ ⟨rfl, rfl⟩ ⟨Nat.le_of_ble_eq_true rfl, Nat.le_of_ble_eq_true rfl⟩ rfl rfl (Nat.le_of_ble_eq_true rfl) dX11_readLine_232 ?_
  obtain ⟨rfl, rfl⟩ := os_e hf
  exact g_vret C rfl dX11_readLine_235
def fX11_readLine_b227  (σ : S0) (t0 : Int32) : Option (Int32 × S0) := obp (fX11_needs σ t0 ((2 : Int32))) (fun r1 σ2 => fX11_readLine_b231 σ2)
set_option maxHeartbeats 1000000 in
set_option maxRecDepth 100000 in
theorem fX11_readLine_b227_ok {p : Program} {l : Launch} {e : Env} {s : State} {m : MethodId} {args : Array Value} {below : List Frame} {meth : Method} {c : Code} {dC : Nat → ClassId} {dI : Nat → Nat → Nat} {ad : Nat → Nat} {cy : Nat → ClassId} {sz : Nat} (C : Cx p s m args meth c RX11 cX11_readLine 2 none dC dI ad cy sz) {rr : Int32} {ρ : S0}  (σ : S0) (t0 : Int32)  (hf : fX11_readLine_b227 σ t0 = some (rr, ρ)) : Gw p l e rm_X11_readLine s m args below meth c (MQ below (QcV dC dI ad cy sz ρ) args s 0 0 (AW ad sz)) dC dI ad cy 2 sz 0 0 227 [(0, .ref (ad 98))] [.int t0, .ref (ad 98)] σ := by
  unfold fX11_readLine_b227 at hf
  refine g_iconst (v := 2) C dX11_readLine_227 (by decide) ?_
  obtain ⟨r1, σ2, h3, hf⟩ := obp_e hf
  refine g_callVv (As := [.int t0, .int 2]) (rest := []) C (a_98 ad cy _) rfl (c_X11_needs l dC dI ad cy t0 ((2 : Int32))) h3 hM_X11_130 cal_X11_needs ⟨Nat.zero_le _, Nat.zero_le _⟩ ⟨rfl, rfl⟩ ⟨Nat.le_of_ble_eq_true rfl, Nat.le_of_ble_eq_true rfl⟩ rfl rfl (Nat.le_of_ble_eq_true rfl) dX11_readLine_228 ?_
  exact g_sub [0] rfl (fX11_readLine_b231_ok C σ2 hf)
def fX11_readLine_b206  (σ : S0)  : Option (Int32 × S0) := if ¬ (σ 98 22) = 0 then (fX11_readLine_b231 σ) else (if ¬ (σ 98 20) = 3 then (fX11_readLine_b227 σ 0) else (fX11_readLine_b227 σ 1))
set_option maxHeartbeats 1000000 in
set_option maxRecDepth 100000 in
theorem fX11_readLine_b206_ok {p : Program} {l : Launch} {e : Env} {s : State} {m : MethodId} {args : Array Value} {below : List Frame} {meth : Method} {c : Code} {dC : Nat → ClassId} {dI : Nat → Nat → Nat} {ad : Nat → Nat} {cy : Nat → ClassId} {sz : Nat} (C : Cx p s m args meth c RX11 cX11_readLine 2 none dC dI ad cy sz) {rr : Int32} {ρ : S0}  (σ : S0)   (hf : fX11_readLine_b206 σ = some (rr, ρ)) : Gw p l e rm_X11_readLine s m args below meth c (MQ below (QcV dC dI ad cy sz ρ) args s 0 0 (AW ad sz)) dC dI ad cy 2 sz 0 0 206 [(0, .ref (ad 98))] [] σ := by
  unfold fX11_readLine_b206 at hf
  refine g_aload_n C dX11_readLine_206 rfl 0 rfl ?_
  refine g_get C (a_98 ad cy _) rfl hin_X11 22 (by decide) hF_X11_96 rfl rfl dX11_readLine_207 ?_
  rcases oi_e hf with ⟨c1, hf⟩ | ⟨c1, hf⟩
  · refine g_if_ne_t (tgt := 231) C dX11_readLine_210 (by decide) c1 ?_
    exact g_sub [0] rfl (fX11_readLine_b231_ok C σ hf)
  · refine g_if_ne_f (tgt := 231) C dX11_readLine_210 (by decide) (Decidable.of_not_not c1) ?_
    refine g_aload_n C dX11_readLine_213 rfl 0 rfl ?_
    refine g_aload_n C dX11_readLine_214 rfl 0 rfl ?_
    refine g_get C (a_98 ad cy _) rfl hin_X11 20 (by decide) hF_X11_116 rfl rfl dX11_readLine_215 ?_
    refine g_iconst (v := 3) C dX11_readLine_218 (by decide) ?_
    rcases oi_e hf with ⟨c2, hf⟩ | ⟨c2, hf⟩
    · refine g_icmp_ne_t (tgt := 226) C dX11_readLine_219 (by decide) c2 ?_
      refine g_iconst (v := 0) C dX11_readLine_226 (by decide) ?_
      exact g_sub [0] rfl (fX11_readLine_b227_ok C σ 0 hf)
    · refine g_icmp_ne_f (tgt := 226) C dX11_readLine_219 (by decide) (Decidable.of_not_not c2) ?_
      refine g_iconst (v := 1) C dX11_readLine_222 (by decide) ?_
      refine g_goto (tgt := 227) C dX11_readLine_223 (by decide) ?_
      exact g_sub [0] rfl (fX11_readLine_b227_ok C σ 1 hf)
def fX11_readLine_b117  (σ : S0) (x1 : Int32) : Option (Int32 × S0) := obp (fX11_next σ) (fun r1 σ2 => if (σ2 98 22) ≤ 0 then (if x1.toInt < 0 ∨ 3 < x1.toInt then (obp (fX11_readFeud σ2) (fun r6 σ7 => fX11_readLine_b206 σ7)) else if x1 = 0 then (obp (fX11_readNumber σ2 ((1 : Int32)) ((6 : Int32))) (fun r10 σ11 => ol (su σ11 98 9 r10) (fun σ13 => fX11_readLine_b206 σ13))) else if x1 = 1 then (obp (fX11_readNumber σ2 ((0 : Int32)) ((9 : Int32))) (fun r15 σ16 => ol (su σ16 98 10 r15) (fun σ18 => fX11_readLine_b206 σ18))) else if x1 = 2 then (obp (fX11_readBell σ2) (fun r20 σ21 => fX11_readLine_b206 σ21)) else if x1 = 3 then (obp (fX11_readTune σ2) (fun r24 σ25 => fX11_readLine_b206 σ25)) else none) else (some (0, σ2)))
set_option maxHeartbeats 1000000 in
set_option maxRecDepth 100000 in
theorem fX11_readLine_b117_ok {p : Program} {l : Launch} {e : Env} {s : State} {m : MethodId} {args : Array Value} {below : List Frame} {meth : Method} {c : Code} {dC : Nat → ClassId} {dI : Nat → Nat → Nat} {ad : Nat → Nat} {cy : Nat → ClassId} {sz : Nat} (C : Cx p s m args meth c RX11 cX11_readLine 2 none dC dI ad cy sz) {rr : Int32} {ρ : S0}  (σ : S0) (x1 : Int32)  (hf : fX11_readLine_b117 σ x1 = some (rr, ρ)) : Gw p l e rm_X11_readLine s m args below meth c (MQ below (QcV dC dI ad cy sz ρ) args s 0 0 (AW ad sz)) dC dI ad cy 2 sz 0 0 117 [(0, .ref (ad 98)), (1, .int x1)] [] σ := by
  unfold fX11_readLine_b117 at hf
  refine g_aload_n C dX11_readLine_117 rfl 0 rfl ?_
  obtain ⟨r1, σ2, h3, hf⟩ := obp_e hf
  refine g_callVv (As := []) (rest := []) C (a_98 ad cy _) rfl (c_X11_next l dC dI ad cy ) h3 hM_X11_138 cal_X11_next ⟨Nat.zero_le _, Nat.zero_le _⟩ ⟨rfl, rfl⟩ ⟨Nat.le_of_ble_eq_true rfl, Nat.le_of_ble_eq_true rfl⟩ rfl rfl (Nat.le_of_ble_eq_true rfl) dX11_readLine_118 ?_
  refine g_aload_n C dX11_readLine_121 rfl 0 rfl ?_
  refine g_get C (a_98 ad cy _) rfl hin_X11 22 (by decide) hF_X11_96 rfl rfl dX11_readLine_122 ?_
  rcases oi_e hf with ⟨c4, hf⟩ | ⟨c4, hf⟩
  · refine g_if_le_t (tgt := 129) C dX11_readLine_125 (by decide) c4 ?_
    refine g_iload_n C dX11_readLine_129 rfl 1 rfl ?_
    rcases oi_e hf with ⟨c5, hf⟩ | ⟨c5, hf⟩
    · refine g_tout (tgt := 202) C dX11_readLine_130 c5 (by decide) ?_
      refine g_aload_n C dX11_readLine_202 rfl 0 rfl ?_
      obtain ⟨r6, σ7, h8, hf⟩ := obp_e hf
      refine g_callVv (As := []) (rest := []) C (a_98 ad cy _) rfl (c_X11_readFeud l dC dI ad cy ) h8 hM_X11_160 cal_X11_readFeud ⟨Nat.zero_le _, Nat.zero_le _⟩ ⟨rfl, rfl⟩ ⟨Nat.le_of_ble_eq_true rfl, Nat.le_of_ble_eq_true rfl⟩ rfl rfl (Nat.le_of_ble_eq_true rfl) dX11_readLine_203 ?_
      exact g_sub [0] rfl (fX11_readLine_b206_ok C σ7 hf)
    · skip
      rcases oi_e hf with ⟨c9, hf⟩ | ⟨c9, hf⟩
      · refine g_tin (tgt := 160) C dX11_readLine_130 (by rw [c9]; decide) (by rw [c9]; decide) (by rw [c9]; rfl) (by decide) ?_
        refine g_aload_n C dX11_readLine_160 rfl 0 rfl ?_
        refine g_aload_n C dX11_readLine_161 rfl 0 rfl ?_
        refine g_iconst (v := 1) C dX11_readLine_162 (by decide) ?_
        refine g_bipush (v := 6) C dX11_readLine_163 (by decide) ?_
        obtain ⟨r10, σ11, h12, hf⟩ := obp_e hf
        refine g_callVi (As := [.int 1, .int 6]) (rest := [.ref (ad 98)]) C (a_98 ad cy _) rfl (c_X11_readNumber l dC dI ad cy ((1 : Int32)) ((6 : Int32))) h12 hM_X11_144 cal_X11_readNumber ⟨Nat.zero_le _, Nat.zero_le _⟩ ⟨rfl, rfl⟩ ⟨Nat.le_of_ble_eq_true rfl, Nat.le_of_ble_eq_true rfl⟩ rfl rfl (Nat.le_of_ble_eq_true rfl) dX11_readLine_165 ?_
        obtain ⟨σ13, eσ13, hf⟩ := ol_e hf
        refine g_put (ty := .int) C (a_98 ad cy _) rfl hin_X11 tyX11 tyX11_ok nmX11 9 (by decide) hF_X11_53 rfl rfl (by decide +kernel) rfl rfl (Nat.le_of_ble_eq_true rfl) (p_98_9 ad cy _ _) eσ13 dX11_readLine_168 ?_
        refine g_goto (tgt := 206) C dX11_readLine_171 (by decide) ?_
        exact g_sub [0] rfl (fX11_readLine_b206_ok C σ13 hf)
      · skip
        rcases oi_e hf with ⟨c14, hf⟩ | ⟨c14, hf⟩
        · refine g_tin (tgt := 174) C dX11_readLine_130 (by rw [c14]; decide) (by rw [c14]; decide) (by rw [c14]; rfl) (by decide) ?_
          refine g_aload_n C dX11_readLine_174 rfl 0 rfl ?_
          refine g_aload_n C dX11_readLine_175 rfl 0 rfl ?_
          refine g_iconst (v := 0) C dX11_readLine_176 (by decide) ?_
          refine g_bipush (v := 9) C dX11_readLine_177 (by decide) ?_
          obtain ⟨r15, σ16, h17, hf⟩ := obp_e hf
          refine g_callVi (As := [.int 0, .int 9]) (rest := [.ref (ad 98)]) C (a_98 ad cy _) rfl (c_X11_readNumber l dC dI ad cy ((0 : Int32)) ((9 : Int32))) h17 hM_X11_144 cal_X11_readNumber ⟨Nat.zero_le _, Nat.zero_le _⟩ ⟨rfl, rfl⟩ ⟨Nat.le_of_ble_eq_true rfl, Nat.le_of_ble_eq_true rfl⟩ rfl rfl (Nat.le_of_ble_eq_true rfl) dX11_readLine_179 ?_
          obtain ⟨σ18, eσ18, hf⟩ := ol_e hf
          refine g_put (ty := .int) C (a_98 ad cy _) rfl hin_X11 tyX11 tyX11_ok nmX11 10 (by decide) hF_X11_57 rfl rfl (by decide +kernel) rfl rfl (Nat.le_of_ble_eq_true rfl) (p_98_10 ad cy _ _) eσ18 dX11_readLine_182 ?_
          refine g_goto (tgt := 206) C dX11_readLine_185 (by decide) ?_
          exact g_sub [0] rfl (fX11_readLine_b206_ok C σ18 hf)
        · skip
          rcases oi_e hf with ⟨c19, hf⟩ | ⟨c19, hf⟩
          · refine g_tin (tgt := 188) C dX11_readLine_130 (by rw [c19]; decide) (by rw [c19]; decide) (by rw [c19]; rfl) (by decide) ?_
            refine g_aload_n C dX11_readLine_188 rfl 0 rfl ?_
            obtain ⟨r20, σ21, h22, hf⟩ := obp_e hf
            refine g_callVv (As := []) (rest := []) C (a_98 ad cy _) rfl (c_X11_readBell l dC dI ad cy ) h22 hM_X11_154 cal_X11_readBell ⟨Nat.zero_le _, Nat.zero_le _⟩ ⟨rfl, rfl⟩ ⟨Nat.le_of_ble_eq_true rfl, Nat.le_of_ble_eq_true rfl⟩ rfl rfl (Nat.le_of_ble_eq_true rfl) dX11_readLine_189 ?_
            refine g_goto (tgt := 206) C dX11_readLine_192 (by decide) ?_
            exact g_sub [0] rfl (fX11_readLine_b206_ok C σ21 hf)
          · skip
            rcases oi_e hf with ⟨c23, hf⟩ | ⟨c23, hf⟩
            · refine g_tin (tgt := 195) C dX11_readLine_130 (by rw [c23]; decide) (by rw [c23]; decide) (by rw [c23]; rfl) (by decide) ?_
              refine g_aload_n C dX11_readLine_195 rfl 0 rfl ?_
              obtain ⟨r24, σ25, h26, hf⟩ := obp_e hf
              refine g_callVv (As := []) (rest := []) C (a_98 ad cy _) rfl (c_X11_readTune l dC dI ad cy ) h26 hM_X11_157 cal_X11_readTune ⟨Nat.zero_le _, Nat.zero_le _⟩ ⟨rfl, rfl⟩ ⟨Nat.le_of_ble_eq_true rfl, Nat.le_of_ble_eq_true rfl⟩ rfl rfl (Nat.le_of_ble_eq_true rfl) dX11_readLine_196 ?_
              refine g_goto (tgt := 206) C dX11_readLine_199 (by decide) ?_
              exact g_sub [0] rfl (fX11_readLine_b206_ok C σ25 hf)
            · skip
              cases hf
  · refine g_if_le_f (tgt := 129) C dX11_readLine_125 (by decide) c4 ?_
    obtain ⟨rfl, rfl⟩ := os_e hf
    exact g_vret C rfl dX11_readLine_128
def fX11_readLine_b101  (σ : S0) (x1 : Int32) (t0 : Int32) : Option (Int32 × S0) := obp (fX11_needs σ t0 ((4 : Int32))) (fun r1 σ2 => ol ((σ2 98 15) ||| ((1 : Int32) <<< (x1 &&& 31))) (fun v4 => ol (su σ2 98 15 v4) (fun σ5 => fX11_readLine_b117 σ5 x1)))
set_option maxHeartbeats 1000000 in
set_option maxRecDepth 100000 in
theorem fX11_readLine_b101_ok {p : Program} {l : Launch} {e : Env} {s : State} {m : MethodId} {args : Array Value} {below : List Frame} {meth : Method} {c : Code} {dC : Nat → ClassId} {dI : Nat → Nat → Nat} {ad : Nat → Nat} {cy : Nat → ClassId} {sz : Nat} (C : Cx p s m args meth c RX11 cX11_readLine 2 none dC dI ad cy sz) {rr : Int32} {ρ : S0}  (σ : S0) (x1 : Int32) (t0 : Int32)  (hf : fX11_readLine_b101 σ x1 t0 = some (rr, ρ)) : Gw p l e rm_X11_readLine s m args below meth c (MQ below (QcV dC dI ad cy sz ρ) args s 0 0 (AW ad sz)) dC dI ad cy 2 sz 0 0 101 [(0, .ref (ad 98)), (1, .int x1)] [.int t0, .ref (ad 98)] σ := by
  unfold fX11_readLine_b101 at hf
  refine g_iconst (v := 4) C dX11_readLine_101 (by decide) ?_
  obtain ⟨r1, σ2, h3, hf⟩ := obp_e hf
  refine g_callVv (As := [.int t0, .int 4]) (rest := []) C (a_98 ad cy _) rfl (c_X11_needs l dC dI ad cy t0 ((4 : Int32))) h3 hM_X11_130 cal_X11_needs ⟨Nat.zero_le _, Nat.zero_le _⟩ ⟨rfl, rfl⟩ ⟨Nat.le_of_ble_eq_true rfl, Nat.le_of_ble_eq_true rfl⟩ rfl rfl (Nat.le_of_ble_eq_true rfl) dX11_readLine_102 ?_
  refine g_aload_n C dX11_readLine_105 rfl 0 rfl ?_
  refine g_dup C dX11_readLine_106 rfl ?_
  refine g_get C (a_98 ad cy _) rfl hin_X11 15 (by decide) hF_X11_72 rfl rfl dX11_readLine_107 ?_
  refine g_iconst (v := 1) C dX11_readLine_110 (by decide) ?_
  refine g_iload_n C dX11_readLine_111 rfl 1 rfl ?_
  refine g_ishl C dX11_readLine_112 ?_
  refine g_ior C dX11_readLine_113 ?_
  obtain ⟨v4, ev4, hf⟩ := ol_e hf
  refine g_nm ev4 ?_
  obtain ⟨σ5, eσ5, hf⟩ := ol_e hf
  refine g_put (ty := .int) C (a_98 ad cy _) rfl hin_X11 tyX11 tyX11_ok nmX11 15 (by decide) hF_X11_72 rfl rfl (by decide +kernel) rfl rfl (Nat.le_of_ble_eq_true rfl) (p_98_15 ad cy _ _) eσ5 dX11_readLine_114 ?_
  exact g_sub [0, 1] rfl (fX11_readLine_b117_ok C σ5 x1 hf)
def fX11_readLine_b68  (σ : S0) (x1 : Int32) (t0 : Int32) : Option (Int32 × S0) := obp (fX11_needs σ t0 ((5 : Int32))) (fun r1 σ2 => if ¬ (σ2 98 22) = 0 then (fX11_readLine_b117 σ2 x1) else (if (1 : Int32) < x1 then (fX11_readLine_b117 σ2 x1) else (if ¬ (((σ2 98 15) >>> (x1 &&& 31)) &&& 1) = 0 then (fX11_readLine_b101 σ2 x1 0) else (fX11_readLine_b101 σ2 x1 1))))
set_option maxHeartbeats 1000000 in
set_option maxRecDepth 100000 in
theorem fX11_readLine_b68_ok {p : Program} {l : Launch} {e : Env} {s : State} {m : MethodId} {args : Array Value} {below : List Frame} {meth : Method} {c : Code} {dC : Nat → ClassId} {dI : Nat → Nat → Nat} {ad : Nat → Nat} {cy : Nat → ClassId} {sz : Nat} (C : Cx p s m args meth c RX11 cX11_readLine 2 none dC dI ad cy sz) {rr : Int32} {ρ : S0}  (σ : S0) (x1 : Int32) (t0 : Int32)  (hf : fX11_readLine_b68 σ x1 t0 = some (rr, ρ)) : Gw p l e rm_X11_readLine s m args below meth c (MQ below (QcV dC dI ad cy sz ρ) args s 0 0 (AW ad sz)) dC dI ad cy 2 sz 0 0 68 [(0, .ref (ad 98)), (1, .int x1)] [.int t0, .ref (ad 98)] σ := by
  unfold fX11_readLine_b68 at hf
  refine g_iconst (v := 5) C dX11_readLine_68 (by decide) ?_
  obtain ⟨r1, σ2, h3, hf⟩ := obp_e hf
  refine g_callVv (As := [.int t0, .int 5]) (rest := []) C (a_98 ad cy _) rfl (c_X11_needs l dC dI ad cy t0 ((5 : Int32))) h3 hM_X11_130 cal_X11_needs ⟨Nat.zero_le _, Nat.zero_le _⟩ ⟨rfl, rfl⟩ ⟨Nat.le_of_ble_eq_true rfl, Nat.le_of_ble_eq_true rfl⟩ rfl rfl (Nat.le_of_ble_eq_true rfl) dX11_readLine_69 ?_
  refine g_aload_n C dX11_readLine_72 rfl 0 rfl ?_
  refine g_get C (a_98 ad cy _) rfl hin_X11 22 (by decide) hF_X11_96 rfl rfl dX11_readLine_73 ?_
  rcases oi_e hf with ⟨c4, hf⟩ | ⟨c4, hf⟩
  · refine g_if_ne_t (tgt := 117) C dX11_readLine_76 (by decide) c4 ?_
    exact g_sub [0, 1] rfl (fX11_readLine_b117_ok C σ2 x1 hf)
  · refine g_if_ne_f (tgt := 117) C dX11_readLine_76 (by decide) (Decidable.of_not_not c4) ?_
    refine g_iload_n C dX11_readLine_79 rfl 1 rfl ?_
    refine g_iconst (v := 1) C dX11_readLine_80 (by decide) ?_
    rcases oi_e hf with ⟨c5, hf⟩ | ⟨c5, hf⟩
    · refine g_icmp_gt_t (tgt := 117) C dX11_readLine_81 (by decide) c5 ?_
      exact g_sub [0, 1] rfl (fX11_readLine_b117_ok C σ2 x1 hf)
    · refine g_icmp_gt_f (tgt := 117) C dX11_readLine_81 (by decide) c5 ?_
      refine g_aload_n C dX11_readLine_84 rfl 0 rfl ?_
      refine g_aload_n C dX11_readLine_85 rfl 0 rfl ?_
      refine g_get C (a_98 ad cy _) rfl hin_X11 15 (by decide) hF_X11_72 rfl rfl dX11_readLine_86 ?_
      refine g_iload_n C dX11_readLine_89 rfl 1 rfl ?_
      refine g_ishr C dX11_readLine_90 ?_
      refine g_iconst (v := 1) C dX11_readLine_91 (by decide) ?_
      refine g_iand C dX11_readLine_92 ?_
      rcases oi_e hf with ⟨c6, hf⟩ | ⟨c6, hf⟩
      · refine g_if_ne_t (tgt := 100) C dX11_readLine_93 (by decide) c6 ?_
        refine g_iconst (v := 0) C dX11_readLine_100 (by decide) ?_
        exact g_sub [0, 1] rfl (fX11_readLine_b101_ok C σ2 x1 0 hf)
      · refine g_if_ne_f (tgt := 100) C dX11_readLine_93 (by decide) (Decidable.of_not_not c6) ?_
        refine g_iconst (v := 1) C dX11_readLine_96 (by decide) ?_
        refine g_goto (tgt := 101) C dX11_readLine_97 (by decide) ?_
        exact g_sub [0, 1] rfl (fX11_readLine_b101_ok C σ2 x1 1 hf)
def fX11_readLine_b63  (σ : S0) (x1 : Int32) : Option (Int32 × S0) := fX11_readLine_b68 σ x1 1
set_option maxHeartbeats 1000000 in
set_option maxRecDepth 100000 in
theorem fX11_readLine_b63_ok {p : Program} {l : Launch} {e : Env} {s : State} {m : MethodId} {args : Array Value} {below : List Frame} {meth : Method} {c : Code} {dC : Nat → ClassId} {dI : Nat → Nat → Nat} {ad : Nat → Nat} {cy : Nat → ClassId} {sz : Nat} (C : Cx p s m args meth c RX11 cX11_readLine 2 none dC dI ad cy sz) {rr : Int32} {ρ : S0}  (σ : S0) (x1 : Int32)  (hf : fX11_readLine_b63 σ x1 = some (rr, ρ)) : Gw p l e rm_X11_readLine s m args below meth c (MQ below (QcV dC dI ad cy sz ρ) args s 0 0 (AW ad sz)) dC dI ad cy 2 sz 0 0 63 [(0, .ref (ad 98)), (1, .int x1)] [.ref (ad 98)] σ := by
  unfold fX11_readLine_b63 at hf
  refine g_iconst (v := 1) C dX11_readLine_63 (by decide) ?_
  refine g_goto (tgt := 68) C dX11_readLine_64 (by decide) ?_
  exact g_sub [0, 1] rfl (fX11_readLine_b68_ok C σ x1 1 hf)
def fX11_readLine_b67  (σ : S0) (x1 : Int32) : Option (Int32 × S0) := fX11_readLine_b68 σ x1 0
set_option maxHeartbeats 1000000 in
set_option maxRecDepth 100000 in
theorem fX11_readLine_b67_ok {p : Program} {l : Launch} {e : Env} {s : State} {m : MethodId} {args : Array Value} {below : List Frame} {meth : Method} {c : Code} {dC : Nat → ClassId} {dI : Nat → Nat → Nat} {ad : Nat → Nat} {cy : Nat → ClassId} {sz : Nat} (C : Cx p s m args meth c RX11 cX11_readLine 2 none dC dI ad cy sz) {rr : Int32} {ρ : S0}  (σ : S0) (x1 : Int32)  (hf : fX11_readLine_b67 σ x1 = some (rr, ρ)) : Gw p l e rm_X11_readLine s m args below meth c (MQ below (QcV dC dI ad cy sz ρ) args s 0 0 (AW ad sz)) dC dI ad cy 2 sz 0 0 67 [(0, .ref (ad 98)), (1, .int x1)] [.ref (ad 98)] σ := by
  unfold fX11_readLine_b67 at hf
  refine g_iconst (v := 0) C dX11_readLine_67 (by decide) ?_
  exact g_sub [0, 1] rfl (fX11_readLine_b68_ok C σ x1 0 hf)
def fX11_readLine_b49  (σ : S0) (x1 : Int32) : Option (Int32 × S0) := if ¬ x1 = 3 then (fX11_readLine_b63 σ x1) else (if (6 : Int32) ≤ (σ 98 12) then (fX11_readLine_b67 σ x1) else (fX11_readLine_b63 σ x1))
set_option maxHeartbeats 1000000 in
set_option maxRecDepth 100000 in
theorem fX11_readLine_b49_ok {p : Program} {l : Launch} {e : Env} {s : State} {m : MethodId} {args : Array Value} {below : List Frame} {meth : Method} {c : Code} {dC : Nat → ClassId} {dI : Nat → Nat → Nat} {ad : Nat → Nat} {cy : Nat → ClassId} {sz : Nat} (C : Cx p s m args meth c RX11 cX11_readLine 2 none dC dI ad cy sz) {rr : Int32} {ρ : S0}  (σ : S0) (x1 : Int32)  (hf : fX11_readLine_b49 σ x1 = some (rr, ρ)) : Gw p l e rm_X11_readLine s m args below meth c (MQ below (QcV dC dI ad cy sz ρ) args s 0 0 (AW ad sz)) dC dI ad cy 2 sz 0 0 49 [(0, .ref (ad 98)), (1, .int x1)] [.ref (ad 98)] σ := by
  unfold fX11_readLine_b49 at hf
  refine g_iload_n C dX11_readLine_49 rfl 1 rfl ?_
  refine g_iconst (v := 3) C dX11_readLine_50 (by decide) ?_
  rcases oi_e hf with ⟨c1, hf⟩ | ⟨c1, hf⟩
  · refine g_icmp_ne_t (tgt := 63) C dX11_readLine_51 (by decide) c1 ?_
    exact g_sub [0, 1] rfl (fX11_readLine_b63_ok C σ x1 hf)
  · refine g_icmp_ne_f (tgt := 63) C dX11_readLine_51 (by decide) (Decidable.of_not_not c1) ?_
    refine g_aload_n C dX11_readLine_54 rfl 0 rfl ?_
    refine g_get C (a_98 ad cy _) rfl hin_X11 12 (by decide) hF_X11_63 rfl rfl dX11_readLine_55 ?_
    refine g_bipush (v := 6) C dX11_readLine_58 (by decide) ?_
    rcases oi_e hf with ⟨c2, hf⟩ | ⟨c2, hf⟩
    · refine g_icmp_ge_t (tgt := 67) C dX11_readLine_60 (by decide) c2 ?_
      exact g_sub [0, 1] rfl (fX11_readLine_b67_ok C σ x1 hf)
    · refine g_icmp_ge_f (tgt := 67) C dX11_readLine_60 (by decide) c2 ?_
      exact g_sub [0, 1] rfl (fX11_readLine_b63_ok C σ x1 hf)
def fX11_readLine_b30  (σ : S0) (x1 : Int32) (t0 : Int32) : Option (Int32 × S0) := obp (fX11_needs σ t0 ((2 : Int32))) (fun r1 σ2 => if ¬ x1 = 2 then (fX11_readLine_b49 σ2 x1) else (if (12 : Int32) ≤ (σ2 98 11) then (fX11_readLine_b67 σ2 x1) else (fX11_readLine_b49 σ2 x1)))
set_option maxHeartbeats 1000000 in
set_option maxRecDepth 100000 in
theorem fX11_readLine_b30_ok {p : Program} {l : Launch} {e : Env} {s : State} {m : MethodId} {args : Array Value} {below : List Frame} {meth : Method} {c : Code} {dC : Nat → ClassId} {dI : Nat → Nat → Nat} {ad : Nat → Nat} {cy : Nat → ClassId} {sz : Nat} (C : Cx p s m args meth c RX11 cX11_readLine 2 none dC dI ad cy sz) {rr : Int32} {ρ : S0}  (σ : S0) (x1 : Int32) (t0 : Int32)  (hf : fX11_readLine_b30 σ x1 t0 = some (rr, ρ)) : Gw p l e rm_X11_readLine s m args below meth c (MQ below (QcV dC dI ad cy sz ρ) args s 0 0 (AW ad sz)) dC dI ad cy 2 sz 0 0 30 [(0, .ref (ad 98)), (1, .int x1)] [.int t0, .ref (ad 98)] σ := by
  unfold fX11_readLine_b30 at hf
  refine g_iconst (v := 2) C dX11_readLine_30 (by decide) ?_
  obtain ⟨r1, σ2, h3, hf⟩ := obp_e hf
  refine g_callVv (As := [.int t0, .int 2]) (rest := []) C (a_98 ad cy _) rfl (c_X11_needs l dC dI ad cy t0 ((2 : Int32))) h3 hM_X11_130 cal_X11_needs ⟨Nat.zero_le _, Nat.zero_le _⟩ ⟨rfl, rfl⟩ ⟨Nat.le_of_ble_eq_true rfl, Nat.le_of_ble_eq_true rfl⟩ rfl rfl (Nat.le_of_ble_eq_true rfl) dX11_readLine_31 ?_
  refine g_aload_n C dX11_readLine_34 rfl 0 rfl ?_
  refine g_iload_n C dX11_readLine_35 rfl 1 rfl ?_
  refine g_iconst (v := 2) C dX11_readLine_36 (by decide) ?_
  rcases oi_e hf with ⟨c4, hf⟩ | ⟨c4, hf⟩
  · refine g_icmp_ne_t (tgt := 49) C dX11_readLine_37 (by decide) c4 ?_
    exact g_sub [0, 1] rfl (fX11_readLine_b49_ok C σ2 x1 hf)
  · refine g_icmp_ne_f (tgt := 49) C dX11_readLine_37 (by decide) (Decidable.of_not_not c4) ?_
    refine g_aload_n C dX11_readLine_40 rfl 0 rfl ?_
    refine g_get C (a_98 ad cy _) rfl hin_X11 11 (by decide) hF_X11_60 rfl rfl dX11_readLine_41 ?_
    refine g_bipush (v := 12) C dX11_readLine_44 (by decide) ?_
    rcases oi_e hf with ⟨c5, hf⟩ | ⟨c5, hf⟩
    · refine g_icmp_ge_t (tgt := 67) C dX11_readLine_46 (by decide) c5 ?_
      exact g_sub [0, 1] rfl (fX11_readLine_b67_ok C σ2 x1 hf)
    · refine g_icmp_ge_f (tgt := 67) C dX11_readLine_46 (by decide) c5 ?_
      exact g_sub [0, 1] rfl (fX11_readLine_b49_ok C σ2 x1 hf)
def fX11_readLine_b17  (σ : S0) (t0 : Int32) : Option (Int32 × S0) := if t0 = ((-4)) then (fX11_readLine_b30 σ t0 0) else (fX11_readLine_b30 σ t0 1)
set_option maxHeartbeats 1000000 in
set_option maxRecDepth 100000 in
theorem fX11_readLine_b17_ok {p : Program} {l : Launch} {e : Env} {s : State} {m : MethodId} {args : Array Value} {below : List Frame} {meth : Method} {c : Code} {dC : Nat → ClassId} {dI : Nat → Nat → Nat} {ad : Nat → Nat} {cy : Nat → ClassId} {sz : Nat} (C : Cx p s m args meth c RX11 cX11_readLine 2 none dC dI ad cy sz) {rr : Int32} {ρ : S0}  (σ : S0) (t0 : Int32)  (hf : fX11_readLine_b17 σ t0 = some (rr, ρ)) : Gw p l e rm_X11_readLine s m args below meth c (MQ below (QcV dC dI ad cy sz ρ) args s 0 0 (AW ad sz)) dC dI ad cy 2 sz 0 0 17 [(0, .ref (ad 98))] [.int t0] σ := by
  unfold fX11_readLine_b17 at hf
  refine g_istore_n (lv2 := [(0, .ref (ad 98)), (1, .int t0)]) C dX11_readLine_17 rfl (by decide) [1, 0] rfl ?_
  refine g_aload_n C dX11_readLine_18 rfl 0 rfl ?_
  refine g_iload_n C dX11_readLine_19 rfl 1 rfl ?_
  refine g_bipush (v := (-4)) C dX11_readLine_20 (by decide) ?_
  rcases oi_e hf with ⟨c1, hf⟩ | ⟨c1, hf⟩
  · refine g_icmp_eq_t (tgt := 29) C dX11_readLine_22 (by decide) c1 ?_
    refine g_iconst (v := 0) C dX11_readLine_29 (by decide) ?_
    exact g_sub [0, 1] rfl (fX11_readLine_b30_ok C σ t0 0 hf)
  · refine g_icmp_eq_f (tgt := 29) C dX11_readLine_22 (by decide) c1 ?_
    refine g_iconst (v := 1) C dX11_readLine_25 (by decide) ?_
    refine g_goto (tgt := 30) C dX11_readLine_26 (by decide) ?_
    exact g_sub [0, 1] rfl (fX11_readLine_b30_ok C σ t0 1 hf)
def fX11_readLine (σ : S0)  : Option (Int32 × S0) := if ¬ (σ 98 20) = 1 then (fX11_readLine_b17 σ ((-4))) else (obp (fX11_nameNow σ) (fun r2 σ3 => fX11_readLine_b17 σ3 r2))
set_option maxHeartbeats 1000000 in
set_option maxRecDepth 100000 in
theorem fX11_readLine_ok {p : Program} {l : Launch} {e : Env} {s : State} {m : MethodId} {args : Array Value} {below : List Frame} {meth : Method} {c : Code} {dC : Nat → ClassId} {dI : Nat → Nat → Nat} {ad : Nat → Nat} {cy : Nat → ClassId} {sz : Nat} (C : Cx p s m args meth c RX11 cX11_readLine 2 none dC dI ad cy sz) {rr : Int32} {ρ : S0} (σ : S0)   (hf : fX11_readLine σ = some (rr, ρ)) : Gw p l e rm_X11_readLine s m args below meth c (MQ below (QcV dC dI ad cy sz ρ) args s 0 0 (AW ad sz)) dC dI ad cy 2 sz 0 0 0 [(0, .ref (ad 98))] [] σ := by
  unfold fX11_readLine at hf
  refine g_aload_n C dX11_readLine_0 rfl 0 rfl ?_
  refine g_get C (a_98 ad cy _) rfl hin_X11 20 (by decide) hF_X11_116 rfl rfl dX11_readLine_1 ?_
  refine g_iconst (v := 1) C dX11_readLine_4 (by decide) ?_
  rcases oi_e hf with ⟨c1, hf⟩ | ⟨c1, hf⟩
  · refine g_icmp_ne_t (tgt := 15) C dX11_readLine_5 (by decide) c1 ?_
    refine g_bipush (v := (-4)) C dX11_readLine_15 (by decide) ?_
    exact g_sub [0] rfl (fX11_readLine_b17_ok C σ ((-4)) hf)
  · refine g_icmp_ne_f (tgt := 15) C dX11_readLine_5 (by decide) (Decidable.of_not_not c1) ?_
    refine g_aload_n C dX11_readLine_8 rfl 0 rfl ?_
    obtain ⟨r2, σ3, h4, hf⟩ := obp_e hf
    refine g_callVi (As := []) (rest := []) C (a_98 ad cy _) rfl (c_X11_nameNow l dC dI ad cy ) h4 hM_X11_151 cal_X11_nameNow ⟨Nat.zero_le _, Nat.zero_le _⟩ ⟨rfl, rfl⟩ ⟨Nat.le_of_ble_eq_true rfl, Nat.le_of_ble_eq_true rfl⟩ rfl rfl (Nat.le_of_ble_eq_true rfl) dX11_readLine_9 ?_
    refine g_goto (tgt := 17) C dX11_readLine_12 (by decide) ?_
    exact g_sub [0] rfl (fX11_readLine_b17_ok C σ3 r2 hf)
theorem c_X11_readLine (l : Launch) (dC : Nat → ClassId) (dI : Nat → Nat → Nat) (ad : Nat → Nat) (cy : Nat → ClassId)  : ConV l yX11_readLine cX11_readLine 2 none rm_X11_readLine dC dI ad cy [.ref (ad 98)] (fun σ => fX11_readLine σ) := con_v (own := RX11) (by decide) rfl (Nat.le_of_ble_eq_true rfl) (fun _ _ _ _ _ _ _ _ σ _ _ C hf => fX11_readLine_ok C σ  hf)
theorem cal_X11_readLine : CalV yX11_readLine RX11 cX11_readLine 2 none 0 := ⟨hI_X11_readLine, hS_X11_readLine, hIni_X11, hC_X11_readLine, by decide +kernel⟩
abbrev rm_X11_text : Room := { frames := 5, cells := 0, slots := 0, locals := 115 }
def fX11_text_b84  (σ : S0) (x1 : Int32) : Option (Int32 × S0) := ol (su σ 98 17 0) (fun σ1 => if (σ1 98 22) ≤ 0 then (obp (fX11_keepDraft σ1) (fun r3 σ4 => some (x1, σ4))) else (some (((-10)) - (σ1 98 23), σ1)))
set_option maxHeartbeats 1000000 in
set_option maxRecDepth 100000 in
theorem fX11_text_b84_ok {p : Program} {l : Launch} {e : Env} {s : State} {m : MethodId} {args : Array Value} {below : List Frame} {meth : Method} {c : Code} {dC : Nat → ClassId} {dI : Nat → Nat → Nat} {ad : Nat → Nat} {cy : Nat → ClassId} {sz : Nat} (C : Cx p s m args meth c RX11 cX11_text 2 (some .int) dC dI ad cy sz) {rr : Int32} {ρ : S0}  (σ : S0) (x1 : Int32)  (hf : fX11_text_b84 σ x1 = some (rr, ρ)) : Gw p l e rm_X11_text s m args below meth c (MQ below (QcI dC dI ad cy sz rr ρ) args s 0 0 (AW ad sz)) dC dI ad cy 2 sz 0 0 84 [(0, .ref (ad 98)), (1, .int x1)] [] σ := by
  unfold fX11_text_b84 at hf
  refine g_aload_n C dX11_text_84 rfl 0 rfl ?_
  refine g_iconst (v := 0) C dX11_text_85 (by decide) ?_
  obtain ⟨σ1, eσ1, hf⟩ := ol_e hf
  refine g_put (ty := .int) C (a_98 ad cy _) rfl hin_X11 tyX11 tyX11_ok nmX11 17 (by decide) hF_X11_87 rfl rfl (by decide +kernel) rfl rfl (Nat.le_of_ble_eq_true rfl) (p_98_17 ad cy _ _) eσ1 dX11_text_86 ?_
  refine g_aload_n C dX11_text_89 rfl 0 rfl ?_
  refine g_get C (a_98 ad cy _) rfl hin_X11 22 (by decide) hF_X11_96 rfl rfl dX11_text_90 ?_
  rcases oi_e hf with ⟨c2, hf⟩ | ⟨c2, hf⟩
  · refine g_if_le_t (tgt := 104) C dX11_text_93 (by decide) c2 ?_
    refine g_aload_n C dX11_text_104 rfl 0 rfl ?_
    obtain ⟨r3, σ4, h5, hf⟩ := obp_e hf
    refine g_callVv (As := []) (rest := []) C (a_98 ad cy _) rfl (c_X11_keepDraft l dC dI ad cy ) h5 hM_X11_50 cal_X11_keepDraft ⟨Nat.zero_le _, Nat.zero_le _⟩ ⟨rfl, rfl⟩ ⟨Nat.le_of_ble_eq_true rfl, Nat.le_of_ble_eq_true rfl⟩ rfl rfl (Nat.le_of_ble_eq_true rfl) dX11_text_105 ?_
    refine g_iload_n C dX11_text_108 rfl 1 rfl ?_
    obtain ⟨rfl, rfl⟩ := os_e hf
    exact g_iret C rfl dX11_text_109
  · refine g_if_le_f (tgt := 104) C dX11_text_93 (by decide) c2 ?_
    refine g_bipush (v := (-10)) C dX11_text_96 (by decide) ?_
    refine g_aload_n C dX11_text_98 rfl 0 rfl ?_
    refine g_get C (a_98 ad cy _) rfl hin_X11 23 (by decide) hF_X11_102 rfl rfl dX11_text_99 ?_
    refine g_isub C dX11_text_102 ?_
    obtain ⟨rfl, rfl⟩ := os_e hf
    exact g_iret C rfl dX11_text_103
def fX11_text_b79  (σ : S0) (x1 : Int32) (t0 : Int32) : Option (Int32 × S0) := obp (fX11_needs σ t0 ((6 : Int32))) (fun r1 σ2 => fX11_text_b84 σ2 x1)
set_option maxHeartbeats 1000000 in
set_option maxRecDepth 100000 in
theorem fX11_text_b79_ok {p : Program} {l : Launch} {e : Env} {s : State} {m : MethodId} {args : Array Value} {below : List Frame} {meth : Method} {c : Code} {dC : Nat → ClassId} {dI : Nat → Nat → Nat} {ad : Nat → Nat} {cy : Nat → ClassId} {sz : Nat} (C : Cx p s m args meth c RX11 cX11_text 2 (some .int) dC dI ad cy sz) {rr : Int32} {ρ : S0}  (σ : S0) (x1 : Int32) (t0 : Int32)  (hf : fX11_text_b79 σ x1 t0 = some (rr, ρ)) : Gw p l e rm_X11_text s m args below meth c (MQ below (QcI dC dI ad cy sz rr ρ) args s 0 0 (AW ad sz)) dC dI ad cy 2 sz 0 0 79 [(0, .ref (ad 98)), (1, .int x1)] [.int t0, .ref (ad 98)] σ := by
  unfold fX11_text_b79 at hf
  refine g_bipush (v := 6) C dX11_text_79 (by decide) ?_
  obtain ⟨r1, σ2, h3, hf⟩ := obp_e hf
  refine g_callVv (As := [.int t0, .int 6]) (rest := []) C (a_98 ad cy _) rfl (c_X11_needs l dC dI ad cy t0 ((6 : Int32))) h3 hM_X11_130 cal_X11_needs ⟨Nat.zero_le _, Nat.zero_le _⟩ ⟨rfl, rfl⟩ ⟨Nat.le_of_ble_eq_true rfl, Nat.le_of_ble_eq_true rfl⟩ rfl rfl (Nat.le_of_ble_eq_true rfl) dX11_text_81 ?_
  exact g_sub [0, 1] rfl (fX11_text_b84_ok C σ2 x1 hf)
def fX11_text_b78  (σ : S0) (x1 : Int32) : Option (Int32 × S0) := fX11_text_b79 σ x1 0
set_option maxHeartbeats 1000000 in
set_option maxRecDepth 100000 in
theorem fX11_text_b78_ok {p : Program} {l : Launch} {e : Env} {s : State} {m : MethodId} {args : Array Value} {below : List Frame} {meth : Method} {c : Code} {dC : Nat → ClassId} {dI : Nat → Nat → Nat} {ad : Nat → Nat} {cy : Nat → ClassId} {sz : Nat} (C : Cx p s m args meth c RX11 cX11_text 2 (some .int) dC dI ad cy sz) {rr : Int32} {ρ : S0}  (σ : S0) (x1 : Int32)  (hf : fX11_text_b78 σ x1 = some (rr, ρ)) : Gw p l e rm_X11_text s m args below meth c (MQ below (QcI dC dI ad cy sz rr ρ) args s 0 0 (AW ad sz)) dC dI ad cy 2 sz 0 0 78 [(0, .ref (ad 98)), (1, .int x1)] [.ref (ad 98)] σ := by
  unfold fX11_text_b78 at hf
  refine g_iconst (v := 0) C dX11_text_78 (by decide) ?_
  exact g_sub [0, 1] rfl (fX11_text_b79_ok C σ x1 0 hf)
def fX11_text_b44  (σ : S0) (x1 : Int32) : Option (Int32 × S0) := if ¬ (σ 98 22) = 0 then (fX11_text_b84 σ x1) else (if (σ 98 9) ≤ (σ 98 13) then (fX11_text_b78 σ x1) else (if (σ 98 11) ≤ (σ 98 14) then (fX11_text_b78 σ x1) else (fX11_text_b79 σ x1 1)))
set_option maxHeartbeats 1000000 in
set_option maxRecDepth 100000 in
theorem fX11_text_b44_ok {p : Program} {l : Launch} {e : Env} {s : State} {m : MethodId} {args : Array Value} {below : List Frame} {meth : Method} {c : Code} {dC : Nat → ClassId} {dI : Nat → Nat → Nat} {ad : Nat → Nat} {cy : Nat → ClassId} {sz : Nat} (C : Cx p s m args meth c RX11 cX11_text 2 (some .int) dC dI ad cy sz) {rr : Int32} {ρ : S0}  (σ : S0) (x1 : Int32)  (hf : fX11_text_b44 σ x1 = some (rr, ρ)) : Gw p l e rm_X11_text s m args below meth c (MQ below (QcI dC dI ad cy sz rr ρ) args s 0 0 (AW ad sz)) dC dI ad cy 2 sz 0 0 44 [(0, .ref (ad 98)), (1, .int x1)] [] σ := by
  unfold fX11_text_b44 at hf
  refine g_aload_n C dX11_text_44 rfl 0 rfl ?_
  refine g_get C (a_98 ad cy _) rfl hin_X11 22 (by decide) hF_X11_96 rfl rfl dX11_text_45 ?_
  rcases oi_e hf with ⟨c1, hf⟩ | ⟨c1, hf⟩
  · refine g_if_ne_t (tgt := 84) C dX11_text_48 (by decide) c1 ?_
    exact g_sub [0, 1] rfl (fX11_text_b84_ok C σ x1 hf)
  · refine g_if_ne_f (tgt := 84) C dX11_text_48 (by decide) (Decidable.of_not_not c1) ?_
    refine g_aload_n C dX11_text_51 rfl 0 rfl ?_
    refine g_aload_n C dX11_text_52 rfl 0 rfl ?_
    refine g_get C (a_98 ad cy _) rfl hin_X11 13 (by decide) hF_X11_66 rfl rfl dX11_text_53 ?_
    refine g_aload_n C dX11_text_56 rfl 0 rfl ?_
    refine g_get C (a_98 ad cy _) rfl hin_X11 9 (by decide) hF_X11_53 rfl rfl dX11_text_57 ?_
    rcases oi_e hf with ⟨c2, hf⟩ | ⟨c2, hf⟩
    · refine g_icmp_ge_t (tgt := 78) C dX11_text_60 (by decide) c2 ?_
      exact g_sub [0, 1] rfl (fX11_text_b78_ok C σ x1 hf)
    · refine g_icmp_ge_f (tgt := 78) C dX11_text_60 (by decide) c2 ?_
      refine g_aload_n C dX11_text_63 rfl 0 rfl ?_
      refine g_get C (a_98 ad cy _) rfl hin_X11 14 (by decide) hF_X11_69 rfl rfl dX11_text_64 ?_
      refine g_aload_n C dX11_text_67 rfl 0 rfl ?_
      refine g_get C (a_98 ad cy _) rfl hin_X11 11 (by decide) hF_X11_60 rfl rfl dX11_text_68 ?_
      rcases oi_e hf with ⟨c3, hf⟩ | ⟨c3, hf⟩
      · refine g_icmp_ge_t (tgt := 78) C dX11_text_71 (by decide) c3 ?_
        exact g_sub [0, 1] rfl (fX11_text_b78_ok C σ x1 hf)
      · refine g_icmp_ge_f (tgt := 78) C dX11_text_71 (by decide) c3 ?_
        refine g_iconst (v := 1) C dX11_text_74 (by decide) ?_
        refine g_goto (tgt := 79) C dX11_text_75 (by decide) ?_
        exact g_sub [0, 1] rfl (fX11_text_b79_ok C σ x1 1 hf)
def fX11_text_b20 (sf_20 : S0 → Int32 → Option (Int32 × S0)) (σ : S0) (x1 : Int32) : Option (Int32 × S0) := if ¬ (σ 98 22) = 0 then (fX11_text_b44 σ x1) else (if (σ 98 20) = 0 then (fX11_text_b44 σ x1) else (obp (fX11_readLine σ) (fun r3 σ4 => ol (x1 + 1) (fun v6 => sf_20 σ4 v6))))
set_option maxHeartbeats 1000000 in
set_option maxRecDepth 100000 in
theorem fX11_text_b20_ok {p : Program} {l : Launch} {e : Env} {s : State} {m : MethodId} {args : Array Value} {below : List Frame} {meth : Method} {c : Code} {dC : Nat → ClassId} {dI : Nat → Nat → Nat} {ad : Nat → Nat} {cy : Nat → ClassId} {sz : Nat} (C : Cx p s m args meth c RX11 cX11_text 2 (some .int) dC dI ad cy sz) {rr : Int32} {ρ : S0} (sf_20 : S0 → Int32 → Option (Int32 × S0)) (hs_20 : ∀ (σ : S0) (x1 : Int32) , sf_20 σ x1 = some (rr, ρ) → Gw p l e rm_X11_text s m args below meth c (MQ below (QcI dC dI ad cy sz rr ρ) args s 0 0 (AW ad sz)) dC dI ad cy 2 sz 0 0 20 [(0, .ref (ad 98)), (1, .int x1)] [] σ) (σ : S0) (x1 : Int32)  (hf : fX11_text_b20 sf_20 σ x1 = some (rr, ρ)) : Gw p l e rm_X11_text s m args below meth c (MQ below (QcI dC dI ad cy sz rr ρ) args s 0 0 (AW ad sz)) dC dI ad cy 2 sz 0 0 20 [(0, .ref (ad 98)), (1, .int x1)] [] σ := by
  unfold fX11_text_b20 at hf
  refine g_aload_n C dX11_text_20 rfl 0 rfl ?_
  refine g_get C (a_98 ad cy _) rfl hin_X11 22 (by decide) hF_X11_96 rfl rfl dX11_text_21 ?_
  rcases oi_e hf with ⟨c1, hf⟩ | ⟨c1, hf⟩
  · refine g_if_ne_t (tgt := 44) C dX11_text_24 (by decide) c1 ?_
    exact g_sub [0, 1] rfl (fX11_text_b44_ok C σ x1 hf)
  · refine g_if_ne_f (tgt := 44) C dX11_text_24 (by decide) (Decidable.of_not_not c1) ?_
    refine g_aload_n C dX11_text_27 rfl 0 rfl ?_
    refine g_get C (a_98 ad cy _) rfl hin_X11 20 (by decide) hF_X11_116 rfl rfl dX11_text_28 ?_
    rcases oi_e hf with ⟨c2, hf⟩ | ⟨c2, hf⟩
    · refine g_if_eq_t (tgt := 44) C dX11_text_31 (by decide) c2 ?_
      exact g_sub [0, 1] rfl (fX11_text_b44_ok C σ x1 hf)
    · refine g_if_eq_f (tgt := 44) C dX11_text_31 (by decide) c2 ?_
      refine g_aload_n C dX11_text_34 rfl 0 rfl ?_
      obtain ⟨r3, σ4, h5, hf⟩ := obp_e hf
      refine g_callVv (As := []) (rest := []) C (a_98 ad cy _) rfl (c_X11_readLine l dC dI ad cy ) h5 hM_X11_163 cal_X11_readLine ⟨Nat.zero_le _, Nat.zero_le _⟩ ⟨rfl, rfl⟩ ⟨Nat.le_of_ble_eq_true rfl, Nat.le_of_ble_eq_true rfl⟩ rfl rfl (Nat.le_of_ble_eq_true rfl) dX11_text_35 ?_
      obtain ⟨v6, ev6, hf⟩ := ol_e hf
      refine g_iinc (j := 1) (w := 1) (lv2 := [(0, .ref (ad 98)), (1, .int v6)]) C dX11_text_38 rfl (by decide) ev6 (by decide) [1, 0] rfl ?_
      refine g_goto (tgt := 20) C dX11_text_41 (by decide) ?_
      exact g_sub [0, 1] rfl (hs_20 σ4 v6 hf)
def fX11_text_h20  : Nat → S0 → Int32 → Option (Int32 × S0)
  | 0 => fun _ _ => none
  | n + 1 => fun σ x1 => fX11_text_b20  (fX11_text_h20  n) σ x1
set_option maxHeartbeats 1000000 in
set_option maxRecDepth 100000 in
theorem fX11_text_h20_ok {p : Program} {l : Launch} {e : Env} {s : State} {m : MethodId} {args : Array Value} {below : List Frame} {meth : Method} {c : Code} {dC : Nat → ClassId} {dI : Nat → Nat → Nat} {ad : Nat → Nat} {cy : Nat → ClassId} {sz : Nat} (C : Cx p s m args meth c RX11 cX11_text 2 (some .int) dC dI ad cy sz) {rr : Int32} {ρ : S0}  : ∀ (n : Nat) (σ : S0) (x1 : Int32)  (_hf : fX11_text_h20  n σ x1 = some (rr, ρ)), Gw p l e rm_X11_text s m args below meth c (MQ below (QcI dC dI ad cy sz rr ρ) args s 0 0 (AW ad sz)) dC dI ad cy 2 sz 0 0 20 [(0, .ref (ad 98)), (1, .int x1)] [] σ
  | 0, _, _, hf => by cases hf
  | n + 1, σ, x1, hf => fX11_text_b20_ok C  (fX11_text_h20  n) (fX11_text_h20_ok C  n) σ x1 hf
def fX11_text (σ : S0)  : Option (Int32 × S0) := ol (su σ 98 22 0) (fun σ1 => ol (su σ1 98 18 0) (fun σ2 => obp (fX11_firstDraft σ2) (fun r3 σ4 => obp (fX11_next σ4) (fun r6 σ7 => fX11_text_h20 400 σ7 0))))
set_option maxHeartbeats 1000000 in
set_option maxRecDepth 100000 in
theorem fX11_text_ok {p : Program} {l : Launch} {e : Env} {s : State} {m : MethodId} {args : Array Value} {below : List Frame} {meth : Method} {c : Code} {dC : Nat → ClassId} {dI : Nat → Nat → Nat} {ad : Nat → Nat} {cy : Nat → ClassId} {sz : Nat} (C : Cx p s m args meth c RX11 cX11_text 2 (some .int) dC dI ad cy sz) {rr : Int32} {ρ : S0} (σ : S0)   (hf : fX11_text σ = some (rr, ρ)) : Gw p l e rm_X11_text s m args below meth c (MQ below (QcI dC dI ad cy sz rr ρ) args s 0 0 (AW ad sz)) dC dI ad cy 2 sz 0 0 0 [(0, .ref (ad 98))] [] σ := by
  unfold fX11_text at hf
  refine g_iconst (v := 0) C dX11_text_0 (by decide) ?_
  refine g_istore_n (lv2 := [(0, .ref (ad 98)), (1, .int 0)]) C dX11_text_1 rfl (by decide) [1, 0] rfl ?_
  refine g_aload_n C dX11_text_2 rfl 0 rfl ?_
  refine g_iconst (v := 0) C dX11_text_3 (by decide) ?_
  obtain ⟨σ1, eσ1, hf⟩ := ol_e hf
  refine g_put (ty := .int) C (a_98 ad cy _) rfl hin_X11 tyX11 tyX11_ok nmX11 22 (by decide) hF_X11_96 rfl rfl (by decide +kernel) rfl rfl (Nat.le_of_ble_eq_true rfl) (p_98_22 ad cy _ _) eσ1 dX11_text_4 ?_
  refine g_aload_n C dX11_text_7 rfl 0 rfl ?_
  refine g_iconst (v := 0) C dX11_text_8 (by decide) ?_
  obtain ⟨σ2, eσ2, hf⟩ := ol_e hf
  refine g_put (ty := .int) C (a_98 ad cy _) rfl hin_X11 tyX11 tyX11_ok nmX11 18 (by decide) hF_X11_105 rfl rfl (by decide +kernel) rfl rfl (Nat.le_of_ble_eq_true rfl) (p_98_18 ad cy _ _) eσ2 dX11_text_9 ?_
  refine g_aload_n C dX11_text_12 rfl 0 rfl ?_
  obtain ⟨r3, σ4, h5, hf⟩ := obp_e hf
  refine g_callVv (As := []) (rest := []) C (a_98 ad cy _) rfl (c_X11_firstDraft l dC dI ad cy ) h5 hM_X11_47 cal_X11_firstDraft ⟨Nat.zero_le _, Nat.zero_le _⟩ ⟨rfl, rfl⟩ ⟨Nat.le_of_ble_eq_true rfl, Nat.le_of_ble_eq_true rfl⟩ rfl rfl (Nat.le_of_ble_eq_true rfl) dX11_text_13 ?_
  refine g_aload_n C dX11_text_16 rfl 0 rfl ?_
  obtain ⟨r6, σ7, h8, hf⟩ := obp_e hf
  refine g_callVv (As := []) (rest := []) C (a_98 ad cy _) rfl (c_X11_next l dC dI ad cy ) h8 hM_X11_138 cal_X11_next ⟨Nat.zero_le _, Nat.zero_le _⟩ ⟨rfl, rfl⟩ ⟨Nat.le_of_ble_eq_true rfl, Nat.le_of_ble_eq_true rfl⟩ rfl rfl (Nat.le_of_ble_eq_true rfl) dX11_text_17 ?_
  exact g_sub [0, 1] rfl (fX11_text_h20_ok C 400 σ7 0 hf)
theorem c_X11_text (l : Launch) (dC : Nat → ClassId) (dI : Nat → Nat → Nat) (ad : Nat → Nat) (cy : Nat → ClassId)  : ConI l yX11_text cX11_text 2 (some .int) rm_X11_text dC dI ad cy [.ref (ad 98)] (fun σ => fX11_text σ) := con_i (own := RX11) (by decide) rfl (Nat.le_of_ble_eq_true rfl) (fun _ _ _ _ _ _ _ _ σ _ _ C hf => fX11_text_ok C σ  hf)
theorem cal_X11_text : CalV yX11_text RX11 cX11_text 2 (some .int) 0 := ⟨hI_X11_text, hS_X11_text, hIni_X11, hC_X11_text, by decide +kernel⟩
abbrev rm_X11_fault : Room := { frames := 0, cells := 0, slots := 0, locals := 0 }
def fX11_fault (σ : S0)  : Option (Int32 × S0) := some (σ 98 22, σ)
set_option maxHeartbeats 1000000 in
set_option maxRecDepth 100000 in
theorem fX11_fault_ok {p : Program} {l : Launch} {e : Env} {s : State} {m : MethodId} {args : Array Value} {below : List Frame} {meth : Method} {c : Code} {dC : Nat → ClassId} {dI : Nat → Nat → Nat} {ad : Nat → Nat} {cy : Nat → ClassId} {sz : Nat} (C : Cx p s m args meth c RX11 cX11_fault 1 (some .int) dC dI ad cy sz) {rr : Int32} {ρ : S0} (σ : S0)   (hf : fX11_fault σ = some (rr, ρ)) : Gw p l e rm_X11_fault s m args below meth c (MQ below (QcI dC dI ad cy sz rr ρ) args s 0 0 (AW ad sz)) dC dI ad cy 1 sz 0 0 0 [(0, .ref (ad 98))] [] σ := by
  unfold fX11_fault at hf
  refine g_aload_n C dX11_fault_0 rfl 0 rfl ?_
  refine g_get C (a_98 ad cy _) rfl hin_X11 22 (by decide) hF_X11_96 rfl rfl dX11_fault_1 ?_
  obtain ⟨rfl, rfl⟩ := os_e hf
  exact g_iret C rfl dX11_fault_4
theorem c_X11_fault (l : Launch) (dC : Nat → ClassId) (dI : Nat → Nat → Nat) (ad : Nat → Nat) (cy : Nat → ClassId)  : ConI l yX11_fault cX11_fault 1 (some .int) rm_X11_fault dC dI ad cy [.ref (ad 98)] (fun σ => fX11_fault σ) := con_i (own := RX11) (by decide) rfl (Nat.le_of_ble_eq_true rfl) (fun _ _ _ _ _ _ _ _ σ _ _ C hf => fX11_fault_ok C σ  hf)
theorem cal_X11_fault : CalV yX11_fault RX11 cX11_fault 1 (some .int) 0 := ⟨hI_X11_fault, hS_X11_fault, hIni_X11, hC_X11_fault, by decide +kernel⟩
abbrev rm_X11_rule : Room := { frames := 0, cells := 0, slots := 0, locals := 0 }
def fX11_rule (σ : S0) (x1 : Int32) : Option (Int32 × S0) := if ¬ x1 = 0 then (if ¬ x1 = 1 then (some ((-1), σ)) else (some (σ 98 3, σ))) else (some (σ 98 2, σ))
set_option maxHeartbeats 1000000 in
set_option maxRecDepth 100000 in
theorem fX11_rule_ok {p : Program} {l : Launch} {e : Env} {s : State} {m : MethodId} {args : Array Value} {below : List Frame} {meth : Method} {c : Code} {dC : Nat → ClassId} {dI : Nat → Nat → Nat} {ad : Nat → Nat} {cy : Nat → ClassId} {sz : Nat} (C : Cx p s m args meth c RX11 cX11_rule 2 (some .int) dC dI ad cy sz) {rr : Int32} {ρ : S0} (σ : S0) (x1 : Int32)  (hf : fX11_rule σ x1 = some (rr, ρ)) : Gw p l e rm_X11_rule s m args below meth c (MQ below (QcI dC dI ad cy sz rr ρ) args s 0 0 (AW ad sz)) dC dI ad cy 2 sz 0 0 0 [(0, .ref (ad 98)), (1, .int x1)] [] σ := by
  unfold fX11_rule at hf
  refine g_iload_n C dX11_rule_0 rfl 1 rfl ?_
  rcases oi_e hf with ⟨c1, hf⟩ | ⟨c1, hf⟩
  · refine g_if_ne_t (tgt := 11) C dX11_rule_1 (by decide) c1 ?_
    refine g_iload_n C dX11_rule_11 rfl 1 rfl ?_
    refine g_iconst (v := 1) C dX11_rule_12 (by decide) ?_
    rcases oi_e hf with ⟨c2, hf⟩ | ⟨c2, hf⟩
    · refine g_icmp_ne_t (tgt := 23) C dX11_rule_13 (by decide) c2 ?_
      refine g_iconst (v := (-1)) C dX11_rule_23 (by decide) ?_
      obtain ⟨rfl, rfl⟩ := os_e hf
      exact g_iret C rfl dX11_rule_24
    · refine g_icmp_ne_f (tgt := 23) C dX11_rule_13 (by decide) (Decidable.of_not_not c2) ?_
      refine g_aload_n C dX11_rule_16 rfl 0 rfl ?_
      refine g_get C (a_98 ad cy _) rfl hin_X11 3 (by decide) hF_X11_78 rfl rfl dX11_rule_17 ?_
      refine g_goto (tgt := 24) C dX11_rule_20 (by decide) ?_
      obtain ⟨rfl, rfl⟩ := os_e hf
      exact g_iret C rfl dX11_rule_24
  · refine g_if_ne_f (tgt := 11) C dX11_rule_1 (by decide) (Decidable.of_not_not c1) ?_
    refine g_aload_n C dX11_rule_4 rfl 0 rfl ?_
    refine g_get C (a_98 ad cy _) rfl hin_X11 2 (by decide) hF_X11_75 rfl rfl dX11_rule_5 ?_
    refine g_goto (tgt := 24) C dX11_rule_8 (by decide) ?_
    obtain ⟨rfl, rfl⟩ := os_e hf
    exact g_iret C rfl dX11_rule_24
theorem c_X11_rule (l : Launch) (dC : Nat → ClassId) (dI : Nat → Nat → Nat) (ad : Nat → Nat) (cy : Nat → ClassId) (x1 : Int32) : ConI l yX11_rule cX11_rule 2 (some .int) rm_X11_rule dC dI ad cy [.ref (ad 98), .int x1] (fun σ => fX11_rule σ x1) := con_i (own := RX11) (by decide) rfl (Nat.le_of_ble_eq_true rfl) (fun _ _ _ _ _ _ _ _ σ _ _ C hf => fX11_rule_ok C σ x1 hf)
theorem cal_X11_rule : CalV yX11_rule RX11 cX11_rule 2 (some .int) 1 := ⟨hI_X11_rule, hS_X11_rule, hIni_X11, hC_X11_rule, by decide +kernel⟩
abbrev rm_X11_isHouse : Room := { frames := 1, cells := 0, slots := 0, locals := 25 }
def fX11_isHouse (σ : S0) (x1 : Int32) : Option (Int32 × S0) := obp (fX11_in σ x1.toInt64 ((0 : Int64)) (((σ 98 2) - 1).toInt64)) (fun r1 σ2 => og (r1 = 0 ∨ r1 = 1) (some (r1, σ2)))
set_option maxHeartbeats 1000000 in
set_option maxRecDepth 100000 in
theorem fX11_isHouse_ok {p : Program} {l : Launch} {e : Env} {s : State} {m : MethodId} {args : Array Value} {below : List Frame} {meth : Method} {c : Code} {dC : Nat → ClassId} {dI : Nat → Nat → Nat} {ad : Nat → Nat} {cy : Nat → ClassId} {sz : Nat} (C : Cx p s m args meth c RX11 cX11_isHouse 2 (some .boolean) dC dI ad cy sz) {rr : Int32} {ρ : S0} (σ : S0) (x1 : Int32)  (hf : fX11_isHouse σ x1 = some (rr, ρ)) : Gw p l e rm_X11_isHouse s m args below meth c (MQ below (QcI dC dI ad cy sz rr ρ) args s 0 0 (AW ad sz)) dC dI ad cy 2 sz 0 0 0 [(0, .ref (ad 98)), (1, .int x1)] [] σ := by
  unfold fX11_isHouse at hf
  refine g_iload_n C dX11_isHouse_0 rfl 1 rfl ?_
  refine g_i2l C dX11_isHouse_1 ?_
  refine g_lconst (v := 0) C dX11_isHouse_2 (by decide) ?_
  refine g_aload_n C dX11_isHouse_3 rfl 0 rfl ?_
  refine g_get C (a_98 ad cy _) rfl hin_X11 2 (by decide) hF_X11_75 rfl rfl dX11_isHouse_4 ?_
  refine g_iconst (v := 1) C dX11_isHouse_7 (by decide) ?_
  refine g_isub C dX11_isHouse_8 ?_
  refine g_i2l C dX11_isHouse_9 ?_
  obtain ⟨r1, σ2, h3, hf⟩ := obp_e hf
  refine g_callSi (As := [.long x1.toInt64, .long 0, .long (((σ 98 2) - 1).toInt64)]) (rest := []) C (c_X11_in l dC dI ad cy x1.toInt64 ((0 : Int64)) (((σ 98 2) - 1).toInt64)) h3 hM_X11_92 cal_X11_in ⟨Nat.zero_le _, Nat.zero_le _⟩ ⟨rfl, rfl⟩ ⟨Nat.le_of_ble_eq_true rfl, Nat.le_of_ble_eq_true rfl⟩ rfl rfl (Nat.le_of_ble_eq_true rfl) dX11_isHouse_10 ?_
  obtain ⟨h4, hf⟩ := og_e hf
  obtain ⟨rfl, rfl⟩ := os_e hf
  exact g_zret C rfl (zb_ok h4) dX11_isHouse_13
theorem c_X11_isHouse (l : Launch) (dC : Nat → ClassId) (dI : Nat → Nat → Nat) (ad : Nat → Nat) (cy : Nat → ClassId) (x1 : Int32) : ConI l yX11_isHouse cX11_isHouse 2 (some .boolean) rm_X11_isHouse dC dI ad cy [.ref (ad 98), .int x1] (fun σ => fX11_isHouse σ x1) := con_i (own := RX11) (by decide) rfl (Nat.le_of_ble_eq_true rfl) (fun _ _ _ _ _ _ _ _ σ _ _ C hf => fX11_isHouse_ok C σ x1 hf)
theorem cal_X11_isHouse : CalV yX11_isHouse RX11 cX11_isHouse 2 (some .boolean) 1 := ⟨hI_X11_isHouse, hS_X11_isHouse, hIni_X11, hC_X11_isHouse, by decide +kernel⟩
abbrev rm_X11_isBell : Room := { frames := 1, cells := 0, slots := 0, locals := 25 }
def fX11_isBell (σ : S0) (x1 : Int32) : Option (Int32 × S0) := obp (fX11_in σ x1.toInt64 ((0 : Int64)) (((σ 98 4) - 1).toInt64)) (fun r1 σ2 => og (r1 = 0 ∨ r1 = 1) (some (r1, σ2)))
set_option maxHeartbeats 1000000 in
set_option maxRecDepth 100000 in
theorem fX11_isBell_ok {p : Program} {l : Launch} {e : Env} {s : State} {m : MethodId} {args : Array Value} {below : List Frame} {meth : Method} {c : Code} {dC : Nat → ClassId} {dI : Nat → Nat → Nat} {ad : Nat → Nat} {cy : Nat → ClassId} {sz : Nat} (C : Cx p s m args meth c RX11 cX11_isBell 2 (some .boolean) dC dI ad cy sz) {rr : Int32} {ρ : S0} (σ : S0) (x1 : Int32)  (hf : fX11_isBell σ x1 = some (rr, ρ)) : Gw p l e rm_X11_isBell s m args below meth c (MQ below (QcI dC dI ad cy sz rr ρ) args s 0 0 (AW ad sz)) dC dI ad cy 2 sz 0 0 0 [(0, .ref (ad 98)), (1, .int x1)] [] σ := by
  unfold fX11_isBell at hf
  refine g_iload_n C dX11_isBell_0 rfl 1 rfl ?_
  refine g_i2l C dX11_isBell_1 ?_
  refine g_lconst (v := 0) C dX11_isBell_2 (by decide) ?_
  refine g_aload_n C dX11_isBell_3 rfl 0 rfl ?_
  refine g_get C (a_98 ad cy _) rfl hin_X11 4 (by decide) hF_X11_81 rfl rfl dX11_isBell_4 ?_
  refine g_iconst (v := 1) C dX11_isBell_7 (by decide) ?_
  refine g_isub C dX11_isBell_8 ?_
  refine g_i2l C dX11_isBell_9 ?_
  obtain ⟨r1, σ2, h3, hf⟩ := obp_e hf
  refine g_callSi (As := [.long x1.toInt64, .long 0, .long (((σ 98 4) - 1).toInt64)]) (rest := []) C (c_X11_in l dC dI ad cy x1.toInt64 ((0 : Int64)) (((σ 98 4) - 1).toInt64)) h3 hM_X11_92 cal_X11_in ⟨Nat.zero_le _, Nat.zero_le _⟩ ⟨rfl, rfl⟩ ⟨Nat.le_of_ble_eq_true rfl, Nat.le_of_ble_eq_true rfl⟩ rfl rfl (Nat.le_of_ble_eq_true rfl) dX11_isBell_10 ?_
  obtain ⟨h4, hf⟩ := og_e hf
  obtain ⟨rfl, rfl⟩ := os_e hf
  exact g_zret C rfl (zb_ok h4) dX11_isBell_13
theorem c_X11_isBell (l : Launch) (dC : Nat → ClassId) (dI : Nat → Nat → Nat) (ad : Nat → Nat) (cy : Nat → ClassId) (x1 : Int32) : ConI l yX11_isBell cX11_isBell 2 (some .boolean) rm_X11_isBell dC dI ad cy [.ref (ad 98), .int x1] (fun σ => fX11_isBell σ x1) := con_i (own := RX11) (by decide) rfl (Nat.le_of_ble_eq_true rfl) (fun _ _ _ _ _ _ _ _ σ _ _ C hf => fX11_isBell_ok C σ x1 hf)
theorem cal_X11_isBell : CalV yX11_isBell RX11 cX11_isBell 2 (some .boolean) 1 := ⟨hI_X11_isBell, hS_X11_isBell, hIni_X11, hC_X11_isBell, by decide +kernel⟩
end
section
abbrev rm_X11_isTune : Room := { frames := 1, cells := 0, slots := 0, locals := 25 }
def fX11_isTune (σ : S0) (x1 : Int32) : Option (Int32 × S0) := obp (fX11_in σ x1.toInt64 ((0 : Int64)) (((σ 98 5) - 1).toInt64)) (fun r1 σ2 => og (r1 = 0 ∨ r1 = 1) (some (r1, σ2)))
set_option maxHeartbeats 1000000 in
set_option maxRecDepth 100000 in
theorem fX11_isTune_ok {p : Program} {l : Launch} {e : Env} {s : State} {m : MethodId} {args : Array Value} {below : List Frame} {meth : Method} {c : Code} {dC : Nat → ClassId} {dI : Nat → Nat → Nat} {ad : Nat → Nat} {cy : Nat → ClassId} {sz : Nat} (C : Cx p s m args meth c RX11 cX11_isTune 2 (some .boolean) dC dI ad cy sz) {rr : Int32} {ρ : S0} (σ : S0) (x1 : Int32)  (hf : fX11_isTune σ x1 = some (rr, ρ)) : Gw p l e rm_X11_isTune s m args below meth c (MQ below (QcI dC dI ad cy sz rr ρ) args s 0 0 (AW ad sz)) dC dI ad cy 2 sz 0 0 0 [(0, .ref (ad 98)), (1, .int x1)] [] σ := by
  unfold fX11_isTune at hf
  refine g_iload_n C dX11_isTune_0 rfl 1 rfl ?_
  refine g_i2l C dX11_isTune_1 ?_
  refine g_lconst (v := 0) C dX11_isTune_2 (by decide) ?_
  refine g_aload_n C dX11_isTune_3 rfl 0 rfl ?_
  refine g_get C (a_98 ad cy _) rfl hin_X11 5 (by decide) hF_X11_84 rfl rfl dX11_isTune_4 ?_
  refine g_iconst (v := 1) C dX11_isTune_7 (by decide) ?_
  refine g_isub C dX11_isTune_8 ?_
  refine g_i2l C dX11_isTune_9 ?_
  obtain ⟨r1, σ2, h3, hf⟩ := obp_e hf
  refine g_callSi (As := [.long x1.toInt64, .long 0, .long (((σ 98 5) - 1).toInt64)]) (rest := []) C (c_X11_in l dC dI ad cy x1.toInt64 ((0 : Int64)) (((σ 98 5) - 1).toInt64)) h3 hM_X11_92 cal_X11_in ⟨Nat.zero_le _, Nat.zero_le _⟩ ⟨rfl, rfl⟩ ⟨Nat.le_of_ble_eq_true rfl, Nat.le_of_ble_eq_true rfl⟩ rfl rfl (Nat.le_of_ble_eq_true rfl) dX11_isTune_10 ?_
  obtain ⟨h4, hf⟩ := og_e hf
  obtain ⟨rfl, rfl⟩ := os_e hf
  exact g_zret C rfl (zb_ok h4) dX11_isTune_13
theorem c_X11_isTune (l : Launch) (dC : Nat → ClassId) (dI : Nat → Nat → Nat) (ad : Nat → Nat) (cy : Nat → ClassId) (x1 : Int32) : ConI l yX11_isTune cX11_isTune 2 (some .boolean) rm_X11_isTune dC dI ad cy [.ref (ad 98), .int x1] (fun σ => fX11_isTune σ x1) := con_i (own := RX11) (by decide) rfl (Nat.le_of_ble_eq_true rfl) (fun _ _ _ _ _ _ _ _ σ _ _ C hf => fX11_isTune_ok C σ x1 hf)
theorem cal_X11_isTune : CalV yX11_isTune RX11 cX11_isTune 2 (some .boolean) 1 := ⟨hI_X11_isTune, hS_X11_isTune, hIni_X11, hC_X11_isTune, by decide +kernel⟩
abbrev rm_X11_of : Room := { frames := 0, cells := 0, slots := 0, locals := 0 }
def fX11_of (σ : S0) (x1 : Int32) (x2 : Int32) : Option (Int32 × S0) := ol ((5 * x1) + x2) (fun v1 => og (¬ (v1 < 0 ∨ 240 ≤ v1.toNatClampNeg)) (ol (σ 99 v1.toNatClampNeg) (fun v3 => some (v3, σ))))
set_option maxHeartbeats 1000000 in
set_option maxRecDepth 100000 in
theorem fX11_of_ok {p : Program} {l : Launch} {e : Env} {s : State} {m : MethodId} {args : Array Value} {below : List Frame} {meth : Method} {c : Code} {dC : Nat → ClassId} {dI : Nat → Nat → Nat} {ad : Nat → Nat} {cy : Nat → ClassId} {sz : Nat} (C : Cx p s m args meth c RX11 cX11_of 3 (some .int) dC dI ad cy sz) {rr : Int32} {ρ : S0} (σ : S0) (x1 : Int32) (x2 : Int32)  (hf : fX11_of σ x1 x2 = some (rr, ρ)) : Gw p l e rm_X11_of s m args below meth c (MQ below (QcI dC dI ad cy sz rr ρ) args s 0 0 (AW ad sz)) dC dI ad cy 3 sz 0 0 0 [(0, .ref (ad 98)), (1, .int x1), (2, .int x2)] [] σ := by
  unfold fX11_of at hf
  refine g_aload_n C dX11_of_0 rfl 0 rfl ?_
  refine g_get C (a_98 ad cy _) rfl hin_X11 0 (by decide) hF_X11_7 rfl rfl dX11_of_1 ?_
  refine g_iconst (v := 5) C dX11_of_4 (by decide) ?_
  refine g_iload_n C dX11_of_5 rfl 1 rfl ?_
  refine g_imul C dX11_of_6 ?_
  refine g_iload_n C dX11_of_7 rfl 2 rfl ?_
  refine g_iadd C dX11_of_8 ?_
  obtain ⟨v1, ev1, hf⟩ := ol_e hf
  refine g_nm ev1 ?_
  obtain ⟨h2, hf⟩ := og_e hf
  refine g_iald C (a_99 ad cy _) h2 dX11_of_9 ?_
  obtain ⟨v3, ev3, hf⟩ := ol_e hf
  refine g_nm ev3 ?_
  obtain ⟨rfl, rfl⟩ := os_e hf
  exact g_iret C rfl dX11_of_10
theorem c_X11_of (l : Launch) (dC : Nat → ClassId) (dI : Nat → Nat → Nat) (ad : Nat → Nat) (cy : Nat → ClassId) (x1 : Int32) (x2 : Int32) : ConI l yX11_of cX11_of 3 (some .int) rm_X11_of dC dI ad cy [.ref (ad 98), .int x1, .int x2] (fun σ => fX11_of σ x1 x2) := con_i (own := RX11) (by decide) rfl (Nat.le_of_ble_eq_true rfl) (fun _ _ _ _ _ _ _ _ σ _ _ C hf => fX11_of_ok C σ x1 x2 hf)
theorem cal_X11_of : CalV yX11_of RX11 cX11_of 3 (some .int) 2 := ⟨hI_X11_of, hS_X11_of, hIni_X11, hC_X11_of, by decide +kernel⟩
abbrev rm_X11_strokes : Room := { frames := 0, cells := 0, slots := 0, locals := 0 }
def fX11_strokes (σ : S0) (x1 : Int32) : Option (Int32 × S0) := ol ((14 * x1) + 1) (fun v1 => og (¬ (v1 < 0 ∨ 84 ≤ v1.toNatClampNeg)) (ol (σ 101 v1.toNatClampNeg) (fun v3 => some (v3, σ))))
set_option maxHeartbeats 1000000 in
set_option maxRecDepth 100000 in
theorem fX11_strokes_ok {p : Program} {l : Launch} {e : Env} {s : State} {m : MethodId} {args : Array Value} {below : List Frame} {meth : Method} {c : Code} {dC : Nat → ClassId} {dI : Nat → Nat → Nat} {ad : Nat → Nat} {cy : Nat → ClassId} {sz : Nat} (C : Cx p s m args meth c RX11 cX11_strokes 2 (some .int) dC dI ad cy sz) {rr : Int32} {ρ : S0} (σ : S0) (x1 : Int32)  (hf : fX11_strokes σ x1 = some (rr, ρ)) : Gw p l e rm_X11_strokes s m args below meth c (MQ below (QcI dC dI ad cy sz rr ρ) args s 0 0 (AW ad sz)) dC dI ad cy 2 sz 0 0 0 [(0, .ref (ad 98)), (1, .int x1)] [] σ := by
  unfold fX11_strokes at hf
  refine g_aload_n C dX11_strokes_0 rfl 0 rfl ?_
  refine g_get C (a_98 ad cy _) rfl hin_X11 6 (by decide) hF_X11_17 rfl rfl dX11_strokes_1 ?_
  refine g_bipush (v := 14) C dX11_strokes_4 (by decide) ?_
  refine g_iload_n C dX11_strokes_6 rfl 1 rfl ?_
  refine g_imul C dX11_strokes_7 ?_
  refine g_iconst (v := 1) C dX11_strokes_8 (by decide) ?_
  refine g_iadd C dX11_strokes_9 ?_
  obtain ⟨v1, ev1, hf⟩ := ol_e hf
  refine g_nm ev1 ?_
  obtain ⟨h2, hf⟩ := og_e hf
  refine g_iald C (a_101 ad cy _) h2 dX11_strokes_10 ?_
  obtain ⟨v3, ev3, hf⟩ := ol_e hf
  refine g_nm ev3 ?_
  obtain ⟨rfl, rfl⟩ := os_e hf
  exact g_iret C rfl dX11_strokes_11
theorem c_X11_strokes (l : Launch) (dC : Nat → ClassId) (dI : Nat → Nat → Nat) (ad : Nat → Nat) (cy : Nat → ClassId) (x1 : Int32) : ConI l yX11_strokes cX11_strokes 2 (some .int) rm_X11_strokes dC dI ad cy [.ref (ad 98), .int x1] (fun σ => fX11_strokes σ x1) := con_i (own := RX11) (by decide) rfl (Nat.le_of_ble_eq_true rfl) (fun _ _ _ _ _ _ _ _ σ _ _ C hf => fX11_strokes_ok C σ x1 hf)
theorem cal_X11_strokes : CalV yX11_strokes RX11 cX11_strokes 2 (some .int) 1 := ⟨hI_X11_strokes, hS_X11_strokes, hIni_X11, hC_X11_strokes, by decide +kernel⟩
abbrev rm_X11_stroke : Room := { frames := 0, cells := 0, slots := 0, locals := 0 }
def fX11_stroke (σ : S0) (x1 : Int32) (x2 : Int32) : Option (Int32 × S0) := ol (((14 * x1) + 2) + x2) (fun v1 => og (¬ (v1 < 0 ∨ 84 ≤ v1.toNatClampNeg)) (ol (σ 101 v1.toNatClampNeg) (fun v3 => some (v3, σ))))
set_option maxHeartbeats 1000000 in
set_option maxRecDepth 100000 in
theorem fX11_stroke_ok {p : Program} {l : Launch} {e : Env} {s : State} {m : MethodId} {args : Array Value} {below : List Frame} {meth : Method} {c : Code} {dC : Nat → ClassId} {dI : Nat → Nat → Nat} {ad : Nat → Nat} {cy : Nat → ClassId} {sz : Nat} (C : Cx p s m args meth c RX11 cX11_stroke 3 (some .int) dC dI ad cy sz) {rr : Int32} {ρ : S0} (σ : S0) (x1 : Int32) (x2 : Int32)  (hf : fX11_stroke σ x1 x2 = some (rr, ρ)) : Gw p l e rm_X11_stroke s m args below meth c (MQ below (QcI dC dI ad cy sz rr ρ) args s 0 0 (AW ad sz)) dC dI ad cy 3 sz 0 0 0 [(0, .ref (ad 98)), (1, .int x1), (2, .int x2)] [] σ := by
  unfold fX11_stroke at hf
  refine g_aload_n C dX11_stroke_0 rfl 0 rfl ?_
  refine g_get C (a_98 ad cy _) rfl hin_X11 6 (by decide) hF_X11_17 rfl rfl dX11_stroke_1 ?_
  refine g_bipush (v := 14) C dX11_stroke_4 (by decide) ?_
  refine g_iload_n C dX11_stroke_6 rfl 1 rfl ?_
  refine g_imul C dX11_stroke_7 ?_
  refine g_iconst (v := 2) C dX11_stroke_8 (by decide) ?_
  refine g_iadd C dX11_stroke_9 ?_
  refine g_iload_n C dX11_stroke_10 rfl 2 rfl ?_
  refine g_iadd C dX11_stroke_11 ?_
  obtain ⟨v1, ev1, hf⟩ := ol_e hf
  refine g_nm ev1 ?_
  obtain ⟨h2, hf⟩ := og_e hf
  refine g_iald C (a_101 ad cy _) h2 dX11_stroke_12 ?_
  obtain ⟨v3, ev3, hf⟩ := ol_e hf
  refine g_nm ev3 ?_
  obtain ⟨rfl, rfl⟩ := os_e hf
  exact g_iret C rfl dX11_stroke_13
theorem c_X11_stroke (l : Launch) (dC : Nat → ClassId) (dI : Nat → Nat → Nat) (ad : Nat → Nat) (cy : Nat → ClassId) (x1 : Int32) (x2 : Int32) : ConI l yX11_stroke cX11_stroke 3 (some .int) rm_X11_stroke dC dI ad cy [.ref (ad 98), .int x1, .int x2] (fun σ => fX11_stroke σ x1 x2) := con_i (own := RX11) (by decide) rfl (Nat.le_of_ble_eq_true rfl) (fun _ _ _ _ _ _ _ _ σ _ _ C hf => fX11_stroke_ok C σ x1 x2 hf)
theorem cal_X11_stroke : CalV yX11_stroke RX11 cX11_stroke 3 (some .int) 2 := ⟨hI_X11_stroke, hS_X11_stroke, hIni_X11, hC_X11_stroke, by decide +kernel⟩
abbrev rm_X11_bell : Room := { frames := 2, cells := 0, slots := 0, locals := 46 }
def fX11_bell (σ : S0) (x1 : Int32) (x2 : Int32) : Option (Int32 × S0) := obp (fX11_isBell σ x1) (fun r1 σ2 => if r1 = 0 then (some ((-1), σ2)) else (obp (fX11_in σ2 x2.toInt64 ((0 : Int64)) ((4 : Int64))) (fun r5 σ6 => if r5 = 0 then (some ((-1), σ6)) else (obp (fX11_of σ6 x1 x2) (fun r9 σ10 => some (r9, σ10))))))
set_option maxHeartbeats 1000000 in
set_option maxRecDepth 100000 in
theorem fX11_bell_ok {p : Program} {l : Launch} {e : Env} {s : State} {m : MethodId} {args : Array Value} {below : List Frame} {meth : Method} {c : Code} {dC : Nat → ClassId} {dI : Nat → Nat → Nat} {ad : Nat → Nat} {cy : Nat → ClassId} {sz : Nat} (C : Cx p s m args meth c RX11 cX11_bell 3 (some .int) dC dI ad cy sz) {rr : Int32} {ρ : S0} (σ : S0) (x1 : Int32) (x2 : Int32)  (hf : fX11_bell σ x1 x2 = some (rr, ρ)) : Gw p l e rm_X11_bell s m args below meth c (MQ below (QcI dC dI ad cy sz rr ρ) args s 0 0 (AW ad sz)) dC dI ad cy 3 sz 0 0 0 [(0, .ref (ad 98)), (1, .int x1), (2, .int x2)] [] σ := by
  unfold fX11_bell at hf
  refine g_aload_n C dX11_bell_0 rfl 0 rfl ?_
  refine g_iload_n C dX11_bell_1 rfl 1 rfl ?_
  obtain ⟨r1, σ2, h3, hf⟩ := obp_e hf
  refine g_callVi (As := [.int x1]) (rest := []) C (a_98 ad cy _) rfl (c_X11_isBell l dC dI ad cy x1) h3 hM_X11_166 cal_X11_isBell ⟨Nat.zero_le _, Nat.zero_le _⟩ ⟨rfl, rfl⟩ ⟨Nat.le_of_ble_eq_true rfl, Nat.le_of_ble_eq_true rfl⟩ rfl rfl (Nat.le_of_ble_eq_true rfl) dX11_bell_2 ?_
  rcases oi_e hf with ⟨c4, hf⟩ | ⟨c4, hf⟩
  · refine g_if_eq_t (tgt := 29) C dX11_bell_5 (by decide) c4 ?_
    refine g_iconst (v := (-1)) C dX11_bell_29 (by decide) ?_
    obtain ⟨rfl, rfl⟩ := os_e hf
    exact g_iret C rfl dX11_bell_30
  · refine g_if_eq_f (tgt := 29) C dX11_bell_5 (by decide) c4 ?_
    refine g_iload_n C dX11_bell_8 rfl 2 rfl ?_
    refine g_i2l C dX11_bell_9 ?_
    refine g_lconst (v := 0) C dX11_bell_10 (by decide) ?_
    refine g_ldc2 (v := 4) C dX11_bell_11 hK_X11_170 ?_
    obtain ⟨r5, σ6, h7, hf⟩ := obp_e hf
    refine g_callSi (As := [.long x2.toInt64, .long 0, .long 4]) (rest := []) C (c_X11_in l dC dI ad cy x2.toInt64 ((0 : Int64)) ((4 : Int64))) h7 hM_X11_92 cal_X11_in ⟨Nat.zero_le _, Nat.zero_le _⟩ ⟨rfl, rfl⟩ ⟨Nat.le_of_ble_eq_true rfl, Nat.le_of_ble_eq_true rfl⟩ rfl rfl (Nat.le_of_ble_eq_true rfl) dX11_bell_14 ?_
    rcases oi_e hf with ⟨c8, hf⟩ | ⟨c8, hf⟩
    · refine g_if_eq_t (tgt := 29) C dX11_bell_17 (by decide) c8 ?_
      refine g_iconst (v := (-1)) C dX11_bell_29 (by decide) ?_
      obtain ⟨rfl, rfl⟩ := os_e hf
      exact g_iret C rfl dX11_bell_30
    · refine g_if_eq_f (tgt := 29) C dX11_bell_17 (by decide) c8 ?_
      refine g_aload_n C dX11_bell_20 rfl 0 rfl ?_
      refine g_iload_n C dX11_bell_21 rfl 1 rfl ?_
      refine g_iload_n C dX11_bell_22 rfl 2 rfl ?_
      obtain ⟨r9, σ10, h11, hf⟩ := obp_e hf
      refine g_callVi (As := [.int x1, .int x2]) (rest := []) C (a_98 ad cy _) rfl (c_X11_of l dC dI ad cy x1 x2) h11 hM_X11_172 cal_X11_of ⟨Nat.zero_le _, Nat.zero_le _⟩ ⟨rfl, rfl⟩ ⟨Nat.le_of_ble_eq_true rfl, Nat.le_of_ble_eq_true rfl⟩ rfl rfl (Nat.le_of_ble_eq_true rfl) dX11_bell_23 ?_
      refine g_goto (tgt := 30) C dX11_bell_26 (by decide) ?_
      obtain ⟨rfl, rfl⟩ := os_e hf
      exact g_iret C rfl dX11_bell_30
theorem c_X11_bell (l : Launch) (dC : Nat → ClassId) (dI : Nat → Nat → Nat) (ad : Nat → Nat) (cy : Nat → ClassId) (x1 : Int32) (x2 : Int32) : ConI l yX11_bell cX11_bell 3 (some .int) rm_X11_bell dC dI ad cy [.ref (ad 98), .int x1, .int x2] (fun σ => fX11_bell σ x1 x2) := con_i (own := RX11) (by decide) rfl (Nat.le_of_ble_eq_true rfl) (fun _ _ _ _ _ _ _ _ σ _ _ C hf => fX11_bell_ok C σ x1 x2 hf)
theorem cal_X11_bell : CalV yX11_bell RX11 cX11_bell 3 (some .int) 2 := ⟨hI_X11_bell, hS_X11_bell, hIni_X11, hC_X11_bell, by decide +kernel⟩
abbrev rm_X11_tune : Room := { frames := 2, cells := 0, slots := 0, locals := 46 }
def fX11_tune (σ : S0) (x1 : Int32) (x2 : Int32) : Option (Int32 × S0) := obp (fX11_isTune σ x1) (fun r1 σ2 => if ¬ r1 = 0 then (obp (fX11_in σ2 x2.toInt64 ((0 : Int64)) ((1 : Int64))) (fun r5 σ6 => if r5 = 0 then (obp (fX11_strokes σ6 x1) (fun r9 σ10 => obp (fX11_in σ10 x2.toInt64 ((10 : Int64)) ((9 + r9).toInt64)) (fun r12 σ13 => if r12 = 0 then (some ((-1), σ13)) else (obp (fX11_stroke σ13 x1 (x2 - 10)) (fun r16 σ17 => some (r16, σ17)))))) else (ol ((14 * x1) + x2) (fun v19 => og (¬ (v19 < 0 ∨ 84 ≤ v19.toNatClampNeg)) (ol (σ6 101 v19.toNatClampNeg) (fun v21 => some (v21, σ6))))))) else (some ((-1), σ2)))
set_option maxHeartbeats 1000000 in
set_option maxRecDepth 100000 in
theorem fX11_tune_ok {p : Program} {l : Launch} {e : Env} {s : State} {m : MethodId} {args : Array Value} {below : List Frame} {meth : Method} {c : Code} {dC : Nat → ClassId} {dI : Nat → Nat → Nat} {ad : Nat → Nat} {cy : Nat → ClassId} {sz : Nat} (C : Cx p s m args meth c RX11 cX11_tune 3 (some .int) dC dI ad cy sz) {rr : Int32} {ρ : S0} (σ : S0) (x1 : Int32) (x2 : Int32)  (hf : fX11_tune σ x1 x2 = some (rr, ρ)) : Gw p l e rm_X11_tune s m args below meth c (MQ below (QcI dC dI ad cy sz rr ρ) args s 0 0 (AW ad sz)) dC dI ad cy 3 sz 0 0 0 [(0, .ref (ad 98)), (1, .int x1), (2, .int x2)] [] σ := by
  unfold fX11_tune at hf
  refine g_aload_n C dX11_tune_0 rfl 0 rfl ?_
  refine g_iload_n C dX11_tune_1 rfl 1 rfl ?_
  obtain ⟨r1, σ2, h3, hf⟩ := obp_e hf
  refine g_callVi (As := [.int x1]) (rest := []) C (a_98 ad cy _) rfl (c_X11_isTune l dC dI ad cy x1) h3 hM_X11_175 cal_X11_isTune ⟨Nat.zero_le _, Nat.zero_le _⟩ ⟨rfl, rfl⟩ ⟨Nat.le_of_ble_eq_true rfl, Nat.le_of_ble_eq_true rfl⟩ rfl rfl (Nat.le_of_ble_eq_true rfl) dX11_tune_2 ?_
  rcases oi_e hf with ⟨c4, hf⟩ | ⟨c4, hf⟩
  · refine g_if_ne_t (tgt := 10) C dX11_tune_5 (by decide) c4 ?_
    refine g_iload_n C dX11_tune_10 rfl 2 rfl ?_
    refine g_i2l C dX11_tune_11 ?_
    refine g_lconst (v := 0) C dX11_tune_12 (by decide) ?_
    refine g_lconst (v := 1) C dX11_tune_13 (by decide) ?_
    obtain ⟨r5, σ6, h7, hf⟩ := obp_e hf
    refine g_callSi (As := [.long x2.toInt64, .long 0, .long 1]) (rest := []) C (c_X11_in l dC dI ad cy x2.toInt64 ((0 : Int64)) ((1 : Int64))) h7 hM_X11_92 cal_X11_in ⟨Nat.zero_le _, Nat.zero_le _⟩ ⟨rfl, rfl⟩ ⟨Nat.le_of_ble_eq_true rfl, Nat.le_of_ble_eq_true rfl⟩ rfl rfl (Nat.le_of_ble_eq_true rfl) dX11_tune_14 ?_
    rcases oi_e hf with ⟨c8, hf⟩ | ⟨c8, hf⟩
    · refine g_if_eq_t (tgt := 34) C dX11_tune_17 (by decide) c8 ?_
      refine g_iload_n C dX11_tune_34 rfl 2 rfl ?_
      refine g_i2l C dX11_tune_35 ?_
      refine g_ldc2 (v := 10) C dX11_tune_36 hK_X11_178 ?_
      refine g_bipush (v := 9) C dX11_tune_39 (by decide) ?_
      refine g_aload_n C dX11_tune_41 rfl 0 rfl ?_
      refine g_iload_n C dX11_tune_42 rfl 1 rfl ?_
      obtain ⟨r9, σ10, h11, hf⟩ := obp_e hf
      refine g_callVi (As := [.int x1]) (rest := [.int 9, .long 10, .long x2.toInt64]) C (a_98 ad cy _) rfl (c_X11_strokes l dC dI ad cy x1) h11 hM_X11_180 cal_X11_strokes ⟨Nat.zero_le _, Nat.zero_le _⟩ ⟨rfl, rfl⟩ ⟨Nat.le_of_ble_eq_true rfl, Nat.le_of_ble_eq_true rfl⟩ rfl rfl (Nat.le_of_ble_eq_true rfl) dX11_tune_43 ?_
      refine g_iadd C dX11_tune_46 ?_
      refine g_i2l C dX11_tune_47 ?_
      obtain ⟨r12, σ13, h14, hf⟩ := obp_e hf
      refine g_callSi (As := [.long x2.toInt64, .long 10, .long ((9 + r9).toInt64)]) (rest := []) C (c_X11_in l dC dI ad cy x2.toInt64 ((10 : Int64)) ((9 + r9).toInt64)) h14 hM_X11_92 cal_X11_in ⟨Nat.zero_le _, Nat.zero_le _⟩ ⟨rfl, rfl⟩ ⟨Nat.le_of_ble_eq_true rfl, Nat.le_of_ble_eq_true rfl⟩ rfl rfl (Nat.le_of_ble_eq_true rfl) dX11_tune_48 ?_
      rcases oi_e hf with ⟨c15, hf⟩ | ⟨c15, hf⟩
      · refine g_if_eq_t (tgt := 66) C dX11_tune_51 (by decide) c15 ?_
        refine g_iconst (v := (-1)) C dX11_tune_66 (by decide) ?_
        obtain ⟨rfl, rfl⟩ := os_e hf
        exact g_iret C rfl dX11_tune_67
      · refine g_if_eq_f (tgt := 66) C dX11_tune_51 (by decide) c15 ?_
        refine g_aload_n C dX11_tune_54 rfl 0 rfl ?_
        refine g_iload_n C dX11_tune_55 rfl 1 rfl ?_
        refine g_iload_n C dX11_tune_56 rfl 2 rfl ?_
        refine g_bipush (v := 10) C dX11_tune_57 (by decide) ?_
        refine g_isub C dX11_tune_59 ?_
        obtain ⟨r16, σ17, h18, hf⟩ := obp_e hf
        refine g_callVi (As := [.int x1, .int (x2 - 10)]) (rest := []) C (a_98 ad cy _) rfl (c_X11_stroke l dC dI ad cy x1 (x2 - 10)) h18 hM_X11_183 cal_X11_stroke ⟨Nat.zero_le _, Nat.zero_le _⟩ ⟨rfl, rfl⟩ ⟨Nat.le_of_ble_eq_true rfl, Nat.le_of_ble_eq_true rfl⟩ rfl rfl (Nat.le_of_ble_eq_true rfl) dX11_tune_60 ?_
        refine g_goto (tgt := 67) C dX11_tune_63 (by decide) ?_
        obtain ⟨rfl, rfl⟩ := os_e hf
        exact g_iret C rfl dX11_tune_67
    · refine g_if_eq_f (tgt := 34) C dX11_tune_17 (by decide) c8 ?_
      refine g_aload_n C dX11_tune_20 rfl 0 rfl ?_
      refine g_get C (a_98 ad cy _) rfl hin_X11 6 (by decide) hF_X11_17 rfl rfl dX11_tune_21 ?_
      refine g_bipush (v := 14) C dX11_tune_24 (by decide) ?_
      refine g_iload_n C dX11_tune_26 rfl 1 rfl ?_
      refine g_imul C dX11_tune_27 ?_
      refine g_iload_n C dX11_tune_28 rfl 2 rfl ?_
      refine g_iadd C dX11_tune_29 ?_
      obtain ⟨v19, ev19, hf⟩ := ol_e hf
      refine g_nm ev19 ?_
      obtain ⟨h20, hf⟩ := og_e hf
      refine g_iald C (a_101 ad cy _) h20 dX11_tune_30 ?_
      obtain ⟨v21, ev21, hf⟩ := ol_e hf
      refine g_nm ev21 ?_
      refine g_goto (tgt := 67) C dX11_tune_31 (by decide) ?_
      obtain ⟨rfl, rfl⟩ := os_e hf
      exact g_iret C rfl dX11_tune_67
  · refine g_if_ne_f (tgt := 10) C dX11_tune_5 (by decide) (Decidable.of_not_not c4) ?_
    refine g_iconst (v := (-1)) C dX11_tune_8 (by decide) ?_
    obtain ⟨rfl, rfl⟩ := os_e hf
    exact g_iret C rfl dX11_tune_9
theorem c_X11_tune (l : Launch) (dC : Nat → ClassId) (dI : Nat → Nat → Nat) (ad : Nat → Nat) (cy : Nat → ClassId) (x1 : Int32) (x2 : Int32) : ConI l yX11_tune cX11_tune 3 (some .int) rm_X11_tune dC dI ad cy [.ref (ad 98), .int x1, .int x2] (fun σ => fX11_tune σ x1 x2) := con_i (own := RX11) (by decide) rfl (Nat.le_of_ble_eq_true rfl) (fun _ _ _ _ _ _ _ _ σ _ _ C hf => fX11_tune_ok C σ x1 x2 hf)
theorem cal_X11_tune : CalV yX11_tune RX11 cX11_tune 3 (some .int) 2 := ⟨hI_X11_tune, hS_X11_tune, hIni_X11, hC_X11_tune, by decide +kernel⟩
abbrev rm_X11_feuds : Room := { frames := 2, cells := 0, slots := 0, locals := 46 }
def fX11_feuds (σ : S0) (x1 : Int32) : Option (Int32 × S0) := obp (fX11_isHouse σ x1) (fun r1 σ2 => if r1 = 0 then (some ((-1), σ2)) else (ol (60 + x1) (fun v5 => og (¬ (v5 < 0 ∨ 240 ≤ v5.toNatClampNeg)) (ol (σ2 99 v5.toNatClampNeg) (fun v7 => some (v7, σ2))))))
set_option maxHeartbeats 1000000 in
set_option maxRecDepth 100000 in
theorem fX11_feuds_ok {p : Program} {l : Launch} {e : Env} {s : State} {m : MethodId} {args : Array Value} {below : List Frame} {meth : Method} {c : Code} {dC : Nat → ClassId} {dI : Nat → Nat → Nat} {ad : Nat → Nat} {cy : Nat → ClassId} {sz : Nat} (C : Cx p s m args meth c RX11 cX11_feuds 2 (some .int) dC dI ad cy sz) {rr : Int32} {ρ : S0} (σ : S0) (x1 : Int32)  (hf : fX11_feuds σ x1 = some (rr, ρ)) : Gw p l e rm_X11_feuds s m args below meth c (MQ below (QcI dC dI ad cy sz rr ρ) args s 0 0 (AW ad sz)) dC dI ad cy 2 sz 0 0 0 [(0, .ref (ad 98)), (1, .int x1)] [] σ := by
  unfold fX11_feuds at hf
  refine g_aload_n C dX11_feuds_0 rfl 0 rfl ?_
  refine g_iload_n C dX11_feuds_1 rfl 1 rfl ?_
  obtain ⟨r1, σ2, h3, hf⟩ := obp_e hf
  refine g_callVi (As := [.int x1]) (rest := []) C (a_98 ad cy _) rfl (c_X11_isHouse l dC dI ad cy x1) h3 hM_X11_186 cal_X11_isHouse ⟨Nat.zero_le _, Nat.zero_le _⟩ ⟨rfl, rfl⟩ ⟨Nat.le_of_ble_eq_true rfl, Nat.le_of_ble_eq_true rfl⟩ rfl rfl (Nat.le_of_ble_eq_true rfl) dX11_feuds_2 ?_
  rcases oi_e hf with ⟨c4, hf⟩ | ⟨c4, hf⟩
  · refine g_if_eq_t (tgt := 20) C dX11_feuds_5 (by decide) c4 ?_
    refine g_iconst (v := (-1)) C dX11_feuds_20 (by decide) ?_
    obtain ⟨rfl, rfl⟩ := os_e hf
    exact g_iret C rfl dX11_feuds_21
  · refine g_if_eq_f (tgt := 20) C dX11_feuds_5 (by decide) c4 ?_
    refine g_aload_n C dX11_feuds_8 rfl 0 rfl ?_
    refine g_get C (a_98 ad cy _) rfl hin_X11 0 (by decide) hF_X11_7 rfl rfl dX11_feuds_9 ?_
    refine g_bipush (v := 60) C dX11_feuds_12 (by decide) ?_
    refine g_iload_n C dX11_feuds_14 rfl 1 rfl ?_
    refine g_iadd C dX11_feuds_15 ?_
    obtain ⟨v5, ev5, hf⟩ := ol_e hf
    refine g_nm ev5 ?_
    obtain ⟨h6, hf⟩ := og_e hf
    refine g_iald C (a_99 ad cy _) h6 dX11_feuds_16 ?_
    obtain ⟨v7, ev7, hf⟩ := ol_e hf
    refine g_nm ev7 ?_
    refine g_goto (tgt := 21) C dX11_feuds_17 (by decide) ?_
    obtain ⟨rfl, rfl⟩ := os_e hf
    exact g_iret C rfl dX11_feuds_21
theorem c_X11_feuds (l : Launch) (dC : Nat → ClassId) (dI : Nat → Nat → Nat) (ad : Nat → Nat) (cy : Nat → ClassId) (x1 : Int32) : ConI l yX11_feuds cX11_feuds 2 (some .int) rm_X11_feuds dC dI ad cy [.ref (ad 98), .int x1] (fun σ => fX11_feuds σ x1) := con_i (own := RX11) (by decide) rfl (Nat.le_of_ble_eq_true rfl) (fun _ _ _ _ _ _ _ _ σ _ _ C hf => fX11_feuds_ok C σ x1 hf)
theorem cal_X11_feuds : CalV yX11_feuds RX11 cX11_feuds 2 (some .int) 1 := ⟨hI_X11_feuds, hS_X11_feuds, hIni_X11, hC_X11_feuds, by decide +kernel⟩
abbrev rm_X11_fee : Room := { frames := 2, cells := 0, slots := 0, locals := 46 }
def fX11_fee (σ : S0) (x1 : Int32) (x2 : Int32) : Option (Int32 × S0) := obp (fX11_isBell σ x1) (fun r1 σ2 => if r1 = 0 then (some ((-1), σ2)) else (obp (fX11_in σ2 x2.toInt64 ((0 : Int64)) ((20 : Int64))) (fun r5 σ6 => if ¬ r5 = 0 then (obp (fX11_of σ6 x1 ((1 : Int32))) (fun r9 σ10 => ol ((5 * x1) + 1) (fun v12 => og (¬ (v12 < 0 ∨ 240 ≤ v12.toNatClampNeg)) (ol (su σ10 99 v12.toNatClampNeg x2) (fun σ14 => some (r9, σ14)))))) else (some ((-1), σ6)))))
set_option maxHeartbeats 1000000 in
set_option maxRecDepth 100000 in
theorem fX11_fee_ok {p : Program} {l : Launch} {e : Env} {s : State} {m : MethodId} {args : Array Value} {below : List Frame} {meth : Method} {c : Code} {dC : Nat → ClassId} {dI : Nat → Nat → Nat} {ad : Nat → Nat} {cy : Nat → ClassId} {sz : Nat} (C : Cx p s m args meth c RX11 cX11_fee 4 (some .int) dC dI ad cy sz) {rr : Int32} {ρ : S0} (σ : S0) (x1 : Int32) (x2 : Int32)  (hf : fX11_fee σ x1 x2 = some (rr, ρ)) : Gw p l e rm_X11_fee s m args below meth c (MQ below (QcI dC dI ad cy sz rr ρ) args s 0 0 (AW ad sz)) dC dI ad cy 4 sz 0 0 0 [(0, .ref (ad 98)), (1, .int x1), (2, .int x2)] [] σ := by
  unfold fX11_fee at hf
  refine g_aload_n C dX11_fee_0 rfl 0 rfl ?_
  refine g_iload_n C dX11_fee_1 rfl 1 rfl ?_
  obtain ⟨r1, σ2, h3, hf⟩ := obp_e hf
  refine g_callVi (As := [.int x1]) (rest := []) C (a_98 ad cy _) rfl (c_X11_isBell l dC dI ad cy x1) h3 hM_X11_166 cal_X11_isBell ⟨Nat.zero_le _, Nat.zero_le _⟩ ⟨rfl, rfl⟩ ⟨Nat.le_of_ble_eq_true rfl, Nat.le_of_ble_eq_true rfl⟩ rfl rfl (Nat.le_of_ble_eq_true rfl) dX11_fee_2 ?_
  rcases oi_e hf with ⟨c4, hf⟩ | ⟨c4, hf⟩
  · refine g_if_eq_t (tgt := 20) C dX11_fee_5 (by decide) c4 ?_
    refine g_iconst (v := (-1)) C dX11_fee_20 (by decide) ?_
    obtain ⟨rfl, rfl⟩ := os_e hf
    exact g_iret C rfl dX11_fee_21
  · refine g_if_eq_f (tgt := 20) C dX11_fee_5 (by decide) c4 ?_
    refine g_iload_n C dX11_fee_8 rfl 2 rfl ?_
    refine g_i2l C dX11_fee_9 ?_
    refine g_lconst (v := 0) C dX11_fee_10 (by decide) ?_
    refine g_ldc2 (v := 20) C dX11_fee_11 hK_X11_189 ?_
    obtain ⟨r5, σ6, h7, hf⟩ := obp_e hf
    refine g_callSi (As := [.long x2.toInt64, .long 0, .long 20]) (rest := []) C (c_X11_in l dC dI ad cy x2.toInt64 ((0 : Int64)) ((20 : Int64))) h7 hM_X11_92 cal_X11_in ⟨Nat.zero_le _, Nat.zero_le _⟩ ⟨rfl, rfl⟩ ⟨Nat.le_of_ble_eq_true rfl, Nat.le_of_ble_eq_true rfl⟩ rfl rfl (Nat.le_of_ble_eq_true rfl) dX11_fee_14 ?_
    rcases oi_e hf with ⟨c8, hf⟩ | ⟨c8, hf⟩
    · refine g_if_ne_t (tgt := 22) C dX11_fee_17 (by decide) c8 ?_
      refine g_aload_n C dX11_fee_22 rfl 0 rfl ?_
      refine g_iload_n C dX11_fee_23 rfl 1 rfl ?_
      refine g_iconst (v := 1) C dX11_fee_24 (by decide) ?_
      obtain ⟨r9, σ10, h11, hf⟩ := obp_e hf
      refine g_callVi (As := [.int x1, .int 1]) (rest := []) C (a_98 ad cy _) rfl (c_X11_of l dC dI ad cy x1 ((1 : Int32))) h11 hM_X11_172 cal_X11_of ⟨Nat.zero_le _, Nat.zero_le _⟩ ⟨rfl, rfl⟩ ⟨Nat.le_of_ble_eq_true rfl, Nat.le_of_ble_eq_true rfl⟩ rfl rfl (Nat.le_of_ble_eq_true rfl) dX11_fee_25 ?_
      refine g_istore_n (lv2 := [(0, .ref (ad 98)), (1, .int x1), (2, .int x2), (3, .int r9)]) C dX11_fee_28 rfl (by decide) [1, 2, 3, 0] rfl ?_
      refine g_aload_n C dX11_fee_29 rfl 0 rfl ?_
      refine g_get C (a_98 ad cy _) rfl hin_X11 0 (by decide) hF_X11_7 rfl rfl dX11_fee_30 ?_
      refine g_iconst (v := 5) C dX11_fee_33 (by decide) ?_
      refine g_iload_n C dX11_fee_34 rfl 1 rfl ?_
      refine g_imul C dX11_fee_35 ?_
      refine g_iconst (v := 1) C dX11_fee_36 (by decide) ?_
      refine g_iadd C dX11_fee_37 ?_
      refine g_iload_n C dX11_fee_38 rfl 2 rfl ?_
      obtain ⟨v12, ev12, hf⟩ := ol_e hf
      refine g_nm2 ev12 ?_
      obtain ⟨h13, hf⟩ := og_e hf
      obtain ⟨σ14, eσ14, hf⟩ := ol_e hf
      refine g_iast C (a_99 ad cy _) h13 (w_99 ad cy _) eσ14 dX11_fee_39 ?_
      refine g_iload_n C dX11_fee_40 rfl 3 rfl ?_
      obtain ⟨rfl, rfl⟩ := os_e hf
      exact g_iret C rfl dX11_fee_41
    · refine g_if_ne_f (tgt := 22) C dX11_fee_17 (by decide) (Decidable.of_not_not c8) ?_
      refine g_iconst (v := (-1)) C dX11_fee_20 (by decide) ?_
      obtain ⟨rfl, rfl⟩ := os_e hf
      exact g_iret C rfl dX11_fee_21
theorem c_X11_fee (l : Launch) (dC : Nat → ClassId) (dI : Nat → Nat → Nat) (ad : Nat → Nat) (cy : Nat → ClassId) (x1 : Int32) (x2 : Int32) : ConI l yX11_fee cX11_fee 4 (some .int) rm_X11_fee dC dI ad cy [.ref (ad 98), .int x1, .int x2] (fun σ => fX11_fee σ x1 x2) := con_i (own := RX11) (by decide) rfl (Nat.le_of_ble_eq_true rfl) (fun _ _ _ _ _ _ _ _ σ _ _ C hf => fX11_fee_ok C σ x1 x2 hf)
theorem cal_X11_fee : CalV yX11_fee RX11 cX11_fee 4 (some .int) 2 := ⟨hI_X11_fee, hS_X11_fee, hIni_X11, hC_X11_fee, by decide +kernel⟩
abbrev rm_X11_shut : Room := { frames := 2, cells := 0, slots := 0, locals := 46 }
def fX11_shut (σ : S0) (x1 : Int32) (x2 : Int32) : Option (Int32 × S0) := obp (fX11_isBell σ x1) (fun r1 σ2 => if ¬ r1 = 0 then (obp (fX11_of σ2 x1 ((3 : Int32))) (fun r5 σ6 => obp (fX11_flag σ6 x2) (fun r8 σ9 => ol ((5 * x1) + 3) (fun v11 => og (¬ (v11 < 0 ∨ 240 ≤ v11.toNatClampNeg)) (ol (su σ9 99 v11.toNatClampNeg r8) (fun σ13 => some (r5, σ13))))))) else (some ((-1), σ2)))
set_option maxHeartbeats 1000000 in
set_option maxRecDepth 100000 in
theorem fX11_shut_ok {p : Program} {l : Launch} {e : Env} {s : State} {m : MethodId} {args : Array Value} {below : List Frame} {meth : Method} {c : Code} {dC : Nat → ClassId} {dI : Nat → Nat → Nat} {ad : Nat → Nat} {cy : Nat → ClassId} {sz : Nat} (C : Cx p s m args meth c RX11 cX11_shut 4 (some .int) dC dI ad cy sz) {rr : Int32} {ρ : S0} (σ : S0) (x1 : Int32) (x2 : Int32)  (hf : fX11_shut σ x1 x2 = some (rr, ρ)) : Gw p l e rm_X11_shut s m args below meth c (MQ below (QcI dC dI ad cy sz rr ρ) args s 0 0 (AW ad sz)) dC dI ad cy 4 sz 0 0 0 [(0, .ref (ad 98)), (1, .int x1), (2, .int x2)] [] σ := by
  unfold fX11_shut at hf
  refine g_aload_n C dX11_shut_0 rfl 0 rfl ?_
  refine g_iload_n C dX11_shut_1 rfl 1 rfl ?_
  obtain ⟨r1, σ2, h3, hf⟩ := obp_e hf
  refine g_callVi (As := [.int x1]) (rest := []) C (a_98 ad cy _) rfl (c_X11_isBell l dC dI ad cy x1) h3 hM_X11_166 cal_X11_isBell ⟨Nat.zero_le _, Nat.zero_le _⟩ ⟨rfl, rfl⟩ ⟨Nat.le_of_ble_eq_true rfl, Nat.le_of_ble_eq_true rfl⟩ rfl rfl (Nat.le_of_ble_eq_true rfl) dX11_shut_2 ?_
  rcases oi_e hf with ⟨c4, hf⟩ | ⟨c4, hf⟩
  · refine g_if_ne_t (tgt := 10) C dX11_shut_5 (by decide) c4 ?_
    refine g_aload_n C dX11_shut_10 rfl 0 rfl ?_
    refine g_iload_n C dX11_shut_11 rfl 1 rfl ?_
    refine g_iconst (v := 3) C dX11_shut_12 (by decide) ?_
    obtain ⟨r5, σ6, h7, hf⟩ := obp_e hf
    refine g_callVi (As := [.int x1, .int 3]) (rest := []) C (a_98 ad cy _) rfl (c_X11_of l dC dI ad cy x1 ((3 : Int32))) h7 hM_X11_172 cal_X11_of ⟨Nat.zero_le _, Nat.zero_le _⟩ ⟨rfl, rfl⟩ ⟨Nat.le_of_ble_eq_true rfl, Nat.le_of_ble_eq_true rfl⟩ rfl rfl (Nat.le_of_ble_eq_true rfl) dX11_shut_13 ?_
    refine g_istore_n (lv2 := [(0, .ref (ad 98)), (1, .int x1), (2, .int x2), (3, .int r5)]) C dX11_shut_16 rfl (by decide) [1, 2, 3, 0] rfl ?_
    refine g_aload_n C dX11_shut_17 rfl 0 rfl ?_
    refine g_get C (a_98 ad cy _) rfl hin_X11 0 (by decide) hF_X11_7 rfl rfl dX11_shut_18 ?_
    refine g_iconst (v := 5) C dX11_shut_21 (by decide) ?_
    refine g_iload_n C dX11_shut_22 rfl 1 rfl ?_
    refine g_imul C dX11_shut_23 ?_
    refine g_iconst (v := 3) C dX11_shut_24 (by decide) ?_
    refine g_iadd C dX11_shut_25 ?_
    refine g_iload_n C dX11_shut_26 rfl 2 rfl ?_
    obtain ⟨r8, σ9, h10, hf⟩ := obp_e hf
    refine g_callSi (As := [.int x2]) (rest := [.int ((5 * x1) + 3), .ref (ad 99)]) C (c_X11_flag l dC dI ad cy x2) h10 hM_X11_191 cal_X11_flag ⟨Nat.zero_le _, Nat.zero_le _⟩ ⟨rfl, rfl⟩ ⟨Nat.le_of_ble_eq_true rfl, Nat.le_of_ble_eq_true rfl⟩ rfl rfl (Nat.le_of_ble_eq_true rfl) dX11_shut_27 ?_
    obtain ⟨v11, ev11, hf⟩ := ol_e hf
    refine g_nm2 ev11 ?_
    obtain ⟨h12, hf⟩ := og_e hf
    obtain ⟨σ13, eσ13, hf⟩ := ol_e hf
    refine g_iast C (a_99 ad cy _) h12 (w_99 ad cy _) eσ13 dX11_shut_30 ?_
    refine g_iload_n C dX11_shut_31 rfl 3 rfl ?_
    obtain ⟨rfl, rfl⟩ := os_e hf
    exact g_iret C rfl dX11_shut_32
  · refine g_if_ne_f (tgt := 10) C dX11_shut_5 (by decide) (Decidable.of_not_not c4) ?_
    refine g_iconst (v := (-1)) C dX11_shut_8 (by decide) ?_
    obtain ⟨rfl, rfl⟩ := os_e hf
    exact g_iret C rfl dX11_shut_9
theorem c_X11_shut (l : Launch) (dC : Nat → ClassId) (dI : Nat → Nat → Nat) (ad : Nat → Nat) (cy : Nat → ClassId) (x1 : Int32) (x2 : Int32) : ConI l yX11_shut cX11_shut 4 (some .int) rm_X11_shut dC dI ad cy [.ref (ad 98), .int x1, .int x2] (fun σ => fX11_shut σ x1 x2) := con_i (own := RX11) (by decide) rfl (Nat.le_of_ble_eq_true rfl) (fun _ _ _ _ _ _ _ _ σ _ _ C hf => fX11_shut_ok C σ x1 x2 hf)
theorem cal_X11_shut : CalV yX11_shut RX11 cX11_shut 4 (some .int) 2 := ⟨hI_X11_shut, hS_X11_shut, hIni_X11, hC_X11_shut, by decide +kernel⟩
abbrev rm_X11_sell : Room := { frames := 2, cells := 0, slots := 0, locals := 46 }
def fX11_sell_b74  (σ : S0) (x3 : Int32) (t0 : Int32) (t1 : Int32) : Option (Int32 × S0) := og (¬ (t1 < 0 ∨ 240 ≤ t1.toNatClampNeg)) (ol (su σ 99 t1.toNatClampNeg t0) (fun σ2 => some (x3, σ2)))
set_option maxHeartbeats 1000000 in
set_option maxRecDepth 100000 in
theorem fX11_sell_b74_ok {p : Program} {l : Launch} {e : Env} {s : State} {m : MethodId} {args : Array Value} {below : List Frame} {meth : Method} {c : Code} {dC : Nat → ClassId} {dI : Nat → Nat → Nat} {ad : Nat → Nat} {cy : Nat → ClassId} {sz : Nat} (C : Cx p s m args meth c RX11 cX11_sell 4 (some .int) dC dI ad cy sz) {rr : Int32} {ρ : S0}  (σ : S0) (x3 : Int32) (t0 : Int32) (t1 : Int32)  (hf : fX11_sell_b74 σ x3 t0 t1 = some (rr, ρ)) : Gw p l e rm_X11_sell s m args below meth c (MQ below (QcI dC dI ad cy sz rr ρ) args s 0 0 (AW ad sz)) dC dI ad cy 4 sz 0 0 74 [(3, .int x3)] [.int t0, .int t1, .ref (ad 99)] σ := by
  unfold fX11_sell_b74 at hf
  obtain ⟨h1, hf⟩ := og_e hf
  obtain ⟨σ2, eσ2, hf⟩ := ol_e hf
  refine g_iast C (a_99 ad cy _) h1 (w_99 ad cy _) eσ2 dX11_sell_74 ?_
  refine g_iload_n C dX11_sell_75 rfl 0 rfl ?_
  obtain ⟨rfl, rfl⟩ := os_e hf
  exact g_iret C rfl dX11_sell_76
def fX11_sell (σ : S0) (x1 : Int32) (x2 : Int32) : Option (Int32 × S0) := obp (fX11_isBell σ x1) (fun r1 σ2 => if r1 = 0 then (some ((-1), σ2)) else (obp (fX11_isHouse σ2 x2) (fun r5 σ6 => if ¬ r5 = 0 then (obp (fX11_of σ6 x1 ((0 : Int32))) (fun r9 σ10 => if ¬ r9 = x2 then (ol ((5 * x1) + 0) (fun v13 => og (¬ (v13 < 0 ∨ 240 ≤ v13.toNatClampNeg)) (ol (su σ10 99 v13.toNatClampNeg x2) (fun σ15 => obp (fX11_of σ15 x1 ((4 : Int32))) (fun r16 σ17 => if ¬ r16 = x2 then (obp (fX11_of σ17 x1 ((4 : Int32))) (fun r20 σ21 => fX11_sell_b74 σ21 r9 r20 ((5 * x1) + 4))) else (fX11_sell_b74 σ17 r9 ((-4)) ((5 * x1) + 4))))))) else (some ((-2), σ10)))) else (some ((-1), σ6)))))
set_option maxHeartbeats 1000000 in
set_option maxRecDepth 100000 in
theorem fX11_sell_ok {p : Program} {l : Launch} {e : Env} {s : State} {m : MethodId} {args : Array Value} {below : List Frame} {meth : Method} {c : Code} {dC : Nat → ClassId} {dI : Nat → Nat → Nat} {ad : Nat → Nat} {cy : Nat → ClassId} {sz : Nat} (C : Cx p s m args meth c RX11 cX11_sell 4 (some .int) dC dI ad cy sz) {rr : Int32} {ρ : S0} (σ : S0) (x1 : Int32) (x2 : Int32)  (hf : fX11_sell σ x1 x2 = some (rr, ρ)) : Gw p l e rm_X11_sell s m args below meth c (MQ below (QcI dC dI ad cy sz rr ρ) args s 0 0 (AW ad sz)) dC dI ad cy 4 sz 0 0 0 [(0, .ref (ad 98)), (1, .int x1), (2, .int x2)] [] σ := by
  unfold fX11_sell at hf
  refine g_aload_n C dX11_sell_0 rfl 0 rfl ?_
  refine g_iload_n C dX11_sell_1 rfl 1 rfl ?_
  obtain ⟨r1, σ2, h3, hf⟩ := obp_e hf
  refine g_callVi (As := [.int x1]) (rest := []) C (a_98 ad cy _) rfl (c_X11_isBell l dC dI ad cy x1) h3 hM_X11_166 cal_X11_isBell ⟨Nat.zero_le _, Nat.zero_le _⟩ ⟨rfl, rfl⟩ ⟨Nat.le_of_ble_eq_true rfl, Nat.le_of_ble_eq_true rfl⟩ rfl rfl (Nat.le_of_ble_eq_true rfl) dX11_sell_2 ?_
  rcases oi_e hf with ⟨c4, hf⟩ | ⟨c4, hf⟩
  · refine g_if_eq_t (tgt := 16) C dX11_sell_5 (by decide) c4 ?_
    refine g_iconst (v := (-1)) C dX11_sell_16 (by decide) ?_
    obtain ⟨rfl, rfl⟩ := os_e hf
    exact g_iret C rfl dX11_sell_17
  · refine g_if_eq_f (tgt := 16) C dX11_sell_5 (by decide) c4 ?_
    refine g_aload_n C dX11_sell_8 rfl 0 rfl ?_
    refine g_iload_n C dX11_sell_9 rfl 2 rfl ?_
    obtain ⟨r5, σ6, h7, hf⟩ := obp_e hf
    refine g_callVi (As := [.int x2]) (rest := []) C (a_98 ad cy _) rfl (c_X11_isHouse l dC dI ad cy x2) h7 hM_X11_186 cal_X11_isHouse ⟨Nat.zero_le _, Nat.zero_le _⟩ ⟨rfl, rfl⟩ ⟨Nat.le_of_ble_eq_true rfl, Nat.le_of_ble_eq_true rfl⟩ rfl rfl (Nat.le_of_ble_eq_true rfl) dX11_sell_10 ?_
    rcases oi_e hf with ⟨c8, hf⟩ | ⟨c8, hf⟩
    · refine g_if_ne_t (tgt := 18) C dX11_sell_13 (by decide) c8 ?_
      refine g_aload_n C dX11_sell_18 rfl 0 rfl ?_
      refine g_iload_n C dX11_sell_19 rfl 1 rfl ?_
      refine g_iconst (v := 0) C dX11_sell_20 (by decide) ?_
      obtain ⟨r9, σ10, h11, hf⟩ := obp_e hf
      refine g_callVi (As := [.int x1, .int 0]) (rest := []) C (a_98 ad cy _) rfl (c_X11_of l dC dI ad cy x1 ((0 : Int32))) h11 hM_X11_172 cal_X11_of ⟨Nat.zero_le _, Nat.zero_le _⟩ ⟨rfl, rfl⟩ ⟨Nat.le_of_ble_eq_true rfl, Nat.le_of_ble_eq_true rfl⟩ rfl rfl (Nat.le_of_ble_eq_true rfl) dX11_sell_21 ?_
      refine g_istore_n (lv2 := [(0, .ref (ad 98)), (1, .int x1), (2, .int x2), (3, .int r9)]) C dX11_sell_24 rfl (by decide) [1, 2, 3, 0] rfl ?_
      refine g_iload_n C dX11_sell_25 rfl 3 rfl ?_
      refine g_iload_n C dX11_sell_26 rfl 2 rfl ?_
      rcases oi_e hf with ⟨c12, hf⟩ | ⟨c12, hf⟩
      · refine g_icmp_ne_t (tgt := 33) C dX11_sell_27 (by decide) c12 ?_
        refine g_aload_n C dX11_sell_33 rfl 0 rfl ?_
        refine g_get C (a_98 ad cy _) rfl hin_X11 0 (by decide) hF_X11_7 rfl rfl dX11_sell_34 ?_
        refine g_iconst (v := 5) C dX11_sell_37 (by decide) ?_
        refine g_iload_n C dX11_sell_38 rfl 1 rfl ?_
        refine g_imul C dX11_sell_39 ?_
        refine g_iconst (v := 0) C dX11_sell_40 (by decide) ?_
        refine g_iadd C dX11_sell_41 ?_
        refine g_iload_n C dX11_sell_42 rfl 2 rfl ?_
        obtain ⟨v13, ev13, hf⟩ := ol_e hf
        refine g_nm2 ev13 ?_
        obtain ⟨h14, hf⟩ := og_e hf
        obtain ⟨σ15, eσ15, hf⟩ := ol_e hf
        refine g_iast C (a_99 ad cy _) h14 (w_99 ad cy _) eσ15 dX11_sell_43 ?_
        refine g_aload_n C dX11_sell_44 rfl 0 rfl ?_
        refine g_get C (a_98 ad cy _) rfl hin_X11 0 (by decide) hF_X11_7 rfl rfl dX11_sell_45 ?_
        refine g_iconst (v := 5) C dX11_sell_48 (by decide) ?_
        refine g_iload_n C dX11_sell_49 rfl 1 rfl ?_
        refine g_imul C dX11_sell_50 ?_
        refine g_iconst (v := 4) C dX11_sell_51 (by decide) ?_
        refine g_iadd C dX11_sell_52 ?_
        refine g_aload_n C dX11_sell_53 rfl 0 rfl ?_
        refine g_iload_n C dX11_sell_54 rfl 1 rfl ?_
        refine g_iconst (v := 4) C dX11_sell_55 (by decide) ?_
        obtain ⟨r16, σ17, h18, hf⟩ := obp_e hf
        refine g_callVi (As := [.int x1, .int 4]) (rest := [.int ((5 * x1) + 4), .ref (ad 99)]) C (a_98 ad cy _) rfl (c_X11_of l dC dI ad cy x1 ((4 : Int32))) h18 hM_X11_172 cal_X11_of ⟨Nat.zero_le _, Nat.zero_le _⟩ ⟨rfl, rfl⟩ ⟨Nat.le_of_ble_eq_true rfl, Nat.le_of_ble_eq_true rfl⟩ rfl rfl (Nat.le_of_ble_eq_true rfl) dX11_sell_56 ?_
        refine g_iload_n C dX11_sell_59 rfl 2 rfl ?_
        rcases oi_e hf with ⟨c19, hf⟩ | ⟨c19, hf⟩
        · refine g_icmp_ne_t (tgt := 68) C dX11_sell_60 (by decide) c19 ?_
          refine g_aload_n C dX11_sell_68 rfl 0 rfl ?_
          refine g_iload_n C dX11_sell_69 rfl 1 rfl ?_
          refine g_iconst (v := 4) C dX11_sell_70 (by decide) ?_
          obtain ⟨r20, σ21, h22, hf⟩ := obp_e hf
          refine g_callVi (As := [.int x1, .int 4]) (rest := [.int ((5 * x1) + 4), .ref (ad 99)]) C (a_98 ad cy _) rfl (c_X11_of l dC dI ad cy x1 ((4 : Int32))) h22 hM_X11_172 cal_X11_of ⟨Nat.zero_le _, Nat.zero_le _⟩ ⟨rfl, rfl⟩ ⟨Nat.le_of_ble_eq_true rfl, Nat.le_of_ble_eq_true rfl⟩ rfl rfl (Nat.le_of_ble_eq_true rfl) dX11_sell_71 ?_
          exact g_sub [3] rfl (fX11_sell_b74_ok C σ21 r9 r20 ((5 * x1) + 4) hf)
        · refine g_icmp_ne_f (tgt := 68) C dX11_sell_60 (by decide) (Decidable.of_not_not c19) ?_
          refine g_bipush (v := (-4)) C dX11_sell_63 (by decide) ?_
          refine g_goto (tgt := 74) C dX11_sell_65 (by decide) ?_
          exact g_sub [3] rfl (fX11_sell_b74_ok C σ17 r9 ((-4)) ((5 * x1) + 4) hf)
      · refine g_icmp_ne_f (tgt := 33) C dX11_sell_27 (by decide) (Decidable.of_not_not c12) ?_
        refine g_bipush (v := (-2)) C dX11_sell_30 (by decide) ?_
        obtain ⟨rfl, rfl⟩ := os_e hf
        exact g_iret C rfl dX11_sell_32
    · refine g_if_ne_f (tgt := 18) C dX11_sell_13 (by decide) (Decidable.of_not_not c8) ?_
      refine g_iconst (v := (-1)) C dX11_sell_16 (by decide) ?_
      obtain ⟨rfl, rfl⟩ := os_e hf
      exact g_iret C rfl dX11_sell_17
theorem c_X11_sell (l : Launch) (dC : Nat → ClassId) (dI : Nat → Nat → Nat) (ad : Nat → Nat) (cy : Nat → ClassId) (x1 : Int32) (x2 : Int32) : ConI l yX11_sell cX11_sell 4 (some .int) rm_X11_sell dC dI ad cy [.ref (ad 98), .int x1, .int x2] (fun σ => fX11_sell σ x1 x2) := con_i (own := RX11) (by decide) rfl (Nat.le_of_ble_eq_true rfl) (fun _ _ _ _ _ _ _ _ σ _ _ C hf => fX11_sell_ok C σ x1 x2 hf)
theorem cal_X11_sell : CalV yX11_sell RX11 cX11_sell 4 (some .int) 2 := ⟨hI_X11_sell, hS_X11_sell, hIni_X11, hC_X11_sell, by decide +kernel⟩
abbrev rm_X11_half : Room := { frames := 2, cells := 0, slots := 0, locals := 46 }
def fX11_half_b24  (σ : S0) (x1 : Int32) (x2 : Int32) : Option (Int32 × S0) := obp (fX11_of σ x1 ((0 : Int32))) (fun r1 σ2 => if ¬ r1 = x2 then (obp (fX11_of σ2 x1 ((4 : Int32))) (fun r5 σ6 => ol ((5 * x1) + 4) (fun v8 => og (¬ (v8 < 0 ∨ 240 ≤ v8.toNatClampNeg)) (ol (su σ6 99 v8.toNatClampNeg x2) (fun σ10 => some (r5, σ10)))))) else (some ((-2), σ2)))
set_option maxHeartbeats 1000000 in
set_option maxRecDepth 100000 in
theorem fX11_half_b24_ok {p : Program} {l : Launch} {e : Env} {s : State} {m : MethodId} {args : Array Value} {below : List Frame} {meth : Method} {c : Code} {dC : Nat → ClassId} {dI : Nat → Nat → Nat} {ad : Nat → Nat} {cy : Nat → ClassId} {sz : Nat} (C : Cx p s m args meth c RX11 cX11_half 4 (some .int) dC dI ad cy sz) {rr : Int32} {ρ : S0}  (σ : S0) (x1 : Int32) (x2 : Int32)  (hf : fX11_half_b24 σ x1 x2 = some (rr, ρ)) : Gw p l e rm_X11_half s m args below meth c (MQ below (QcI dC dI ad cy sz rr ρ) args s 0 0 (AW ad sz)) dC dI ad cy 4 sz 0 0 24 [(0, .ref (ad 98)), (1, .int x1), (2, .int x2)] [] σ := by
  unfold fX11_half_b24 at hf
  refine g_aload_n C dX11_half_24 rfl 0 rfl ?_
  refine g_iload_n C dX11_half_25 rfl 1 rfl ?_
  refine g_iconst (v := 0) C dX11_half_26 (by decide) ?_
  obtain ⟨r1, σ2, h3, hf⟩ := obp_e hf
  refine g_callVi (As := [.int x1, .int 0]) (rest := []) C (a_98 ad cy _) rfl (c_X11_of l dC dI ad cy x1 ((0 : Int32))) h3 hM_X11_172 cal_X11_of ⟨Nat.zero_le _, Nat.zero_le _⟩ ⟨rfl, rfl⟩ ⟨Nat.le_of_ble_eq_true rfl, Nat.le_of_ble_eq_true rfl⟩ rfl rfl (Nat.le_of_ble_eq_true rfl) dX11_half_27 ?_
  refine g_iload_n C dX11_half_30 rfl 2 rfl ?_
  rcases oi_e hf with ⟨c4, hf⟩ | ⟨c4, hf⟩
  · refine g_icmp_ne_t (tgt := 37) C dX11_half_31 (by decide) c4 ?_
    refine g_aload_n C dX11_half_37 rfl 0 rfl ?_
    refine g_iload_n C dX11_half_38 rfl 1 rfl ?_
    refine g_iconst (v := 4) C dX11_half_39 (by decide) ?_
    obtain ⟨r5, σ6, h7, hf⟩ := obp_e hf
    refine g_callVi (As := [.int x1, .int 4]) (rest := []) C (a_98 ad cy _) rfl (c_X11_of l dC dI ad cy x1 ((4 : Int32))) h7 hM_X11_172 cal_X11_of ⟨Nat.zero_le _, Nat.zero_le _⟩ ⟨rfl, rfl⟩ ⟨Nat.le_of_ble_eq_true rfl, Nat.le_of_ble_eq_true rfl⟩ rfl rfl (Nat.le_of_ble_eq_true rfl) dX11_half_40 ?_
    refine g_istore_n (lv2 := [(0, .ref (ad 98)), (1, .int x1), (2, .int x2), (3, .int r5)]) C dX11_half_43 rfl (by decide) [1, 2, 3, 0] rfl ?_
    refine g_aload_n C dX11_half_44 rfl 0 rfl ?_
    refine g_get C (a_98 ad cy _) rfl hin_X11 0 (by decide) hF_X11_7 rfl rfl dX11_half_45 ?_
    refine g_iconst (v := 5) C dX11_half_48 (by decide) ?_
    refine g_iload_n C dX11_half_49 rfl 1 rfl ?_
    refine g_imul C dX11_half_50 ?_
    refine g_iconst (v := 4) C dX11_half_51 (by decide) ?_
    refine g_iadd C dX11_half_52 ?_
    refine g_iload_n C dX11_half_53 rfl 2 rfl ?_
    obtain ⟨v8, ev8, hf⟩ := ol_e hf
    refine g_nm2 ev8 ?_
    obtain ⟨h9, hf⟩ := og_e hf
    obtain ⟨σ10, eσ10, hf⟩ := ol_e hf
    refine g_iast C (a_99 ad cy _) h9 (w_99 ad cy _) eσ10 dX11_half_54 ?_
    refine g_iload_n C dX11_half_55 rfl 3 rfl ?_
    obtain ⟨rfl, rfl⟩ := os_e hf
    exact g_iret C rfl dX11_half_56
  · refine g_icmp_ne_f (tgt := 37) C dX11_half_31 (by decide) (Decidable.of_not_not c4) ?_
    refine g_bipush (v := (-2)) C dX11_half_34 (by decide) ?_
    obtain ⟨rfl, rfl⟩ := os_e hf
    exact g_iret C rfl dX11_half_36
def fX11_half (σ : S0) (x1 : Int32) (x2 : Int32) : Option (Int32 × S0) := obp (fX11_isBell σ x1) (fun r1 σ2 => if r1 = 0 then (some ((-1), σ2)) else (if x2 = ((-4)) then (fX11_half_b24 σ2 x1 x2) else (obp (fX11_isHouse σ2 x2) (fun r6 σ7 => if ¬ r6 = 0 then (fX11_half_b24 σ7 x1 x2) else (some ((-1), σ7))))))
set_option maxHeartbeats 1000000 in
set_option maxRecDepth 100000 in
theorem fX11_half_ok {p : Program} {l : Launch} {e : Env} {s : State} {m : MethodId} {args : Array Value} {below : List Frame} {meth : Method} {c : Code} {dC : Nat → ClassId} {dI : Nat → Nat → Nat} {ad : Nat → Nat} {cy : Nat → ClassId} {sz : Nat} (C : Cx p s m args meth c RX11 cX11_half 4 (some .int) dC dI ad cy sz) {rr : Int32} {ρ : S0} (σ : S0) (x1 : Int32) (x2 : Int32)  (hf : fX11_half σ x1 x2 = some (rr, ρ)) : Gw p l e rm_X11_half s m args below meth c (MQ below (QcI dC dI ad cy sz rr ρ) args s 0 0 (AW ad sz)) dC dI ad cy 4 sz 0 0 0 [(0, .ref (ad 98)), (1, .int x1), (2, .int x2)] [] σ := by
  unfold fX11_half at hf
  refine g_aload_n C dX11_half_0 rfl 0 rfl ?_
  refine g_iload_n C dX11_half_1 rfl 1 rfl ?_
  obtain ⟨r1, σ2, h3, hf⟩ := obp_e hf
  refine g_callVi (As := [.int x1]) (rest := []) C (a_98 ad cy _) rfl (c_X11_isBell l dC dI ad cy x1) h3 hM_X11_166 cal_X11_isBell ⟨Nat.zero_le _, Nat.zero_le _⟩ ⟨rfl, rfl⟩ ⟨Nat.le_of_ble_eq_true rfl, Nat.le_of_ble_eq_true rfl⟩ rfl rfl (Nat.le_of_ble_eq_true rfl) dX11_half_2 ?_
  rcases oi_e hf with ⟨c4, hf⟩ | ⟨c4, hf⟩
  · refine g_if_eq_t (tgt := 22) C dX11_half_5 (by decide) c4 ?_
    refine g_iconst (v := (-1)) C dX11_half_22 (by decide) ?_
    obtain ⟨rfl, rfl⟩ := os_e hf
    exact g_iret C rfl dX11_half_23
  · refine g_if_eq_f (tgt := 22) C dX11_half_5 (by decide) c4 ?_
    refine g_iload_n C dX11_half_8 rfl 2 rfl ?_
    refine g_bipush (v := (-4)) C dX11_half_9 (by decide) ?_
    rcases oi_e hf with ⟨c5, hf⟩ | ⟨c5, hf⟩
    · refine g_icmp_eq_t (tgt := 24) C dX11_half_11 (by decide) c5 ?_
      exact g_sub [0, 1, 2] rfl (fX11_half_b24_ok C σ2 x1 x2 hf)
    · refine g_icmp_eq_f (tgt := 24) C dX11_half_11 (by decide) c5 ?_
      refine g_aload_n C dX11_half_14 rfl 0 rfl ?_
      refine g_iload_n C dX11_half_15 rfl 2 rfl ?_
      obtain ⟨r6, σ7, h8, hf⟩ := obp_e hf
      refine g_callVi (As := [.int x2]) (rest := []) C (a_98 ad cy _) rfl (c_X11_isHouse l dC dI ad cy x2) h8 hM_X11_186 cal_X11_isHouse ⟨Nat.zero_le _, Nat.zero_le _⟩ ⟨rfl, rfl⟩ ⟨Nat.le_of_ble_eq_true rfl, Nat.le_of_ble_eq_true rfl⟩ rfl rfl (Nat.le_of_ble_eq_true rfl) dX11_half_16 ?_
      rcases oi_e hf with ⟨c9, hf⟩ | ⟨c9, hf⟩
      · refine g_if_ne_t (tgt := 24) C dX11_half_19 (by decide) c9 ?_
        exact g_sub [0, 1, 2] rfl (fX11_half_b24_ok C σ7 x1 x2 hf)
      · refine g_if_ne_f (tgt := 24) C dX11_half_19 (by decide) (Decidable.of_not_not c9) ?_
        refine g_iconst (v := (-1)) C dX11_half_22 (by decide) ?_
        obtain ⟨rfl, rfl⟩ := os_e hf
        exact g_iret C rfl dX11_half_23
theorem c_X11_half (l : Launch) (dC : Nat → ClassId) (dI : Nat → Nat → Nat) (ad : Nat → Nat) (cy : Nat → ClassId) (x1 : Int32) (x2 : Int32) : ConI l yX11_half cX11_half 4 (some .int) rm_X11_half dC dI ad cy [.ref (ad 98), .int x1, .int x2] (fun σ => fX11_half σ x1 x2) := con_i (own := RX11) (by decide) rfl (Nat.le_of_ble_eq_true rfl) (fun _ _ _ _ _ _ _ _ σ _ _ C hf => fX11_half_ok C σ x1 x2 hf)
theorem cal_X11_half : CalV yX11_half RX11 cX11_half 4 (some .int) 2 := ⟨hI_X11_half, hS_X11_half, hIni_X11, hC_X11_half, by decide +kernel⟩
abbrev rm_X11_isFeud : Room := { frames := 0, cells := 0, slots := 0, locals := 0 }
def fX11_isFeud (σ : S0) (x1 : Int32) (x2 : Int32) : Option (Int32 × S0) := ol (60 + x1) (fun v1 => og (¬ (v1 < 0 ∨ 240 ≤ v1.toNatClampNeg)) (ol (σ 99 v1.toNatClampNeg) (fun v3 => if ¬ ((v3 >>> (x2 &&& 31)) &&& 1) = 1 then (some (0, σ)) else (some (1, σ)))))
set_option maxHeartbeats 1000000 in
set_option maxRecDepth 100000 in
theorem fX11_isFeud_ok {p : Program} {l : Launch} {e : Env} {s : State} {m : MethodId} {args : Array Value} {below : List Frame} {meth : Method} {c : Code} {dC : Nat → ClassId} {dI : Nat → Nat → Nat} {ad : Nat → Nat} {cy : Nat → ClassId} {sz : Nat} (C : Cx p s m args meth c RX11 cX11_isFeud 3 (some .boolean) dC dI ad cy sz) {rr : Int32} {ρ : S0} (σ : S0) (x1 : Int32) (x2 : Int32)  (hf : fX11_isFeud σ x1 x2 = some (rr, ρ)) : Gw p l e rm_X11_isFeud s m args below meth c (MQ below (QcI dC dI ad cy sz rr ρ) args s 0 0 (AW ad sz)) dC dI ad cy 3 sz 0 0 0 [(0, .ref (ad 98)), (1, .int x1), (2, .int x2)] [] σ := by
  unfold fX11_isFeud at hf
  refine g_aload_n C dX11_isFeud_0 rfl 0 rfl ?_
  refine g_get C (a_98 ad cy _) rfl hin_X11 0 (by decide) hF_X11_7 rfl rfl dX11_isFeud_1 ?_
  refine g_bipush (v := 60) C dX11_isFeud_4 (by decide) ?_
  refine g_iload_n C dX11_isFeud_6 rfl 1 rfl ?_
  refine g_iadd C dX11_isFeud_7 ?_
  obtain ⟨v1, ev1, hf⟩ := ol_e hf
  refine g_nm ev1 ?_
  obtain ⟨h2, hf⟩ := og_e hf
  refine g_iald C (a_99 ad cy _) h2 dX11_isFeud_8 ?_
  obtain ⟨v3, ev3, hf⟩ := ol_e hf
  refine g_nm ev3 ?_
  refine g_iload_n C dX11_isFeud_9 rfl 2 rfl ?_
  refine g_ishr C dX11_isFeud_10 ?_
  refine g_iconst (v := 1) C dX11_isFeud_11 (by decide) ?_
  refine g_iand C dX11_isFeud_12 ?_
  refine g_iconst (v := 1) C dX11_isFeud_13 (by decide) ?_
  rcases oi_e hf with ⟨c4, hf⟩ | ⟨c4, hf⟩
  · refine g_icmp_ne_t (tgt := 21) C dX11_isFeud_14 (by decide) c4 ?_
    refine g_iconst (v := 0) C dX11_isFeud_21 (by decide) ?_
    obtain ⟨rfl, rfl⟩ := os_e hf
    exact g_zret C rfl (by decide) dX11_isFeud_22
  · refine g_icmp_ne_f (tgt := 21) C dX11_isFeud_14 (by decide) (Decidable.of_not_not c4) ?_
    refine g_iconst (v := 1) C dX11_isFeud_17 (by decide) ?_
    refine g_goto (tgt := 22) C dX11_isFeud_18 (by decide) ?_
    obtain ⟨rfl, rfl⟩ := os_e hf
    exact g_zret C rfl (by decide) dX11_isFeud_22
theorem c_X11_isFeud (l : Launch) (dC : Nat → ClassId) (dI : Nat → Nat → Nat) (ad : Nat → Nat) (cy : Nat → ClassId) (x1 : Int32) (x2 : Int32) : ConI l yX11_isFeud cX11_isFeud 3 (some .boolean) rm_X11_isFeud dC dI ad cy [.ref (ad 98), .int x1, .int x2] (fun σ => fX11_isFeud σ x1 x2) := con_i (own := RX11) (by decide) rfl (Nat.le_of_ble_eq_true rfl) (fun _ _ _ _ _ _ _ _ σ _ _ C hf => fX11_isFeud_ok C σ x1 x2 hf)
theorem cal_X11_isFeud : CalV yX11_isFeud RX11 cX11_isFeud 3 (some .boolean) 2 := ⟨hI_X11_isFeud, hS_X11_isFeud, hIni_X11, hC_X11_isFeud, by decide +kernel⟩
abbrev rm_X11_setsFeud : Room := { frames := 0, cells := 0, slots := 0, locals := 0 }
def fX11_setsFeud_b87  (σ : S0) (t0 : Int32) (t1 : Int32) : Option (Int32 × S0) := og (¬ (t1 < 0 ∨ 240 ≤ t1.toNatClampNeg)) (ol (su σ 99 t1.toNatClampNeg t0) (fun σ2 => some (0, σ2)))
set_option maxHeartbeats 1000000 in
set_option maxRecDepth 100000 in
theorem fX11_setsFeud_b87_ok {p : Program} {l : Launch} {e : Env} {s : State} {m : MethodId} {args : Array Value} {below : List Frame} {meth : Method} {c : Code} {dC : Nat → ClassId} {dI : Nat → Nat → Nat} {ad : Nat → Nat} {cy : Nat → ClassId} {sz : Nat} (C : Cx p s m args meth c RX11 cX11_setsFeud 4 none dC dI ad cy sz) {rr : Int32} {ρ : S0}  (σ : S0) (t0 : Int32) (t1 : Int32)  (hf : fX11_setsFeud_b87 σ t0 t1 = some (rr, ρ)) : Gw p l e rm_X11_setsFeud s m args below meth c (MQ below (QcV dC dI ad cy sz ρ) args s 0 0 (AW ad sz)) dC dI ad cy 4 sz 0 0 87 [] [.int t0, .int t1, .ref (ad 99)] σ := by
  unfold fX11_setsFeud_b87 at hf
  obtain ⟨h1, hf⟩ := og_e hf
  obtain ⟨σ2, eσ2, hf⟩ := ol_e hf
  refine g_iast C (a_99 ad cy _) h1 (w_99 ad cy _) eσ2 dX11_setsFeud_87 ?_
  obtain ⟨rfl, rfl⟩ := os_e hf
  exact g_vret C rfl dX11_setsFeud_88
def fX11_setsFeud_b43  (σ : S0) (x1 : Int32) (x2 : Int32) (x3 : Int32) (t0 : Int32) (t1 : Int32) : Option (Int32 × S0) := og (¬ (t1 < 0 ∨ 240 ≤ t1.toNatClampNeg)) (ol (su σ 99 t1.toNatClampNeg t0) (fun σ2 => if x3 = 0 then (ol (60 + x2) (fun v4 => og (¬ (v4 < 0 ∨ 240 ≤ v4.toNatClampNeg)) (ol (σ2 99 v4.toNatClampNeg) (fun v6 => fX11_setsFeud_b87 σ2 (v6 &&& (((1 : Int32) <<< (x1 &&& 31)) ^^^ ((-1)))) (60 + x2))))) else (ol (60 + x2) (fun v7 => og (¬ (v7 < 0 ∨ 240 ≤ v7.toNatClampNeg)) (ol (σ2 99 v7.toNatClampNeg) (fun v9 => fX11_setsFeud_b87 σ2 (v9 ||| ((1 : Int32) <<< (x1 &&& 31))) (60 + x2)))))))
set_option maxHeartbeats 1000000 in
set_option maxRecDepth 100000 in
theorem fX11_setsFeud_b43_ok {p : Program} {l : Launch} {e : Env} {s : State} {m : MethodId} {args : Array Value} {below : List Frame} {meth : Method} {c : Code} {dC : Nat → ClassId} {dI : Nat → Nat → Nat} {ad : Nat → Nat} {cy : Nat → ClassId} {sz : Nat} (C : Cx p s m args meth c RX11 cX11_setsFeud 4 none dC dI ad cy sz) {rr : Int32} {ρ : S0}  (σ : S0) (x1 : Int32) (x2 : Int32) (x3 : Int32) (t0 : Int32) (t1 : Int32)  (hf : fX11_setsFeud_b43 σ x1 x2 x3 t0 t1 = some (rr, ρ)) : Gw p l e rm_X11_setsFeud s m args below meth c (MQ below (QcV dC dI ad cy sz ρ) args s 0 0 (AW ad sz)) dC dI ad cy 4 sz 0 0 43 [(0, .ref (ad 98)), (1, .int x1), (2, .int x2), (3, .int x3)] [.int t0, .int t1, .ref (ad 99)] σ := by
  unfold fX11_setsFeud_b43 at hf
  obtain ⟨h1, hf⟩ := og_e hf
  obtain ⟨σ2, eσ2, hf⟩ := ol_e hf
  refine g_iast C (a_99 ad cy _) h1 (w_99 ad cy _) eσ2 dX11_setsFeud_43 ?_
  refine g_aload_n C dX11_setsFeud_44 rfl 0 rfl ?_
  refine g_get C (a_98 ad cy _) rfl hin_X11 0 (by decide) hF_X11_7 rfl rfl dX11_setsFeud_45 ?_
  refine g_bipush (v := 60) C dX11_setsFeud_48 (by decide) ?_
  refine g_iload_n C dX11_setsFeud_50 rfl 2 rfl ?_
  refine g_iadd C dX11_setsFeud_51 ?_
  refine g_iload_n C dX11_setsFeud_52 rfl 3 rfl ?_
  rcases oi_e hf with ⟨c3, hf⟩ | ⟨c3, hf⟩
  · refine g_if_eq_t (tgt := 72) C dX11_setsFeud_53 (by decide) c3 ?_
    refine g_aload_n C dX11_setsFeud_72 rfl 0 rfl ?_
    refine g_get C (a_98 ad cy _) rfl hin_X11 0 (by decide) hF_X11_7 rfl rfl dX11_setsFeud_73 ?_
    refine g_bipush (v := 60) C dX11_setsFeud_76 (by decide) ?_
    refine g_iload_n C dX11_setsFeud_78 rfl 2 rfl ?_
    refine g_iadd C dX11_setsFeud_79 ?_
    obtain ⟨v4, ev4, hf⟩ := ol_e hf
    refine g_nm ev4 ?_
    obtain ⟨h5, hf⟩ := og_e hf
    refine g_iald C (a_99 ad cy _) h5 dX11_setsFeud_80 ?_
    obtain ⟨v6, ev6, hf⟩ := ol_e hf
    refine g_nm ev6 ?_
    refine g_iconst (v := 1) C dX11_setsFeud_81 (by decide) ?_
    refine g_iload_n C dX11_setsFeud_82 rfl 1 rfl ?_
    refine g_ishl C dX11_setsFeud_83 ?_
    refine g_iconst (v := (-1)) C dX11_setsFeud_84 (by decide) ?_
    refine g_ixor C dX11_setsFeud_85 ?_
    refine g_iand C dX11_setsFeud_86 ?_
    exact g_sub [] rfl (fX11_setsFeud_b87_ok C σ2 (v6 &&& (((1 : Int32) <<< (x1 &&& 31)) ^^^ ((-1)))) (60 + x2) hf)
  · refine g_if_eq_f (tgt := 72) C dX11_setsFeud_53 (by decide) c3 ?_
    refine g_aload_n C dX11_setsFeud_56 rfl 0 rfl ?_
    refine g_get C (a_98 ad cy _) rfl hin_X11 0 (by decide) hF_X11_7 rfl rfl dX11_setsFeud_57 ?_
    refine g_bipush (v := 60) C dX11_setsFeud_60 (by decide) ?_
    refine g_iload_n C dX11_setsFeud_62 rfl 2 rfl ?_
    refine g_iadd C dX11_setsFeud_63 ?_
    obtain ⟨v7, ev7, hf⟩ := ol_e hf
    refine g_nm ev7 ?_
    obtain ⟨h8, hf⟩ := og_e hf
    refine g_iald C (a_99 ad cy _) h8 dX11_setsFeud_64 ?_
    obtain ⟨v9, ev9, hf⟩ := ol_e hf
    refine g_nm ev9 ?_
    refine g_iconst (v := 1) C dX11_setsFeud_65 (by decide) ?_
    refine g_iload_n C dX11_setsFeud_66 rfl 1 rfl ?_
    refine g_ishl C dX11_setsFeud_67 ?_
    refine g_ior C dX11_setsFeud_68 ?_
    refine g_goto (tgt := 87) C dX11_setsFeud_69 (by decide) ?_
    exact g_sub [] rfl (fX11_setsFeud_b87_ok C σ2 (v9 ||| ((1 : Int32) <<< (x1 &&& 31))) (60 + x2) hf)
def fX11_setsFeud (σ : S0) (x1 : Int32) (x2 : Int32) (x3 : Int32) : Option (Int32 × S0) := if x3 = 0 then (ol (60 + x1) (fun v2 => og (¬ (v2 < 0 ∨ 240 ≤ v2.toNatClampNeg)) (ol (σ 99 v2.toNatClampNeg) (fun v4 => fX11_setsFeud_b43 σ x1 x2 x3 (v4 &&& (((1 : Int32) <<< (x2 &&& 31)) ^^^ ((-1)))) (60 + x1))))) else (ol (60 + x1) (fun v5 => og (¬ (v5 < 0 ∨ 240 ≤ v5.toNatClampNeg)) (ol (σ 99 v5.toNatClampNeg) (fun v7 => fX11_setsFeud_b43 σ x1 x2 x3 (v7 ||| ((1 : Int32) <<< (x2 &&& 31))) (60 + x1)))))
set_option maxHeartbeats 1000000 in
set_option maxRecDepth 100000 in
theorem fX11_setsFeud_ok {p : Program} {l : Launch} {e : Env} {s : State} {m : MethodId} {args : Array Value} {below : List Frame} {meth : Method} {c : Code} {dC : Nat → ClassId} {dI : Nat → Nat → Nat} {ad : Nat → Nat} {cy : Nat → ClassId} {sz : Nat} (C : Cx p s m args meth c RX11 cX11_setsFeud 4 none dC dI ad cy sz) {rr : Int32} {ρ : S0} (σ : S0) (x1 : Int32) (x2 : Int32) (x3 : Int32)  (hf : fX11_setsFeud σ x1 x2 x3 = some (rr, ρ)) : Gw p l e rm_X11_setsFeud s m args below meth c (MQ below (QcV dC dI ad cy sz ρ) args s 0 0 (AW ad sz)) dC dI ad cy 4 sz 0 0 0 [(0, .ref (ad 98)), (1, .int x1), (2, .int x2), (3, .int x3)] [] σ := by
  unfold fX11_setsFeud at hf
  refine g_aload_n C dX11_setsFeud_0 rfl 0 rfl ?_
  refine g_get C (a_98 ad cy _) rfl hin_X11 0 (by decide) hF_X11_7 rfl rfl dX11_setsFeud_1 ?_
  refine g_bipush (v := 60) C dX11_setsFeud_4 (by decide) ?_
  refine g_iload_n C dX11_setsFeud_6 rfl 1 rfl ?_
  refine g_iadd C dX11_setsFeud_7 ?_
  refine g_iload_n C dX11_setsFeud_8 rfl 3 rfl ?_
  rcases oi_e hf with ⟨c1, hf⟩ | ⟨c1, hf⟩
  · refine g_if_eq_t (tgt := 28) C dX11_setsFeud_9 (by decide) c1 ?_
    refine g_aload_n C dX11_setsFeud_28 rfl 0 rfl ?_
    refine g_get C (a_98 ad cy _) rfl hin_X11 0 (by decide) hF_X11_7 rfl rfl dX11_setsFeud_29 ?_
    refine g_bipush (v := 60) C dX11_setsFeud_32 (by decide) ?_
    refine g_iload_n C dX11_setsFeud_34 rfl 1 rfl ?_
    refine g_iadd C dX11_setsFeud_35 ?_
    obtain ⟨v2, ev2, hf⟩ := ol_e hf
    refine g_nm ev2 ?_
    obtain ⟨h3, hf⟩ := og_e hf
    refine g_iald C (a_99 ad cy _) h3 dX11_setsFeud_36 ?_
    obtain ⟨v4, ev4, hf⟩ := ol_e hf
    refine g_nm ev4 ?_
    refine g_iconst (v := 1) C dX11_setsFeud_37 (by decide) ?_
    refine g_iload_n C dX11_setsFeud_38 rfl 2 rfl ?_
    refine g_ishl C dX11_setsFeud_39 ?_
    refine g_iconst (v := (-1)) C dX11_setsFeud_40 (by decide) ?_
    refine g_ixor C dX11_setsFeud_41 ?_
    refine g_iand C dX11_setsFeud_42 ?_
    exact g_sub [0, 1, 2, 3] rfl (fX11_setsFeud_b43_ok C σ x1 x2 x3 (v4 &&& (((1 : Int32) <<< (x2 &&& 31)) ^^^ ((-1)))) (60 + x1) hf)
  · refine g_if_eq_f (tgt := 28) C dX11_setsFeud_9 (by decide) c1 ?_
    refine g_aload_n C dX11_setsFeud_12 rfl 0 rfl ?_
    refine g_get C (a_98 ad cy _) rfl hin_X11 0 (by decide) hF_X11_7 rfl rfl dX11_setsFeud_13 ?_
    refine g_bipush (v := 60) C dX11_setsFeud_16 (by decide) ?_
    refine g_iload_n C dX11_setsFeud_18 rfl 1 rfl ?_
    refine g_iadd C dX11_setsFeud_19 ?_
    obtain ⟨v5, ev5, hf⟩ := ol_e hf
    refine g_nm ev5 ?_
    obtain ⟨h6, hf⟩ := og_e hf
    refine g_iald C (a_99 ad cy _) h6 dX11_setsFeud_20 ?_
    obtain ⟨v7, ev7, hf⟩ := ol_e hf
    refine g_nm ev7 ?_
    refine g_iconst (v := 1) C dX11_setsFeud_21 (by decide) ?_
    refine g_iload_n C dX11_setsFeud_22 rfl 2 rfl ?_
    refine g_ishl C dX11_setsFeud_23 ?_
    refine g_ior C dX11_setsFeud_24 ?_
    refine g_goto (tgt := 43) C dX11_setsFeud_25 (by decide) ?_
    exact g_sub [0, 1, 2, 3] rfl (fX11_setsFeud_b43_ok C σ x1 x2 x3 (v7 ||| ((1 : Int32) <<< (x2 &&& 31))) (60 + x1) hf)
theorem c_X11_setsFeud (l : Launch) (dC : Nat → ClassId) (dI : Nat → Nat → Nat) (ad : Nat → Nat) (cy : Nat → ClassId) (x1 : Int32) (x2 : Int32) (x3 : Int32) : ConV l yX11_setsFeud cX11_setsFeud 4 none rm_X11_setsFeud dC dI ad cy [.ref (ad 98), .int x1, .int x2, .int x3] (fun σ => fX11_setsFeud σ x1 x2 x3) := con_v (own := RX11) (by decide) rfl (Nat.le_of_ble_eq_true rfl) (fun _ _ _ _ _ _ _ _ σ _ _ C hf => fX11_setsFeud_ok C σ x1 x2 x3 hf)
theorem cal_X11_setsFeud : CalV yX11_setsFeud RX11 cX11_setsFeud 4 none 3 := ⟨hI_X11_setsFeud, hS_X11_setsFeud, hIni_X11, hC_X11_setsFeud, by decide +kernel⟩
abbrev rm_X11_feud : Room := { frames := 2, cells := 0, slots := 0, locals := 46 }
def fX11_feud (σ : S0) (x1 : Int32) (x2 : Int32) (x3 : Int32) : Option (Int32 × S0) := obp (fX11_isHouse σ x1) (fun r1 σ2 => if r1 = 0 then (some ((-1), σ2)) else (obp (fX11_isHouse σ2 x2) (fun r5 σ6 => if r5 = 0 then (some ((-1), σ6)) else (if ¬ x1 = x2 then (obp (fX11_isFeud σ6 x1 x2) (fun r10 σ11 => obp (fX11_flag σ11 r10) (fun r13 σ14 => obp (fX11_setsFeud σ14 x1 x2 x3) (fun r16 σ17 => some (r13, σ17))))) else (some ((-1), σ6))))))
set_option maxHeartbeats 1000000 in
set_option maxRecDepth 100000 in
theorem fX11_feud_ok {p : Program} {l : Launch} {e : Env} {s : State} {m : MethodId} {args : Array Value} {below : List Frame} {meth : Method} {c : Code} {dC : Nat → ClassId} {dI : Nat → Nat → Nat} {ad : Nat → Nat} {cy : Nat → ClassId} {sz : Nat} (C : Cx p s m args meth c RX11 cX11_feud 5 (some .int) dC dI ad cy sz) {rr : Int32} {ρ : S0} (σ : S0) (x1 : Int32) (x2 : Int32) (x3 : Int32)  (hf : fX11_feud σ x1 x2 x3 = some (rr, ρ)) : Gw p l e rm_X11_feud s m args below meth c (MQ below (QcI dC dI ad cy sz rr ρ) args s 0 0 (AW ad sz)) dC dI ad cy 5 sz 0 0 0 [(0, .ref (ad 98)), (1, .int x1), (2, .int x2), (3, .int x3)] [] σ := by
  unfold fX11_feud at hf
  refine g_aload_n C dX11_feud_0 rfl 0 rfl ?_
  refine g_iload_n C dX11_feud_1 rfl 1 rfl ?_
  obtain ⟨r1, σ2, h3, hf⟩ := obp_e hf
  refine g_callVi (As := [.int x1]) (rest := []) C (a_98 ad cy _) rfl (c_X11_isHouse l dC dI ad cy x1) h3 hM_X11_186 cal_X11_isHouse ⟨Nat.zero_le _, Nat.zero_le _⟩ ⟨rfl, rfl⟩ ⟨Nat.le_of_ble_eq_true rfl, Nat.le_of_ble_eq_true rfl⟩ rfl rfl (Nat.le_of_ble_eq_true rfl) dX11_feud_2 ?_
  rcases oi_e hf with ⟨c4, hf⟩ | ⟨c4, hf⟩
  · refine g_if_eq_t (tgt := 21) C dX11_feud_5 (by decide) c4 ?_
    refine g_iconst (v := (-1)) C dX11_feud_21 (by decide) ?_
    obtain ⟨rfl, rfl⟩ := os_e hf
    exact g_iret C rfl dX11_feud_22
  · refine g_if_eq_f (tgt := 21) C dX11_feud_5 (by decide) c4 ?_
    refine g_aload_n C dX11_feud_8 rfl 0 rfl ?_
    refine g_iload_n C dX11_feud_9 rfl 2 rfl ?_
    obtain ⟨r5, σ6, h7, hf⟩ := obp_e hf
    refine g_callVi (As := [.int x2]) (rest := []) C (a_98 ad cy _) rfl (c_X11_isHouse l dC dI ad cy x2) h7 hM_X11_186 cal_X11_isHouse ⟨Nat.zero_le _, Nat.zero_le _⟩ ⟨rfl, rfl⟩ ⟨Nat.le_of_ble_eq_true rfl, Nat.le_of_ble_eq_true rfl⟩ rfl rfl (Nat.le_of_ble_eq_true rfl) dX11_feud_10 ?_
    rcases oi_e hf with ⟨c8, hf⟩ | ⟨c8, hf⟩
    · refine g_if_eq_t (tgt := 21) C dX11_feud_13 (by decide) c8 ?_
      refine g_iconst (v := (-1)) C dX11_feud_21 (by decide) ?_
      obtain ⟨rfl, rfl⟩ := os_e hf
      exact g_iret C rfl dX11_feud_22
    · refine g_if_eq_f (tgt := 21) C dX11_feud_13 (by decide) c8 ?_
      refine g_iload_n C dX11_feud_16 rfl 1 rfl ?_
      refine g_iload_n C dX11_feud_17 rfl 2 rfl ?_
      rcases oi_e hf with ⟨c9, hf⟩ | ⟨c9, hf⟩
      · refine g_icmp_ne_t (tgt := 23) C dX11_feud_18 (by decide) c9 ?_
        refine g_aload_n C dX11_feud_23 rfl 0 rfl ?_
        refine g_iload_n C dX11_feud_24 rfl 1 rfl ?_
        refine g_iload_n C dX11_feud_25 rfl 2 rfl ?_
        obtain ⟨r10, σ11, h12, hf⟩ := obp_e hf
        refine g_callVi (As := [.int x1, .int x2]) (rest := []) C (a_98 ad cy _) rfl (c_X11_isFeud l dC dI ad cy x1 x2) h12 hM_X11_195 cal_X11_isFeud ⟨Nat.zero_le _, Nat.zero_le _⟩ ⟨rfl, rfl⟩ ⟨Nat.le_of_ble_eq_true rfl, Nat.le_of_ble_eq_true rfl⟩ rfl rfl (Nat.le_of_ble_eq_true rfl) dX11_feud_26 ?_
        obtain ⟨r13, σ14, h15, hf⟩ := obp_e hf
        refine g_callSi (As := [.int r10]) (rest := []) C (c_X11_flag l dC dI ad cy r10) h15 hM_X11_191 cal_X11_flag ⟨Nat.zero_le _, Nat.zero_le _⟩ ⟨rfl, rfl⟩ ⟨Nat.le_of_ble_eq_true rfl, Nat.le_of_ble_eq_true rfl⟩ rfl rfl (Nat.le_of_ble_eq_true rfl) dX11_feud_29 ?_
        refine g_istore (lv2 := [(0, .ref (ad 98)), (1, .int x1), (2, .int x2), (3, .int x3), (4, .int r13)]) C dX11_feud_32 (by decide) [1, 2, 3, 4, 0] rfl ?_
        refine g_aload_n C dX11_feud_34 rfl 0 rfl ?_
        refine g_iload_n C dX11_feud_35 rfl 1 rfl ?_
        refine g_iload_n C dX11_feud_36 rfl 2 rfl ?_
        refine g_iload_n C dX11_feud_37 rfl 3 rfl ?_
        obtain ⟨r16, σ17, h18, hf⟩ := obp_e hf
        refine g_callVv (As := [.int x1, .int x2, .int x3]) (rest := []) C (a_98 ad cy _) rfl (c_X11_setsFeud l dC dI ad cy x1 x2 x3) h18 hM_X11_199 cal_X11_setsFeud ⟨Nat.zero_le _, Nat.zero_le _⟩ ⟨rfl, rfl⟩ ⟨Nat.le_of_ble_eq_true rfl, Nat.le_of_ble_eq_true rfl⟩ rfl rfl (Nat.le_of_ble_eq_true rfl) dX11_feud_38 ?_
        refine g_iload C dX11_feud_41 4 rfl ?_
        obtain ⟨rfl, rfl⟩ := os_e hf
        exact g_iret C rfl dX11_feud_43
      · refine g_icmp_ne_f (tgt := 23) C dX11_feud_18 (by decide) (Decidable.of_not_not c9) ?_
        refine g_iconst (v := (-1)) C dX11_feud_21 (by decide) ?_
        obtain ⟨rfl, rfl⟩ := os_e hf
        exact g_iret C rfl dX11_feud_22
theorem c_X11_feud (l : Launch) (dC : Nat → ClassId) (dI : Nat → Nat → Nat) (ad : Nat → Nat) (cy : Nat → ClassId) (x1 : Int32) (x2 : Int32) (x3 : Int32) : ConI l yX11_feud cX11_feud 5 (some .int) rm_X11_feud dC dI ad cy [.ref (ad 98), .int x1, .int x2, .int x3] (fun σ => fX11_feud σ x1 x2 x3) := con_i (own := RX11) (by decide) rfl (Nat.le_of_ble_eq_true rfl) (fun _ _ _ _ _ _ _ _ σ _ _ C hf => fX11_feud_ok C σ x1 x2 x3 hf)
theorem cal_X11_feud : CalV yX11_feud RX11 cX11_feud 5 (some .int) 3 := ⟨hI_X11_feud, hS_X11_feud, hIni_X11, hC_X11_feud, by decide +kernel⟩
abbrev rm_X11_feuding : Room := { frames := 1, cells := 0, slots := 0, locals := 23 }
def fX11_feuding_b53 (sf_7 : S0 → Int32 → Int32 → Int32 → Option (Int32 × S0)) (sf_19 : S0 → Int32 → Int32 → Int32 → Int32 → Option (Int32 × S0)) (σ : S0) (x2 : Int32) (x3 : Int32) (x4 : Int32) (x5 : Int32) (t0 : Int32) : Option (Int32 × S0) := obp (fX11_setsFeud σ x5 x4 t0) (fun r1 σ2 => obp (fX11_flag σ2 t0) (fun r4 σ5 => ol (x3 + r4) (fun v7 => ol (x5 + 1) (fun v8 => sf_19 σ5 x2 v7 x4 v8))))
set_option maxHeartbeats 1000000 in
set_option maxRecDepth 100000 in
theorem fX11_feuding_b53_ok {p : Program} {l : Launch} {e : Env} {s : State} {m : MethodId} {args : Array Value} {below : List Frame} {meth : Method} {c : Code} {dC : Nat → ClassId} {dI : Nat → Nat → Nat} {ad : Nat → Nat} {cy : Nat → ClassId} {sz : Nat} (C : Cx p s m args meth c RX11 cX11_feuding 7 (some .int) dC dI ad cy sz) {rr : Int32} {ρ : S0} (sf_7 : S0 → Int32 → Int32 → Int32 → Option (Int32 × S0)) (hs_7 : ∀ (σ : S0) (x2 : Int32) (x3 : Int32) (x4 : Int32) , sf_7 σ x2 x3 x4 = some (rr, ρ) → Gw p l e rm_X11_feuding s m args below meth c (MQ below (QcI dC dI ad cy sz rr ρ) args s 0 0 (AW ad sz)) dC dI ad cy 7 sz 0 0 7 [(0, .ref (ad 98)), (2, .int x2), (3, .int x3), (4, .int x4)] [] σ) (sf_19 : S0 → Int32 → Int32 → Int32 → Int32 → Option (Int32 × S0)) (hs_19 : ∀ (σ : S0) (x2 : Int32) (x3 : Int32) (x4 : Int32) (x5 : Int32) , sf_19 σ x2 x3 x4 x5 = some (rr, ρ) → Gw p l e rm_X11_feuding s m args below meth c (MQ below (QcI dC dI ad cy sz rr ρ) args s 0 0 (AW ad sz)) dC dI ad cy 7 sz 0 0 19 [(0, .ref (ad 98)), (2, .int x2), (3, .int x3), (4, .int x4), (5, .int x5)] [] σ) (σ : S0) (x2 : Int32) (x3 : Int32) (x4 : Int32) (x5 : Int32) (t0 : Int32)  (hf : fX11_feuding_b53 sf_7 sf_19 σ x2 x3 x4 x5 t0 = some (rr, ρ)) : Gw p l e rm_X11_feuding s m args below meth c (MQ below (QcI dC dI ad cy sz rr ρ) args s 0 0 (AW ad sz)) dC dI ad cy 7 sz 0 0 53 [(0, .ref (ad 98)), (2, .int x2), (3, .int x3), (4, .int x4), (5, .int x5)] [.int t0] σ := by
  unfold fX11_feuding_b53 at hf
  refine g_istore (lv2 := [(0, .ref (ad 98)), (2, .int x2), (3, .int x3), (4, .int x4), (5, .int x5), (6, .int t0)]) C dX11_feuding_53 (by decide) [1, 2, 3, 4, 5, 0] rfl ?_
  refine g_aload_n C dX11_feuding_55 rfl 0 rfl ?_
  refine g_iload C dX11_feuding_56 4 rfl ?_
  refine g_iload C dX11_feuding_58 3 rfl ?_
  refine g_iload C dX11_feuding_60 5 rfl ?_
  obtain ⟨r1, σ2, h3, hf⟩ := obp_e hf
  refine g_callVv (As := [.int x5, .int x4, .int t0]) (rest := []) C (a_98 ad cy _) rfl (c_X11_setsFeud l dC dI ad cy x5 x4 t0) h3 hM_X11_199 cal_X11_setsFeud ⟨Nat.zero_le _, Nat.zero_le _⟩ ⟨rfl, rfl⟩ ⟨Nat.le_of_ble_eq_true rfl, Nat.le_of_ble_eq_true rfl⟩ rfl rfl (Nat.le_of_ble_eq_true rfl) dX11_feuding_62 ?_
  refine g_iload_n C dX11_feuding_65 rfl 2 rfl ?_
  refine g_iload C dX11_feuding_66 5 rfl ?_
  obtain ⟨r4, σ5, h6, hf⟩ := obp_e hf
  refine g_callSi (As := [.int t0]) (rest := [.int x3]) C (c_X11_flag l dC dI ad cy t0) h6 hM_X11_191 cal_X11_flag ⟨Nat.zero_le _, Nat.zero_le _⟩ ⟨rfl, rfl⟩ ⟨Nat.le_of_ble_eq_true rfl, Nat.le_of_ble_eq_true rfl⟩ rfl rfl (Nat.le_of_ble_eq_true rfl) dX11_feuding_68 ?_
  refine g_iadd C dX11_feuding_71 ?_
  obtain ⟨v7, ev7, hf⟩ := ol_e hf
  refine g_nm ev7 ?_
  refine g_istore_n (lv2 := [(0, .ref (ad 98)), (2, .int x2), (3, .int v7), (4, .int x4), (5, .int x5), (6, .int t0)]) C dX11_feuding_72 rfl (by decide) [1, 2, 0, 3, 4, 5] rfl ?_
  obtain ⟨v8, ev8, hf⟩ := ol_e hf
  refine g_iinc (j := 4) (w := 1) (lv2 := [(0, .ref (ad 98)), (2, .int x2), (3, .int v7), (4, .int x4), (5, .int v8), (6, .int t0)]) C dX11_feuding_73 rfl (by decide) ev8 (by decide) [1, 2, 3, 4, 0, 5] rfl ?_
  refine g_goto (tgt := 19) C dX11_feuding_76 (by decide) ?_
  exact g_sub [0, 1, 2, 3, 4] rfl (hs_19 σ5 x2 v7 x4 v8 hf)
def fX11_feuding_b19 (sf_7 : S0 → Int32 → Int32 → Int32 → Option (Int32 × S0)) (sf_19 : S0 → Int32 → Int32 → Int32 → Int32 → Option (Int32 × S0)) (σ : S0) (x2 : Int32) (x3 : Int32) (x4 : Int32) (x5 : Int32) : Option (Int32 × S0) := if x4 ≤ x5 then (ol (x4 + 1) (fun v2 => sf_7 σ x2 x3 v2)) else (ol ((x2 * 1103515245) + 12345) (fun v3 => og (¬ ((4 : Int32)) = 0) (ol (((v3 >>> ((16 : Int32) &&& 31)) &&& 32767) - ((v3 >>> ((16 : Int32) &&& 31)) &&& 32767) / 4 * 4) (fun v5 => if ¬ v5 = 0 then (fX11_feuding_b53 sf_7 sf_19 σ v3 x3 x4 x5 0) else (fX11_feuding_b53 sf_7 sf_19 σ v3 x3 x4 x5 1)))))
set_option maxHeartbeats 1000000 in
set_option maxRecDepth 100000 in
theorem fX11_feuding_b19_ok {p : Program} {l : Launch} {e : Env} {s : State} {m : MethodId} {args : Array Value} {below : List Frame} {meth : Method} {c : Code} {dC : Nat → ClassId} {dI : Nat → Nat → Nat} {ad : Nat → Nat} {cy : Nat → ClassId} {sz : Nat} (C : Cx p s m args meth c RX11 cX11_feuding 7 (some .int) dC dI ad cy sz) {rr : Int32} {ρ : S0} (sf_7 : S0 → Int32 → Int32 → Int32 → Option (Int32 × S0)) (hs_7 : ∀ (σ : S0) (x2 : Int32) (x3 : Int32) (x4 : Int32) , sf_7 σ x2 x3 x4 = some (rr, ρ) → Gw p l e rm_X11_feuding s m args below meth c (MQ below (QcI dC dI ad cy sz rr ρ) args s 0 0 (AW ad sz)) dC dI ad cy 7 sz 0 0 7 [(0, .ref (ad 98)), (2, .int x2), (3, .int x3), (4, .int x4)] [] σ) (sf_19 : S0 → Int32 → Int32 → Int32 → Int32 → Option (Int32 × S0)) (hs_19 : ∀ (σ : S0) (x2 : Int32) (x3 : Int32) (x4 : Int32) (x5 : Int32) , sf_19 σ x2 x3 x4 x5 = some (rr, ρ) → Gw p l e rm_X11_feuding s m args below meth c (MQ below (QcI dC dI ad cy sz rr ρ) args s 0 0 (AW ad sz)) dC dI ad cy 7 sz 0 0 19 [(0, .ref (ad 98)), (2, .int x2), (3, .int x3), (4, .int x4), (5, .int x5)] [] σ) (σ : S0) (x2 : Int32) (x3 : Int32) (x4 : Int32) (x5 : Int32)  (hf : fX11_feuding_b19 sf_7 sf_19 σ x2 x3 x4 x5 = some (rr, ρ)) : Gw p l e rm_X11_feuding s m args below meth c (MQ below (QcI dC dI ad cy sz rr ρ) args s 0 0 (AW ad sz)) dC dI ad cy 7 sz 0 0 19 [(0, .ref (ad 98)), (2, .int x2), (3, .int x3), (4, .int x4), (5, .int x5)] [] σ := by
  unfold fX11_feuding_b19 at hf
  refine g_iload C dX11_feuding_19 4 rfl ?_
  refine g_iload C dX11_feuding_21 3 rfl ?_
  rcases oi_e hf with ⟨c1, hf⟩ | ⟨c1, hf⟩
  · refine g_icmp_ge_t (tgt := 79) C dX11_feuding_23 (by decide) c1 ?_
    obtain ⟨v2, ev2, hf⟩ := ol_e hf
    refine g_iinc (j := 3) (w := 1) (lv2 := [(0, .ref (ad 98)), (2, .int x2), (3, .int x3), (4, .int v2), (5, .int x5)]) C dX11_feuding_79 rfl (by decide) ev2 (by decide) [1, 2, 3, 0, 4] rfl ?_
    refine g_goto (tgt := 7) C dX11_feuding_82 (by decide) ?_
    exact g_sub [0, 1, 2, 3] rfl (hs_7 σ x2 x3 v2 hf)
  · refine g_icmp_ge_f (tgt := 79) C dX11_feuding_23 (by decide) c1 ?_
    refine g_iload_n C dX11_feuding_26 rfl 1 rfl ?_
    refine g_ldc (v := 1103515245) C dX11_feuding_27 hK_X11_203 ?_
    refine g_imul C dX11_feuding_29 ?_
    refine g_sipush (v := 12345) C dX11_feuding_30 (by decide) ?_
    refine g_iadd C dX11_feuding_33 ?_
    obtain ⟨v3, ev3, hf⟩ := ol_e hf
    refine g_nm ev3 ?_
    refine g_istore_n (lv2 := [(0, .ref (ad 98)), (2, .int v3), (3, .int x3), (4, .int x4), (5, .int x5)]) C dX11_feuding_34 rfl (by decide) [1, 0, 2, 3, 4] rfl ?_
    refine g_iload_n C dX11_feuding_35 rfl 1 rfl ?_
    refine g_bipush (v := 16) C dX11_feuding_36 (by decide) ?_
    refine g_ishr C dX11_feuding_38 ?_
    refine g_sipush (v := 32767) C dX11_feuding_39 (by decide) ?_
    refine g_iand C dX11_feuding_42 ?_
    refine g_iconst (v := 4) C dX11_feuding_43 (by decide) ?_
    obtain ⟨h4, hf⟩ := og_e hf
    refine g_irem C dX11_feuding_44 h4 ?_
    obtain ⟨v5, ev5, hf⟩ := ol_e hf
    refine g_nm ev5 ?_
    rcases oi_e hf with ⟨c6, hf⟩ | ⟨c6, hf⟩
    · refine g_if_ne_t (tgt := 52) C dX11_feuding_45 (by decide) c6 ?_
      refine g_iconst (v := 0) C dX11_feuding_52 (by decide) ?_
      exact g_sub [0, 1, 2, 3, 4] rfl (fX11_feuding_b53_ok C sf_7 hs_7 sf_19 hs_19 σ v3 x3 x4 x5 0 hf)
    · refine g_if_ne_f (tgt := 52) C dX11_feuding_45 (by decide) (Decidable.of_not_not c6) ?_
      refine g_iconst (v := 1) C dX11_feuding_48 (by decide) ?_
      refine g_goto (tgt := 53) C dX11_feuding_49 (by decide) ?_
      exact g_sub [0, 1, 2, 3, 4] rfl (fX11_feuding_b53_ok C sf_7 hs_7 sf_19 hs_19 σ v3 x3 x4 x5 1 hf)
def fX11_feuding_h19 (sf_7 : S0 → Int32 → Int32 → Int32 → Option (Int32 × S0)) : Nat → S0 → Int32 → Int32 → Int32 → Int32 → Option (Int32 × S0)
  | 0 => fun _ _ _ _ _ => none
  | n + 1 => fun σ x2 x3 x4 x5 => fX11_feuding_b19 sf_7 (fX11_feuding_h19 sf_7 n) σ x2 x3 x4 x5
set_option maxHeartbeats 1000000 in
set_option maxRecDepth 100000 in
theorem fX11_feuding_h19_ok {p : Program} {l : Launch} {e : Env} {s : State} {m : MethodId} {args : Array Value} {below : List Frame} {meth : Method} {c : Code} {dC : Nat → ClassId} {dI : Nat → Nat → Nat} {ad : Nat → Nat} {cy : Nat → ClassId} {sz : Nat} (C : Cx p s m args meth c RX11 cX11_feuding 7 (some .int) dC dI ad cy sz) {rr : Int32} {ρ : S0} (sf_7 : S0 → Int32 → Int32 → Int32 → Option (Int32 × S0)) (hs_7 : ∀ (σ : S0) (x2 : Int32) (x3 : Int32) (x4 : Int32) , sf_7 σ x2 x3 x4 = some (rr, ρ) → Gw p l e rm_X11_feuding s m args below meth c (MQ below (QcI dC dI ad cy sz rr ρ) args s 0 0 (AW ad sz)) dC dI ad cy 7 sz 0 0 7 [(0, .ref (ad 98)), (2, .int x2), (3, .int x3), (4, .int x4)] [] σ) : ∀ (n : Nat) (σ : S0) (x2 : Int32) (x3 : Int32) (x4 : Int32) (x5 : Int32)  (_hf : fX11_feuding_h19 sf_7 n σ x2 x3 x4 x5 = some (rr, ρ)), Gw p l e rm_X11_feuding s m args below meth c (MQ below (QcI dC dI ad cy sz rr ρ) args s 0 0 (AW ad sz)) dC dI ad cy 7 sz 0 0 19 [(0, .ref (ad 98)), (2, .int x2), (3, .int x3), (4, .int x4), (5, .int x5)] [] σ
  | 0, _, _, _, _, _, hf => by cases hf
  | n + 1, σ, x2, x3, x4, x5, hf => fX11_feuding_b19_ok C sf_7 hs_7 (fX11_feuding_h19 sf_7 n) (fX11_feuding_h19_ok C sf_7 hs_7 n) σ x2 x3 x4 x5 hf
def fX11_feuding_b7 (sf_7 : S0 → Int32 → Int32 → Int32 → Option (Int32 × S0)) (σ : S0) (x2 : Int32) (x3 : Int32) (x4 : Int32) : Option (Int32 × S0) := if (σ 98 2) ≤ x4 then (some (x3, σ)) else (fX11_feuding_h19 sf_7 400 σ x2 x3 x4 0)
set_option maxHeartbeats 1000000 in
set_option maxRecDepth 100000 in
theorem fX11_feuding_b7_ok {p : Program} {l : Launch} {e : Env} {s : State} {m : MethodId} {args : Array Value} {below : List Frame} {meth : Method} {c : Code} {dC : Nat → ClassId} {dI : Nat → Nat → Nat} {ad : Nat → Nat} {cy : Nat → ClassId} {sz : Nat} (C : Cx p s m args meth c RX11 cX11_feuding 7 (some .int) dC dI ad cy sz) {rr : Int32} {ρ : S0} (sf_7 : S0 → Int32 → Int32 → Int32 → Option (Int32 × S0)) (hs_7 : ∀ (σ : S0) (x2 : Int32) (x3 : Int32) (x4 : Int32) , sf_7 σ x2 x3 x4 = some (rr, ρ) → Gw p l e rm_X11_feuding s m args below meth c (MQ below (QcI dC dI ad cy sz rr ρ) args s 0 0 (AW ad sz)) dC dI ad cy 7 sz 0 0 7 [(0, .ref (ad 98)), (2, .int x2), (3, .int x3), (4, .int x4)] [] σ) (σ : S0) (x2 : Int32) (x3 : Int32) (x4 : Int32)  (hf : fX11_feuding_b7 sf_7 σ x2 x3 x4 = some (rr, ρ)) : Gw p l e rm_X11_feuding s m args below meth c (MQ below (QcI dC dI ad cy sz rr ρ) args s 0 0 (AW ad sz)) dC dI ad cy 7 sz 0 0 7 [(0, .ref (ad 98)), (2, .int x2), (3, .int x3), (4, .int x4)] [] σ := by
  unfold fX11_feuding_b7 at hf
  refine g_iload C dX11_feuding_7 3 rfl ?_
  refine g_aload_n C dX11_feuding_9 rfl 0 rfl ?_
  refine g_get C (a_98 ad cy _) rfl hin_X11 2 (by decide) hF_X11_75 rfl rfl dX11_feuding_10 ?_
  rcases oi_e hf with ⟨c1, hf⟩ | ⟨c1, hf⟩
  · refine g_icmp_ge_t (tgt := 85) C dX11_feuding_13 (by decide) c1 ?_
    refine g_iload_n C dX11_feuding_85 rfl 2 rfl ?_
    obtain ⟨rfl, rfl⟩ := os_e hf
    exact g_iret C rfl dX11_feuding_86
  · refine g_icmp_ge_f (tgt := 85) C dX11_feuding_13 (by decide) c1 ?_
    refine g_iconst (v := 0) C dX11_feuding_16 (by decide) ?_
    refine g_istore (lv2 := [(0, .ref (ad 98)), (2, .int x2), (3, .int x3), (4, .int x4), (5, .int 0)]) C dX11_feuding_17 (by decide) [1, 2, 3, 4, 0] rfl ?_
    exact g_sub [0, 1, 2, 3, 4] rfl (fX11_feuding_h19_ok C sf_7 hs_7 400 σ x2 x3 x4 0 hf)
def fX11_feuding_h7  : Nat → S0 → Int32 → Int32 → Int32 → Option (Int32 × S0)
  | 0 => fun _ _ _ _ => none
  | n + 1 => fun σ x2 x3 x4 => fX11_feuding_b7  (fX11_feuding_h7  n) σ x2 x3 x4
set_option maxHeartbeats 1000000 in
set_option maxRecDepth 100000 in
theorem fX11_feuding_h7_ok {p : Program} {l : Launch} {e : Env} {s : State} {m : MethodId} {args : Array Value} {below : List Frame} {meth : Method} {c : Code} {dC : Nat → ClassId} {dI : Nat → Nat → Nat} {ad : Nat → Nat} {cy : Nat → ClassId} {sz : Nat} (C : Cx p s m args meth c RX11 cX11_feuding 7 (some .int) dC dI ad cy sz) {rr : Int32} {ρ : S0}  : ∀ (n : Nat) (σ : S0) (x2 : Int32) (x3 : Int32) (x4 : Int32)  (_hf : fX11_feuding_h7  n σ x2 x3 x4 = some (rr, ρ)), Gw p l e rm_X11_feuding s m args below meth c (MQ below (QcI dC dI ad cy sz rr ρ) args s 0 0 (AW ad sz)) dC dI ad cy 7 sz 0 0 7 [(0, .ref (ad 98)), (2, .int x2), (3, .int x3), (4, .int x4)] [] σ
  | 0, _, _, _, _, hf => by cases hf
  | n + 1, σ, x2, x3, x4, hf => fX11_feuding_b7_ok C  (fX11_feuding_h7  n) (fX11_feuding_h7_ok C  n) σ x2 x3 x4 hf
def fX11_feuding (σ : S0) (x1 : Int32) : Option (Int32 × S0) := fX11_feuding_h7 400 σ x1 0 1
set_option maxHeartbeats 1000000 in
set_option maxRecDepth 100000 in
theorem fX11_feuding_ok {p : Program} {l : Launch} {e : Env} {s : State} {m : MethodId} {args : Array Value} {below : List Frame} {meth : Method} {c : Code} {dC : Nat → ClassId} {dI : Nat → Nat → Nat} {ad : Nat → Nat} {cy : Nat → ClassId} {sz : Nat} (C : Cx p s m args meth c RX11 cX11_feuding 7 (some .int) dC dI ad cy sz) {rr : Int32} {ρ : S0} (σ : S0) (x1 : Int32)  (hf : fX11_feuding σ x1 = some (rr, ρ)) : Gw p l e rm_X11_feuding s m args below meth c (MQ below (QcI dC dI ad cy sz rr ρ) args s 0 0 (AW ad sz)) dC dI ad cy 7 sz 0 0 0 [(0, .ref (ad 98)), (1, .int x1)] [] σ := by
  unfold fX11_feuding at hf
  refine g_iload_n C dX11_feuding_0 rfl 1 rfl ?_
  refine g_istore_n (lv2 := [(0, .ref (ad 98)), (1, .int x1), (2, .int x1)]) C dX11_feuding_1 rfl (by decide) [1, 2, 0] rfl ?_
  refine g_iconst (v := 0) C dX11_feuding_2 (by decide) ?_
  refine g_istore_n (lv2 := [(0, .ref (ad 98)), (1, .int x1), (2, .int x1), (3, .int 0)]) C dX11_feuding_3 rfl (by decide) [1, 2, 3, 0] rfl ?_
  refine g_iconst (v := 1) C dX11_feuding_4 (by decide) ?_
  refine g_istore (lv2 := [(0, .ref (ad 98)), (1, .int x1), (2, .int x1), (3, .int 0), (4, .int 1)]) C dX11_feuding_5 (by decide) [1, 2, 3, 4, 0] rfl ?_
  exact g_sub [0, 2, 3, 4] rfl (fX11_feuding_h7_ok C 400 σ x1 0 1 hf)
theorem c_X11_feuding (l : Launch) (dC : Nat → ClassId) (dI : Nat → Nat → Nat) (ad : Nat → Nat) (cy : Nat → ClassId) (x1 : Int32) : ConI l yX11_feuding cX11_feuding 7 (some .int) rm_X11_feuding dC dI ad cy [.ref (ad 98), .int x1] (fun σ => fX11_feuding σ x1) := con_i (own := RX11) (by decide) rfl (Nat.le_of_ble_eq_true rfl) (fun _ _ _ _ _ _ _ _ σ _ _ C hf => fX11_feuding_ok C σ x1 hf)
theorem cal_X11_feuding : CalV yX11_feuding RX11 cX11_feuding 7 (some .int) 1 := ⟨hI_X11_feuding, hS_X11_feuding, hIni_X11, hC_X11_feuding, by decide +kernel⟩
abbrev rm_X11_noRung : Room := { frames := 0, cells := 0, slots := 0, locals := 0 }
def fX11_noRung_b2 (sf_2 : S0 → Int32 → Option (Int32 × S0)) (σ : S0) (x1 : Int32) : Option (Int32 × S0) := if (6 : Int32) ≤ x1 then (some (0, σ)) else (og (¬ (x1 < 0 ∨ 6 ≤ x1.toNatClampNeg)) (ol (su σ 105 x1.toNatClampNeg 0) (fun σ3 => ol (x1 + 1) (fun v4 => sf_2 σ3 v4))))
set_option maxHeartbeats 1000000 in
set_option maxRecDepth 100000 in
theorem fX11_noRung_b2_ok {p : Program} {l : Launch} {e : Env} {s : State} {m : MethodId} {args : Array Value} {below : List Frame} {meth : Method} {c : Code} {dC : Nat → ClassId} {dI : Nat → Nat → Nat} {ad : Nat → Nat} {cy : Nat → ClassId} {sz : Nat} (C : Cx p s m args meth c RX11 cX11_noRung 2 none dC dI ad cy sz) {rr : Int32} {ρ : S0} (sf_2 : S0 → Int32 → Option (Int32 × S0)) (hs_2 : ∀ (σ : S0) (x1 : Int32) , sf_2 σ x1 = some (rr, ρ) → Gw p l e rm_X11_noRung s m args below meth c (MQ below (QcV dC dI ad cy sz ρ) args s 0 0 (AW ad sz)) dC dI ad cy 2 sz 0 0 2 [(0, .ref (ad 98)), (1, .int x1)] [] σ) (σ : S0) (x1 : Int32)  (hf : fX11_noRung_b2 sf_2 σ x1 = some (rr, ρ)) : Gw p l e rm_X11_noRung s m args below meth c (MQ below (QcV dC dI ad cy sz ρ) args s 0 0 (AW ad sz)) dC dI ad cy 2 sz 0 0 2 [(0, .ref (ad 98)), (1, .int x1)] [] σ := by
  unfold fX11_noRung_b2 at hf
  refine g_iload_n C dX11_noRung_2 rfl 1 rfl ?_
  refine g_bipush (v := 6) C dX11_noRung_3 (by decide) ?_
  rcases oi_e hf with ⟨c1, hf⟩ | ⟨c1, hf⟩
  · refine g_icmp_ge_t (tgt := 21) C dX11_noRung_5 (by decide) c1 ?_
    obtain ⟨rfl, rfl⟩ := os_e hf
    exact g_vret C rfl dX11_noRung_21
  · refine g_icmp_ge_f (tgt := 21) C dX11_noRung_5 (by decide) c1 ?_
    refine g_aload_n C dX11_noRung_8 rfl 0 rfl ?_
    refine g_get C (a_98 ad cy _) rfl hin_X11 28 (by decide) hF_X11_29 rfl rfl dX11_noRung_9 ?_
    refine g_iload_n C dX11_noRung_12 rfl 1 rfl ?_
    refine g_iconst (v := 0) C dX11_noRung_13 (by decide) ?_
    obtain ⟨h2, hf⟩ := og_e hf
    obtain ⟨σ3, eσ3, hf⟩ := ol_e hf
    refine g_iast C (a_105 ad cy _) h2 (w_105 ad cy _) eσ3 dX11_noRung_14 ?_
    obtain ⟨v4, ev4, hf⟩ := ol_e hf
    refine g_iinc (j := 1) (w := 1) (lv2 := [(0, .ref (ad 98)), (1, .int v4)]) C dX11_noRung_15 rfl (by decide) ev4 (by decide) [1, 0] rfl ?_
    refine g_goto (tgt := 2) C dX11_noRung_18 (by decide) ?_
    exact g_sub [0, 1] rfl (hs_2 σ3 v4 hf)
def fX11_noRung_h2  : Nat → S0 → Int32 → Option (Int32 × S0)
  | 0 => fun _ _ => none
  | n + 1 => fun σ x1 => fX11_noRung_b2  (fX11_noRung_h2  n) σ x1
set_option maxHeartbeats 1000000 in
set_option maxRecDepth 100000 in
theorem fX11_noRung_h2_ok {p : Program} {l : Launch} {e : Env} {s : State} {m : MethodId} {args : Array Value} {below : List Frame} {meth : Method} {c : Code} {dC : Nat → ClassId} {dI : Nat → Nat → Nat} {ad : Nat → Nat} {cy : Nat → ClassId} {sz : Nat} (C : Cx p s m args meth c RX11 cX11_noRung 2 none dC dI ad cy sz) {rr : Int32} {ρ : S0}  : ∀ (n : Nat) (σ : S0) (x1 : Int32)  (_hf : fX11_noRung_h2  n σ x1 = some (rr, ρ)), Gw p l e rm_X11_noRung s m args below meth c (MQ below (QcV dC dI ad cy sz ρ) args s 0 0 (AW ad sz)) dC dI ad cy 2 sz 0 0 2 [(0, .ref (ad 98)), (1, .int x1)] [] σ
  | 0, _, _, hf => by cases hf
  | n + 1, σ, x1, hf => fX11_noRung_b2_ok C  (fX11_noRung_h2  n) (fX11_noRung_h2_ok C  n) σ x1 hf
def fX11_noRung (σ : S0)  : Option (Int32 × S0) := fX11_noRung_h2 400 σ 0
set_option maxHeartbeats 1000000 in
set_option maxRecDepth 100000 in
theorem fX11_noRung_ok {p : Program} {l : Launch} {e : Env} {s : State} {m : MethodId} {args : Array Value} {below : List Frame} {meth : Method} {c : Code} {dC : Nat → ClassId} {dI : Nat → Nat → Nat} {ad : Nat → Nat} {cy : Nat → ClassId} {sz : Nat} (C : Cx p s m args meth c RX11 cX11_noRung 2 none dC dI ad cy sz) {rr : Int32} {ρ : S0} (σ : S0)   (hf : fX11_noRung σ = some (rr, ρ)) : Gw p l e rm_X11_noRung s m args below meth c (MQ below (QcV dC dI ad cy sz ρ) args s 0 0 (AW ad sz)) dC dI ad cy 2 sz 0 0 0 [(0, .ref (ad 98))] [] σ := by
  unfold fX11_noRung at hf
  refine g_iconst (v := 0) C dX11_noRung_0 (by decide) ?_
  refine g_istore_n (lv2 := [(0, .ref (ad 98)), (1, .int 0)]) C dX11_noRung_1 rfl (by decide) [1, 0] rfl ?_
  exact g_sub [0, 1] rfl (fX11_noRung_h2_ok C 400 σ 0 hf)
theorem c_X11_noRung (l : Launch) (dC : Nat → ClassId) (dI : Nat → Nat → Nat) (ad : Nat → Nat) (cy : Nat → ClassId)  : ConV l yX11_noRung cX11_noRung 2 none rm_X11_noRung dC dI ad cy [.ref (ad 98)] (fun σ => fX11_noRung σ) := con_v (own := RX11) (by decide) rfl (Nat.le_of_ble_eq_true rfl) (fun _ _ _ _ _ _ _ _ σ _ _ C hf => fX11_noRung_ok C σ  hf)
theorem cal_X11_noRung : CalV yX11_noRung RX11 cX11_noRung 2 none 0 := ⟨hI_X11_noRung, hS_X11_noRung, hIni_X11, hC_X11_noRung, by decide +kernel⟩
abbrev rm_X11_rings : Room := { frames := 1, cells := 0, slots := 0, locals := 22 }
def fX11_rings_b149 (sf_25 : S0 → Int32 → Int32 → Int32 → Option (Int32 × S0)) (σ : S0) (x1 : Int32) (x2 : Int32) (x3 : Int32) : Option (Int32 × S0) := ol (x3 + 1) (fun v1 => sf_25 σ x1 x2 v1)
set_option maxHeartbeats 1000000 in
set_option maxRecDepth 100000 in
theorem fX11_rings_b149_ok {p : Program} {l : Launch} {e : Env} {s : State} {m : MethodId} {args : Array Value} {below : List Frame} {meth : Method} {c : Code} {dC : Nat → ClassId} {dI : Nat → Nat → Nat} {ad : Nat → Nat} {cy : Nat → ClassId} {sz : Nat} (C : Cx p s m args meth c RX11 cX11_rings 6 none dC dI ad cy sz) {rr : Int32} {ρ : S0} (sf_25 : S0 → Int32 → Int32 → Int32 → Option (Int32 × S0)) (hs_25 : ∀ (σ : S0) (x1 : Int32) (x2 : Int32) (x3 : Int32) , sf_25 σ x1 x2 x3 = some (rr, ρ) → Gw p l e rm_X11_rings s m args below meth c (MQ below (QcV dC dI ad cy sz ρ) args s 0 0 (AW ad sz)) dC dI ad cy 6 sz 0 0 25 [(0, .ref (ad 98)), (1, .int x1), (2, .int x2), (3, .int x3)] [] σ) (σ : S0) (x1 : Int32) (x2 : Int32) (x3 : Int32)  (hf : fX11_rings_b149 sf_25 σ x1 x2 x3 = some (rr, ρ)) : Gw p l e rm_X11_rings s m args below meth c (MQ below (QcV dC dI ad cy sz ρ) args s 0 0 (AW ad sz)) dC dI ad cy 6 sz 0 0 149 [(0, .ref (ad 98)), (1, .int x1), (2, .int x2), (3, .int x3)] [] σ := by
  unfold fX11_rings_b149 at hf
  obtain ⟨v1, ev1, hf⟩ := ol_e hf
  refine g_iinc (j := 3) (w := 1) (lv2 := [(0, .ref (ad 98)), (1, .int x1), (2, .int x2), (3, .int v1)]) C dX11_rings_149 rfl (by decide) ev1 (by decide) [1, 2, 3, 0] rfl ?_
  refine g_goto (tgt := 25) C dX11_rings_152 (by decide) ?_
  exact g_sub [0, 1, 2, 3] rfl (hs_25 σ x1 x2 v1 hf)
def fX11_rings_b78 (sf_25 : S0 → Int32 → Int32 → Int32 → Option (Int32 × S0)) (σ : S0) (x1 : Int32) (x2 : Int32) (x3 : Int32) : Option (Int32 × S0) := ol ((σ 98 26) ||| ((1 : Int32) <<< (x3 &&& 31))) (fun v1 => ol (su σ 98 26 v1) (fun σ2 => ol ((σ2 98 27) + 1) (fun v3 => ol (su σ2 98 27 v3) (fun σ4 => fX11_rings_b149 sf_25 σ4 x1 x2 x3))))
set_option maxHeartbeats 1000000 in
set_option maxRecDepth 100000 in
theorem fX11_rings_b78_ok {p : Program} {l : Launch} {e : Env} {s : State} {m : MethodId} {args : Array Value} {below : List Frame} {meth : Method} {c : Code} {dC : Nat → ClassId} {dI : Nat → Nat → Nat} {ad : Nat → Nat} {cy : Nat → ClassId} {sz : Nat} (C : Cx p s m args meth c RX11 cX11_rings 6 none dC dI ad cy sz) {rr : Int32} {ρ : S0} (sf_25 : S0 → Int32 → Int32 → Int32 → Option (Int32 × S0)) (hs_25 : ∀ (σ : S0) (x1 : Int32) (x2 : Int32) (x3 : Int32) , sf_25 σ x1 x2 x3 = some (rr, ρ) → Gw p l e rm_X11_rings s m args below meth c (MQ below (QcV dC dI ad cy sz ρ) args s 0 0 (AW ad sz)) dC dI ad cy 6 sz 0 0 25 [(0, .ref (ad 98)), (1, .int x1), (2, .int x2), (3, .int x3)] [] σ) (σ : S0) (x1 : Int32) (x2 : Int32) (x3 : Int32)  (hf : fX11_rings_b78 sf_25 σ x1 x2 x3 = some (rr, ρ)) : Gw p l e rm_X11_rings s m args below meth c (MQ below (QcV dC dI ad cy sz ρ) args s 0 0 (AW ad sz)) dC dI ad cy 6 sz 0 0 78 [(0, .ref (ad 98)), (1, .int x1), (2, .int x2), (3, .int x3)] [] σ := by
  unfold fX11_rings_b78 at hf
  refine g_aload_n C dX11_rings_78 rfl 0 rfl ?_
  refine g_dup C dX11_rings_79 rfl ?_
  refine g_get C (a_98 ad cy _) rfl hin_X11 26 (by decide) hF_X11_210 rfl rfl dX11_rings_80 ?_
  refine g_iconst (v := 1) C dX11_rings_83 (by decide) ?_
  refine g_iload_n C dX11_rings_84 rfl 3 rfl ?_
  refine g_ishl C dX11_rings_85 ?_
  refine g_ior C dX11_rings_86 ?_
  obtain ⟨v1, ev1, hf⟩ := ol_e hf
  refine g_nm ev1 ?_
  obtain ⟨σ2, eσ2, hf⟩ := ol_e hf
  refine g_put (ty := .int) C (a_98 ad cy _) rfl hin_X11 tyX11 tyX11_ok nmX11 26 (by decide) hF_X11_210 rfl rfl (by decide +kernel) rfl rfl (Nat.le_of_ble_eq_true rfl) (p_98_26 ad cy _ _) eσ2 dX11_rings_87 ?_
  refine g_aload_n C dX11_rings_90 rfl 0 rfl ?_
  refine g_dup C dX11_rings_91 rfl ?_
  refine g_get C (a_98 ad cy _) rfl hin_X11 27 (by decide) hF_X11_213 rfl rfl dX11_rings_92 ?_
  refine g_iconst (v := 1) C dX11_rings_95 (by decide) ?_
  refine g_iadd C dX11_rings_96 ?_
  obtain ⟨v3, ev3, hf⟩ := ol_e hf
  refine g_nm ev3 ?_
  obtain ⟨σ4, eσ4, hf⟩ := ol_e hf
  refine g_put (ty := .int) C (a_98 ad cy _) rfl hin_X11 tyX11 tyX11_ok nmX11 27 (by decide) hF_X11_213 rfl rfl (by decide +kernel) rfl rfl (Nat.le_of_ble_eq_true rfl) (p_98_27 ad cy _ _) eσ4 dX11_rings_97 ?_
  refine g_goto (tgt := 149) C dX11_rings_100 (by decide) ?_
  exact g_sub [0, 1, 2, 3] rfl (fX11_rings_b149_ok C sf_25 hs_25 σ4 x1 x2 x3 hf)
def fX11_rings_b103 (sf_25 : S0 → Int32 → Int32 → Int32 → Option (Int32 × S0)) (σ : S0) (x1 : Int32) (x3 : Int32) (x4 : Int32) (x5 : Int32) : Option (Int32 × S0) := obp (fX11_of σ x4 ((1 : Int32))) (fun r1 σ2 => ol ((σ 98 24) + r1) (fun v4 => ol (su σ2 98 24 v4) (fun σ5 => obp (fX11_of σ5 x4 ((2 : Int32))) (fun r6 σ7 => ol ((σ5 98 25) + r6) (fun v9 => ol (su σ7 98 25 v9) (fun σ10 => og (¬ (x5 < 0 ∨ 6 ≤ x5.toNatClampNeg)) (ol (σ10 105 x5.toNatClampNeg) (fun v12 => ol (v12 + 1) (fun v13 => og (¬ (x5 < 0 ∨ 6 ≤ x5.toNatClampNeg)) (ol (su σ10 105 x5.toNatClampNeg v13) (fun σ15 => fX11_rings_b149 sf_25 σ15 x1 x5 x3)))))))))))
set_option maxHeartbeats 1000000 in
set_option maxRecDepth 100000 in
theorem fX11_rings_b103_ok {p : Program} {l : Launch} {e : Env} {s : State} {m : MethodId} {args : Array Value} {below : List Frame} {meth : Method} {c : Code} {dC : Nat → ClassId} {dI : Nat → Nat → Nat} {ad : Nat → Nat} {cy : Nat → ClassId} {sz : Nat} (C : Cx p s m args meth c RX11 cX11_rings 6 none dC dI ad cy sz) {rr : Int32} {ρ : S0} (sf_25 : S0 → Int32 → Int32 → Int32 → Option (Int32 × S0)) (hs_25 : ∀ (σ : S0) (x1 : Int32) (x2 : Int32) (x3 : Int32) , sf_25 σ x1 x2 x3 = some (rr, ρ) → Gw p l e rm_X11_rings s m args below meth c (MQ below (QcV dC dI ad cy sz ρ) args s 0 0 (AW ad sz)) dC dI ad cy 6 sz 0 0 25 [(0, .ref (ad 98)), (1, .int x1), (2, .int x2), (3, .int x3)] [] σ) (σ : S0) (x1 : Int32) (x3 : Int32) (x4 : Int32) (x5 : Int32)  (hf : fX11_rings_b103 sf_25 σ x1 x3 x4 x5 = some (rr, ρ)) : Gw p l e rm_X11_rings s m args below meth c (MQ below (QcV dC dI ad cy sz ρ) args s 0 0 (AW ad sz)) dC dI ad cy 6 sz 0 0 103 [(0, .ref (ad 98)), (1, .int x1), (3, .int x3), (4, .int x4), (5, .int x5)] [] σ := by
  unfold fX11_rings_b103 at hf
  refine g_aload_n C dX11_rings_103 rfl 0 rfl ?_
  refine g_dup C dX11_rings_104 rfl ?_
  refine g_get C (a_98 ad cy _) rfl hin_X11 24 (by decide) hF_X11_204 rfl rfl dX11_rings_105 ?_
  refine g_aload_n C dX11_rings_108 rfl 0 rfl ?_
  refine g_iload C dX11_rings_109 3 rfl ?_
  refine g_iconst (v := 1) C dX11_rings_111 (by decide) ?_
  obtain ⟨r1, σ2, h3, hf⟩ := obp_e hf
  refine g_callVi (As := [.int x4, .int 1]) (rest := [.int (σ 98 24), .ref (ad 98)]) C (a_98 ad cy _) rfl (c_X11_of l dC dI ad cy x4 ((1 : Int32))) h3 hM_X11_172 cal_X11_of ⟨Nat.zero_le _, Nat.zero_le _⟩ ⟨rfl, rfl⟩ ⟨Nat.le_of_ble_eq_true rfl, Nat.le_of_ble_eq_true rfl⟩ rfl rfl (Nat.le_of_ble_eq_true rfl) dX11_rings_112 ?_
  refine g_iadd C dX11_rings_115 ?_
  obtain ⟨v4, ev4, hf⟩ := ol_e hf
  refine g_nm ev4 ?_
  obtain ⟨σ5, eσ5, hf⟩ := ol_e hf
  refine g_put (ty := .int) C (a_98 ad cy _) rfl hin_X11 tyX11 tyX11_ok nmX11 24 (by decide) hF_X11_204 rfl rfl (by decide +kernel) rfl rfl (Nat.le_of_ble_eq_true rfl) (p_98_24 ad cy _ _) eσ5 dX11_rings_116 ?_
  refine g_aload_n C dX11_rings_119 rfl 0 rfl ?_
  refine g_dup C dX11_rings_120 rfl ?_
  refine g_get C (a_98 ad cy _) rfl hin_X11 25 (by decide) hF_X11_207 rfl rfl dX11_rings_121 ?_
  refine g_aload_n C dX11_rings_124 rfl 0 rfl ?_
  refine g_iload C dX11_rings_125 3 rfl ?_
  refine g_iconst (v := 2) C dX11_rings_127 (by decide) ?_
  obtain ⟨r6, σ7, h8, hf⟩ := obp_e hf
  refine g_callVi (As := [.int x4, .int 2]) (rest := [.int (σ5 98 25), .ref (ad 98)]) C (a_98 ad cy _) rfl (c_X11_of l dC dI ad cy x4 ((2 : Int32))) h8 hM_X11_172 cal_X11_of ⟨Nat.zero_le _, Nat.zero_le _⟩ ⟨rfl, rfl⟩ ⟨Nat.le_of_ble_eq_true rfl, Nat.le_of_ble_eq_true rfl⟩ rfl rfl (Nat.le_of_ble_eq_true rfl) dX11_rings_128 ?_
  refine g_iadd C dX11_rings_131 ?_
  obtain ⟨v9, ev9, hf⟩ := ol_e hf
  refine g_nm ev9 ?_
  obtain ⟨σ10, eσ10, hf⟩ := ol_e hf
  refine g_put (ty := .int) C (a_98 ad cy _) rfl hin_X11 tyX11 tyX11_ok nmX11 25 (by decide) hF_X11_207 rfl rfl (by decide +kernel) rfl rfl (Nat.le_of_ble_eq_true rfl) (p_98_25 ad cy _ _) eσ10 dX11_rings_132 ?_
  refine g_aload_n C dX11_rings_135 rfl 0 rfl ?_
  refine g_get C (a_98 ad cy _) rfl hin_X11 28 (by decide) hF_X11_29 rfl rfl dX11_rings_136 ?_
  refine g_iload C dX11_rings_139 4 rfl ?_
  refine g_dup2 C dX11_rings_141 rfl rfl ?_
  obtain ⟨h11, hf⟩ := og_e hf
  refine g_iald C (a_105 ad cy _) h11 dX11_rings_142 ?_
  obtain ⟨v12, ev12, hf⟩ := ol_e hf
  refine g_nm ev12 ?_
  refine g_iconst (v := 1) C dX11_rings_143 (by decide) ?_
  refine g_iadd C dX11_rings_144 ?_
  obtain ⟨v13, ev13, hf⟩ := ol_e hf
  refine g_nm ev13 ?_
  obtain ⟨h14, hf⟩ := og_e hf
  obtain ⟨σ15, eσ15, hf⟩ := ol_e hf
  refine g_iast C (a_105 ad cy _) h14 (w_105 ad cy _) eσ15 dX11_rings_145 ?_
  refine g_iload C dX11_rings_146 4 rfl ?_
  refine g_istore_n (lv2 := [(0, .ref (ad 98)), (1, .int x1), (2, .int x5), (3, .int x3), (4, .int x4), (5, .int x5)]) C dX11_rings_148 rfl (by decide) [1, 2, 0, 3, 4, 5] rfl ?_
  exact g_sub [0, 1, 2, 3] rfl (fX11_rings_b149_ok C sf_25 hs_25 σ15 x1 x5 x3 hf)
def fX11_rings_b25 (sf_25 : S0 → Int32 → Int32 → Int32 → Option (Int32 × S0)) (σ : S0) (x1 : Int32) (x2 : Int32) (x3 : Int32) : Option (Int32 × S0) := obp (fX11_strokes σ x1) (fun r1 σ2 => if r1 ≤ x3 then (some (0, σ2)) else (obp (fX11_stroke σ2 x1 x3) (fun r5 σ6 => obp (fX11_of σ6 r5 ((0 : Int32))) (fun r8 σ9 => obp (fX11_of σ9 r5 ((3 : Int32))) (fun r11 σ12 => if r11 = 1 then (fX11_rings_b78 sf_25 σ12 x1 x2 x3) else (if x2 = ((-4)) then (fX11_rings_b103 sf_25 σ12 x1 x3 r5 r8) else (obp (fX11_isFeud σ12 x2 r8) (fun r16 σ17 => if r16 = 0 then (fX11_rings_b103 sf_25 σ17 x1 x3 r5 r8) else (fX11_rings_b78 sf_25 σ17 x1 x2 x3)))))))))
set_option maxHeartbeats 1000000 in
set_option maxRecDepth 100000 in
theorem fX11_rings_b25_ok {p : Program} {l : Launch} {e : Env} {s : State} {m : MethodId} {args : Array Value} {below : List Frame} {meth : Method} {c : Code} {dC : Nat → ClassId} {dI : Nat → Nat → Nat} {ad : Nat → Nat} {cy : Nat → ClassId} {sz : Nat} (C : Cx p s m args meth c RX11 cX11_rings 6 none dC dI ad cy sz) {rr : Int32} {ρ : S0} (sf_25 : S0 → Int32 → Int32 → Int32 → Option (Int32 × S0)) (hs_25 : ∀ (σ : S0) (x1 : Int32) (x2 : Int32) (x3 : Int32) , sf_25 σ x1 x2 x3 = some (rr, ρ) → Gw p l e rm_X11_rings s m args below meth c (MQ below (QcV dC dI ad cy sz ρ) args s 0 0 (AW ad sz)) dC dI ad cy 6 sz 0 0 25 [(0, .ref (ad 98)), (1, .int x1), (2, .int x2), (3, .int x3)] [] σ) (σ : S0) (x1 : Int32) (x2 : Int32) (x3 : Int32)  (hf : fX11_rings_b25 sf_25 σ x1 x2 x3 = some (rr, ρ)) : Gw p l e rm_X11_rings s m args below meth c (MQ below (QcV dC dI ad cy sz ρ) args s 0 0 (AW ad sz)) dC dI ad cy 6 sz 0 0 25 [(0, .ref (ad 98)), (1, .int x1), (2, .int x2), (3, .int x3)] [] σ := by
  unfold fX11_rings_b25 at hf
  refine g_iload_n C dX11_rings_25 rfl 3 rfl ?_
  refine g_aload_n C dX11_rings_26 rfl 0 rfl ?_
  refine g_iload_n C dX11_rings_27 rfl 1 rfl ?_
  obtain ⟨r1, σ2, h3, hf⟩ := obp_e hf
  refine g_callVi (As := [.int x1]) (rest := [.int x3]) C (a_98 ad cy _) rfl (c_X11_strokes l dC dI ad cy x1) h3 hM_X11_180 cal_X11_strokes ⟨Nat.zero_le _, Nat.zero_le _⟩ ⟨rfl, rfl⟩ ⟨Nat.le_of_ble_eq_true rfl, Nat.le_of_ble_eq_true rfl⟩ rfl rfl (Nat.le_of_ble_eq_true rfl) dX11_rings_28 ?_
  rcases oi_e hf with ⟨c4, hf⟩ | ⟨c4, hf⟩
  · refine g_icmp_ge_t (tgt := 155) C dX11_rings_31 (by decide) c4 ?_
    obtain ⟨rfl, rfl⟩ := os_e hf
    exact g_vret C rfl dX11_rings_155
  · refine g_icmp_ge_f (tgt := 155) C dX11_rings_31 (by decide) c4 ?_
    refine g_aload_n C dX11_rings_34 rfl 0 rfl ?_
    refine g_iload_n C dX11_rings_35 rfl 1 rfl ?_
    refine g_iload_n C dX11_rings_36 rfl 3 rfl ?_
    obtain ⟨r5, σ6, h7, hf⟩ := obp_e hf
    refine g_callVi (As := [.int x1, .int x3]) (rest := []) C (a_98 ad cy _) rfl (c_X11_stroke l dC dI ad cy x1 x3) h7 hM_X11_183 cal_X11_stroke ⟨Nat.zero_le _, Nat.zero_le _⟩ ⟨rfl, rfl⟩ ⟨Nat.le_of_ble_eq_true rfl, Nat.le_of_ble_eq_true rfl⟩ rfl rfl (Nat.le_of_ble_eq_true rfl) dX11_rings_37 ?_
    refine g_istore (lv2 := [(0, .ref (ad 98)), (1, .int x1), (2, .int x2), (3, .int x3), (4, .int r5)]) C dX11_rings_40 (by decide) [1, 2, 3, 4, 0] rfl ?_
    refine g_aload_n C dX11_rings_42 rfl 0 rfl ?_
    refine g_iload C dX11_rings_43 4 rfl ?_
    refine g_iconst (v := 0) C dX11_rings_45 (by decide) ?_
    obtain ⟨r8, σ9, h10, hf⟩ := obp_e hf
    refine g_callVi (As := [.int r5, .int 0]) (rest := []) C (a_98 ad cy _) rfl (c_X11_of l dC dI ad cy r5 ((0 : Int32))) h10 hM_X11_172 cal_X11_of ⟨Nat.zero_le _, Nat.zero_le _⟩ ⟨rfl, rfl⟩ ⟨Nat.le_of_ble_eq_true rfl, Nat.le_of_ble_eq_true rfl⟩ rfl rfl (Nat.le_of_ble_eq_true rfl) dX11_rings_46 ?_
    refine g_istore (lv2 := [(0, .ref (ad 98)), (1, .int x1), (2, .int x2), (3, .int x3), (4, .int r5), (5, .int r8)]) C dX11_rings_49 (by decide) [1, 2, 3, 4, 5, 0] rfl ?_
    refine g_aload_n C dX11_rings_51 rfl 0 rfl ?_
    refine g_iload C dX11_rings_52 4 rfl ?_
    refine g_iconst (v := 3) C dX11_rings_54 (by decide) ?_
    obtain ⟨r11, σ12, h13, hf⟩ := obp_e hf
    refine g_callVi (As := [.int r5, .int 3]) (rest := []) C (a_98 ad cy _) rfl (c_X11_of l dC dI ad cy r5 ((3 : Int32))) h13 hM_X11_172 cal_X11_of ⟨Nat.zero_le _, Nat.zero_le _⟩ ⟨rfl, rfl⟩ ⟨Nat.le_of_ble_eq_true rfl, Nat.le_of_ble_eq_true rfl⟩ rfl rfl (Nat.le_of_ble_eq_true rfl) dX11_rings_55 ?_
    refine g_iconst (v := 1) C dX11_rings_58 (by decide) ?_
    rcases oi_e hf with ⟨c14, hf⟩ | ⟨c14, hf⟩
    · refine g_icmp_eq_t (tgt := 78) C dX11_rings_59 (by decide) c14 ?_
      exact g_sub [0, 1, 2, 3] rfl (fX11_rings_b78_ok C sf_25 hs_25 σ12 x1 x2 x3 hf)
    · refine g_icmp_eq_f (tgt := 78) C dX11_rings_59 (by decide) c14 ?_
      refine g_iload_n C dX11_rings_62 rfl 2 rfl ?_
      refine g_bipush (v := (-4)) C dX11_rings_63 (by decide) ?_
      rcases oi_e hf with ⟨c15, hf⟩ | ⟨c15, hf⟩
      · refine g_icmp_eq_t (tgt := 103) C dX11_rings_65 (by decide) c15 ?_
        exact g_sub [0, 1, 3, 4, 5] rfl (fX11_rings_b103_ok C sf_25 hs_25 σ12 x1 x3 r5 r8 hf)
      · refine g_icmp_eq_f (tgt := 103) C dX11_rings_65 (by decide) c15 ?_
        refine g_aload_n C dX11_rings_68 rfl 0 rfl ?_
        refine g_iload_n C dX11_rings_69 rfl 2 rfl ?_
        refine g_iload C dX11_rings_70 5 rfl ?_
        obtain ⟨r16, σ17, h18, hf⟩ := obp_e hf
        refine g_callVi (As := [.int x2, .int r8]) (rest := []) C (a_98 ad cy _) rfl (c_X11_isFeud l dC dI ad cy x2 r8) h18 hM_X11_195 cal_X11_isFeud ⟨Nat.zero_le _, Nat.zero_le _⟩ ⟨rfl, rfl⟩ ⟨Nat.le_of_ble_eq_true rfl, Nat.le_of_ble_eq_true rfl⟩ rfl rfl (Nat.le_of_ble_eq_true rfl) dX11_rings_72 ?_
        rcases oi_e hf with ⟨c19, hf⟩ | ⟨c19, hf⟩
        · refine g_if_eq_t (tgt := 103) C dX11_rings_75 (by decide) c19 ?_
          exact g_sub [0, 1, 3, 4, 5] rfl (fX11_rings_b103_ok C sf_25 hs_25 σ17 x1 x3 r5 r8 hf)
        · refine g_if_eq_f (tgt := 103) C dX11_rings_75 (by decide) c19 ?_
          exact g_sub [0, 1, 2, 3] rfl (fX11_rings_b78_ok C sf_25 hs_25 σ17 x1 x2 x3 hf)
def fX11_rings_h25  : Nat → S0 → Int32 → Int32 → Int32 → Option (Int32 × S0)
  | 0 => fun _ _ _ _ => none
  | n + 1 => fun σ x1 x2 x3 => fX11_rings_b25  (fX11_rings_h25  n) σ x1 x2 x3
set_option maxHeartbeats 1000000 in
set_option maxRecDepth 100000 in
theorem fX11_rings_h25_ok {p : Program} {l : Launch} {e : Env} {s : State} {m : MethodId} {args : Array Value} {below : List Frame} {meth : Method} {c : Code} {dC : Nat → ClassId} {dI : Nat → Nat → Nat} {ad : Nat → Nat} {cy : Nat → ClassId} {sz : Nat} (C : Cx p s m args meth c RX11 cX11_rings 6 none dC dI ad cy sz) {rr : Int32} {ρ : S0}  : ∀ (n : Nat) (σ : S0) (x1 : Int32) (x2 : Int32) (x3 : Int32)  (_hf : fX11_rings_h25  n σ x1 x2 x3 = some (rr, ρ)), Gw p l e rm_X11_rings s m args below meth c (MQ below (QcV dC dI ad cy sz ρ) args s 0 0 (AW ad sz)) dC dI ad cy 6 sz 0 0 25 [(0, .ref (ad 98)), (1, .int x1), (2, .int x2), (3, .int x3)] [] σ
  | 0, _, _, _, _, hf => by cases hf
  | n + 1, σ, x1, x2, x3, hf => fX11_rings_b25_ok C  (fX11_rings_h25  n) (fX11_rings_h25_ok C  n) σ x1 x2 x3 hf
def fX11_rings (σ : S0) (x1 : Int32) : Option (Int32 × S0) := ol (su σ 98 24 0) (fun σ1 => ol (su σ1 98 25 0) (fun σ2 => ol (su σ2 98 26 0) (fun σ3 => ol (su σ3 98 27 0) (fun σ4 => fX11_rings_h25 400 σ4 x1 ((-4)) 0))))
set_option maxHeartbeats 1000000 in
set_option maxRecDepth 100000 in
theorem fX11_rings_ok {p : Program} {l : Launch} {e : Env} {s : State} {m : MethodId} {args : Array Value} {below : List Frame} {meth : Method} {c : Code} {dC : Nat → ClassId} {dI : Nat → Nat → Nat} {ad : Nat → Nat} {cy : Nat → ClassId} {sz : Nat} (C : Cx p s m args meth c RX11 cX11_rings 6 none dC dI ad cy sz) {rr : Int32} {ρ : S0} (σ : S0) (x1 : Int32)  (hf : fX11_rings σ x1 = some (rr, ρ)) : Gw p l e rm_X11_rings s m args below meth c (MQ below (QcV dC dI ad cy sz ρ) args s 0 0 (AW ad sz)) dC dI ad cy 6 sz 0 0 0 [(0, .ref (ad 98)), (1, .int x1)] [] σ := by
  unfold fX11_rings at hf
  refine g_aload_n C dX11_rings_0 rfl 0 rfl ?_
  refine g_iconst (v := 0) C dX11_rings_1 (by decide) ?_
  obtain ⟨σ1, eσ1, hf⟩ := ol_e hf
  refine g_put (ty := .int) C (a_98 ad cy _) rfl hin_X11 tyX11 tyX11_ok nmX11 24 (by decide) hF_X11_204 rfl rfl (by decide +kernel) rfl rfl (Nat.le_of_ble_eq_true rfl) (p_98_24 ad cy _ _) eσ1 dX11_rings_2 ?_
  refine g_aload_n C dX11_rings_5 rfl 0 rfl ?_
  refine g_iconst (v := 0) C dX11_rings_6 (by decide) ?_
  obtain ⟨σ2, eσ2, hf⟩ := ol_e hf
  refine g_put (ty := .int) C (a_98 ad cy _) rfl hin_X11 tyX11 tyX11_ok nmX11 25 (by decide) hF_X11_207 rfl rfl (by decide +kernel) rfl rfl (Nat.le_of_ble_eq_true rfl) (p_98_25 ad cy _ _) eσ2 dX11_rings_7 ?_
  refine g_aload_n C dX11_rings_10 rfl 0 rfl ?_
  refine g_iconst (v := 0) C dX11_rings_11 (by decide) ?_
  obtain ⟨σ3, eσ3, hf⟩ := ol_e hf
  refine g_put (ty := .int) C (a_98 ad cy _) rfl hin_X11 tyX11 tyX11_ok nmX11 26 (by decide) hF_X11_210 rfl rfl (by decide +kernel) rfl rfl (Nat.le_of_ble_eq_true rfl) (p_98_26 ad cy _ _) eσ3 dX11_rings_12 ?_
  refine g_aload_n C dX11_rings_15 rfl 0 rfl ?_
  refine g_iconst (v := 0) C dX11_rings_16 (by decide) ?_
  obtain ⟨σ4, eσ4, hf⟩ := ol_e hf
  refine g_put (ty := .int) C (a_98 ad cy _) rfl hin_X11 tyX11 tyX11_ok nmX11 27 (by decide) hF_X11_213 rfl rfl (by decide +kernel) rfl rfl (Nat.le_of_ble_eq_true rfl) (p_98_27 ad cy _ _) eσ4 dX11_rings_17 ?_
  refine g_bipush (v := (-4)) C dX11_rings_20 (by decide) ?_
  refine g_istore_n (lv2 := [(0, .ref (ad 98)), (1, .int x1), (2, .int ((-4)))]) C dX11_rings_22 rfl (by decide) [1, 2, 0] rfl ?_
  refine g_iconst (v := 0) C dX11_rings_23 (by decide) ?_
  refine g_istore_n (lv2 := [(0, .ref (ad 98)), (1, .int x1), (2, .int ((-4))), (3, .int 0)]) C dX11_rings_24 rfl (by decide) [1, 2, 3, 0] rfl ?_
  exact g_sub [0, 1, 2, 3] rfl (fX11_rings_h25_ok C 400 σ4 x1 ((-4)) 0 hf)
theorem c_X11_rings (l : Launch) (dC : Nat → ClassId) (dI : Nat → Nat → Nat) (ad : Nat → Nat) (cy : Nat → ClassId) (x1 : Int32) : ConV l yX11_rings cX11_rings 6 none rm_X11_rings dC dI ad cy [.ref (ad 98), .int x1] (fun σ => fX11_rings σ x1) := con_v (own := RX11) (by decide) rfl (Nat.le_of_ble_eq_true rfl) (fun _ _ _ _ _ _ _ _ σ _ _ C hf => fX11_rings_ok C σ x1 hf)
theorem cal_X11_rings : CalV yX11_rings RX11 cX11_rings 6 none 1 := ⟨hI_X11_rings, hS_X11_rings, hIni_X11, hC_X11_rings, by decide +kernel⟩
end
section
abbrev rm_X11_valueOf : Room := { frames := 2, cells := 0, slots := 0, locals := 47 }
def fX11_valueOf (σ : S0) (x1 : Int32) : Option (Int32 × S0) := obp (fX11_rings σ x1) (fun r1 σ2 => ol (14 * x1) (fun v4 => og (¬ (v4 < 0 ∨ 84 ≤ v4.toNatClampNeg)) (ol (σ2 101 v4.toNatClampNeg) (fun v6 => some (((v6 - (σ2 98 24)) - (σ2 98 25)) - ((σ2 98 3) * (σ2 98 27)), σ2)))))
set_option maxHeartbeats 1000000 in
set_option maxRecDepth 100000 in
theorem fX11_valueOf_ok {p : Program} {l : Launch} {e : Env} {s : State} {m : MethodId} {args : Array Value} {below : List Frame} {meth : Method} {c : Code} {dC : Nat → ClassId} {dI : Nat → Nat → Nat} {ad : Nat → Nat} {cy : Nat → ClassId} {sz : Nat} (C : Cx p s m args meth c RX11 cX11_valueOf 2 (some .int) dC dI ad cy sz) {rr : Int32} {ρ : S0} (σ : S0) (x1 : Int32)  (hf : fX11_valueOf σ x1 = some (rr, ρ)) : Gw p l e rm_X11_valueOf s m args below meth c (MQ below (QcI dC dI ad cy sz rr ρ) args s 0 0 (AW ad sz)) dC dI ad cy 2 sz 0 0 0 [(0, .ref (ad 98)), (1, .int x1)] [] σ := by
  unfold fX11_valueOf at hf
  refine g_aload_n C dX11_valueOf_0 rfl 0 rfl ?_
  refine g_iload_n C dX11_valueOf_1 rfl 1 rfl ?_
  obtain ⟨r1, σ2, h3, hf⟩ := obp_e hf
  refine g_callVv (As := [.int x1]) (rest := []) C (a_98 ad cy _) rfl (c_X11_rings l dC dI ad cy x1) h3 hM_X11_216 cal_X11_rings ⟨Nat.zero_le _, Nat.zero_le _⟩ ⟨rfl, rfl⟩ ⟨Nat.le_of_ble_eq_true rfl, Nat.le_of_ble_eq_true rfl⟩ rfl rfl (Nat.le_of_ble_eq_true rfl) dX11_valueOf_2 ?_
  refine g_aload_n C dX11_valueOf_5 rfl 0 rfl ?_
  refine g_get C (a_98 ad cy _) rfl hin_X11 6 (by decide) hF_X11_17 rfl rfl dX11_valueOf_6 ?_
  refine g_bipush (v := 14) C dX11_valueOf_9 (by decide) ?_
  refine g_iload_n C dX11_valueOf_11 rfl 1 rfl ?_
  refine g_imul C dX11_valueOf_12 ?_
  obtain ⟨v4, ev4, hf⟩ := ol_e hf
  refine g_nm ev4 ?_
  obtain ⟨h5, hf⟩ := og_e hf
  refine g_iald C (a_101 ad cy _) h5 dX11_valueOf_13 ?_
  obtain ⟨v6, ev6, hf⟩ := ol_e hf
  refine g_nm ev6 ?_
  refine g_aload_n C dX11_valueOf_14 rfl 0 rfl ?_
  refine g_get C (a_98 ad cy _) rfl hin_X11 24 (by decide) hF_X11_204 rfl rfl dX11_valueOf_15 ?_
  refine g_isub C dX11_valueOf_18 ?_
  refine g_aload_n C dX11_valueOf_19 rfl 0 rfl ?_
  refine g_get C (a_98 ad cy _) rfl hin_X11 25 (by decide) hF_X11_207 rfl rfl dX11_valueOf_20 ?_
  refine g_isub C dX11_valueOf_23 ?_
  refine g_aload_n C dX11_valueOf_24 rfl 0 rfl ?_
  refine g_get C (a_98 ad cy _) rfl hin_X11 3 (by decide) hF_X11_78 rfl rfl dX11_valueOf_25 ?_
  refine g_aload_n C dX11_valueOf_28 rfl 0 rfl ?_
  refine g_get C (a_98 ad cy _) rfl hin_X11 27 (by decide) hF_X11_213 rfl rfl dX11_valueOf_29 ?_
  refine g_imul C dX11_valueOf_32 ?_
  refine g_isub C dX11_valueOf_33 ?_
  obtain ⟨rfl, rfl⟩ := os_e hf
  exact g_iret C rfl dX11_valueOf_34
theorem c_X11_valueOf (l : Launch) (dC : Nat → ClassId) (dI : Nat → Nat → Nat) (ad : Nat → Nat) (cy : Nat → ClassId) (x1 : Int32) : ConI l yX11_valueOf cX11_valueOf 2 (some .int) rm_X11_valueOf dC dI ad cy [.ref (ad 98), .int x1] (fun σ => fX11_valueOf σ x1) := con_i (own := RX11) (by decide) rfl (Nat.le_of_ble_eq_true rfl) (fun _ _ _ _ _ _ _ _ σ _ _ C hf => fX11_valueOf_ok C σ x1 hf)
theorem cal_X11_valueOf : CalV yX11_valueOf RX11 cX11_valueOf 2 (some .int) 1 := ⟨hI_X11_valueOf, hS_X11_valueOf, hIni_X11, hC_X11_valueOf, by decide +kernel⟩
abbrev rm_X11_ring : Room := { frames := 3, cells := 0, slots := 0, locals := 68 }
def fX11_ring (σ : S0) (x1 : Int32) (x2 : Int32) : Option (Int32 × S0) := obp (fX11_isTune σ x1) (fun r1 σ2 => if ¬ r1 = 0 then (obp (fX11_valueOf σ2 x1) (fun r5 σ6 => if x2.toInt < 0 ∨ 3 < x2.toInt then (some ((-1), σ6)) else if x2 = 0 then (some (σ6 98 24, σ6)) else if x2 = 1 then (some (σ6 98 26, σ6)) else if x2 = 2 then (some (σ6 98 25, σ6)) else if x2 = 3 then (some (r5 + 1000, σ6)) else none)) else (some ((-1), σ2)))
set_option maxHeartbeats 1000000 in
set_option maxRecDepth 100000 in
theorem fX11_ring_ok {p : Program} {l : Launch} {e : Env} {s : State} {m : MethodId} {args : Array Value} {below : List Frame} {meth : Method} {c : Code} {dC : Nat → ClassId} {dI : Nat → Nat → Nat} {ad : Nat → Nat} {cy : Nat → ClassId} {sz : Nat} (C : Cx p s m args meth c RX11 cX11_ring 4 (some .int) dC dI ad cy sz) {rr : Int32} {ρ : S0} (σ : S0) (x1 : Int32) (x2 : Int32)  (hf : fX11_ring σ x1 x2 = some (rr, ρ)) : Gw p l e rm_X11_ring s m args below meth c (MQ below (QcI dC dI ad cy sz rr ρ) args s 0 0 (AW ad sz)) dC dI ad cy 4 sz 0 0 0 [(0, .ref (ad 98)), (1, .int x1), (2, .int x2)] [] σ := by
  unfold fX11_ring at hf
  refine g_aload_n C dX11_ring_0 rfl 0 rfl ?_
  refine g_iload_n C dX11_ring_1 rfl 1 rfl ?_
  obtain ⟨r1, σ2, h3, hf⟩ := obp_e hf
  refine g_callVi (As := [.int x1]) (rest := []) C (a_98 ad cy _) rfl (c_X11_isTune l dC dI ad cy x1) h3 hM_X11_175 cal_X11_isTune ⟨Nat.zero_le _, Nat.zero_le _⟩ ⟨rfl, rfl⟩ ⟨Nat.le_of_ble_eq_true rfl, Nat.le_of_ble_eq_true rfl⟩ rfl rfl (Nat.le_of_ble_eq_true rfl) dX11_ring_2 ?_
  rcases oi_e hf with ⟨c4, hf⟩ | ⟨c4, hf⟩
  · refine g_if_ne_t (tgt := 10) C dX11_ring_5 (by decide) c4 ?_
    refine g_aload_n C dX11_ring_10 rfl 0 rfl ?_
    refine g_iload_n C dX11_ring_11 rfl 1 rfl ?_
    obtain ⟨r5, σ6, h7, hf⟩ := obp_e hf
    refine g_callVi (As := [.int x1]) (rest := []) C (a_98 ad cy _) rfl (c_X11_valueOf l dC dI ad cy x1) h7 hM_X11_220 cal_X11_valueOf ⟨Nat.zero_le _, Nat.zero_le _⟩ ⟨rfl, rfl⟩ ⟨Nat.le_of_ble_eq_true rfl, Nat.le_of_ble_eq_true rfl⟩ rfl rfl (Nat.le_of_ble_eq_true rfl) dX11_ring_12 ?_
    refine g_istore_n (lv2 := [(0, .ref (ad 98)), (1, .int x1), (2, .int x2), (3, .int r5)]) C dX11_ring_15 rfl (by decide) [1, 2, 3, 0] rfl ?_
    refine g_iload_n C dX11_ring_16 rfl 2 rfl ?_
    rcases oi_e hf with ⟨c8, hf⟩ | ⟨c8, hf⟩
    · refine g_tout (tgt := 69) C dX11_ring_17 c8 (by decide) ?_
      refine g_iconst (v := (-1)) C dX11_ring_69 (by decide) ?_
      obtain ⟨rfl, rfl⟩ := os_e hf
      exact g_iret C rfl dX11_ring_70
    · skip
      rcases oi_e hf with ⟨c9, hf⟩ | ⟨c9, hf⟩
      · refine g_tin (tgt := 48) C dX11_ring_17 (by rw [c9]; decide) (by rw [c9]; decide) (by rw [c9]; rfl) (by decide) ?_
        refine g_aload_n C dX11_ring_48 rfl 0 rfl ?_
        refine g_get C (a_98 ad cy _) rfl hin_X11 24 (by decide) hF_X11_204 rfl rfl dX11_ring_49 ?_
        obtain ⟨rfl, rfl⟩ := os_e hf
        exact g_iret C rfl dX11_ring_52
      · skip
        rcases oi_e hf with ⟨c10, hf⟩ | ⟨c10, hf⟩
        · refine g_tin (tgt := 53) C dX11_ring_17 (by rw [c10]; decide) (by rw [c10]; decide) (by rw [c10]; rfl) (by decide) ?_
          refine g_aload_n C dX11_ring_53 rfl 0 rfl ?_
          refine g_get C (a_98 ad cy _) rfl hin_X11 26 (by decide) hF_X11_210 rfl rfl dX11_ring_54 ?_
          obtain ⟨rfl, rfl⟩ := os_e hf
          exact g_iret C rfl dX11_ring_57
        · skip
          rcases oi_e hf with ⟨c11, hf⟩ | ⟨c11, hf⟩
          · refine g_tin (tgt := 58) C dX11_ring_17 (by rw [c11]; decide) (by rw [c11]; decide) (by rw [c11]; rfl) (by decide) ?_
            refine g_aload_n C dX11_ring_58 rfl 0 rfl ?_
            refine g_get C (a_98 ad cy _) rfl hin_X11 25 (by decide) hF_X11_207 rfl rfl dX11_ring_59 ?_
            obtain ⟨rfl, rfl⟩ := os_e hf
            exact g_iret C rfl dX11_ring_62
          · skip
            rcases oi_e hf with ⟨c12, hf⟩ | ⟨c12, hf⟩
            · refine g_tin (tgt := 63) C dX11_ring_17 (by rw [c12]; decide) (by rw [c12]; decide) (by rw [c12]; rfl) (by decide) ?_
              refine g_iload_n C dX11_ring_63 rfl 3 rfl ?_
              refine g_sipush (v := 1000) C dX11_ring_64 (by decide) ?_
              refine g_iadd C dX11_ring_67 ?_
              obtain ⟨rfl, rfl⟩ := os_e hf
              exact g_iret C rfl dX11_ring_68
            · skip
              cases hf
  · refine g_if_ne_f (tgt := 10) C dX11_ring_5 (by decide) (Decidable.of_not_not c4) ?_
    refine g_iconst (v := (-1)) C dX11_ring_8 (by decide) ?_
    obtain ⟨rfl, rfl⟩ := os_e hf
    exact g_iret C rfl dX11_ring_9
theorem c_X11_ring (l : Launch) (dC : Nat → ClassId) (dI : Nat → Nat → Nat) (ad : Nat → Nat) (cy : Nat → ClassId) (x1 : Int32) (x2 : Int32) : ConI l yX11_ring cX11_ring 4 (some .int) rm_X11_ring dC dI ad cy [.ref (ad 98), .int x1, .int x2] (fun σ => fX11_ring σ x1 x2) := con_i (own := RX11) (by decide) rfl (Nat.le_of_ble_eq_true rfl) (fun _ _ _ _ _ _ _ _ σ _ _ C hf => fX11_ring_ok C σ x1 x2 hf)
theorem cal_X11_ring : CalV yX11_ring RX11 cX11_ring 4 (some .int) 2 := ⟨hI_X11_ring, hS_X11_ring, hIni_X11, hC_X11_ring, by decide +kernel⟩
abbrev rm_X11_takenNow : Room := { frames := 3, cells := 0, slots := 0, locals := 68 }
def fX11_takenNow_b46 (sf_7 : S0 → Int32 → Int32 → Int32 → Option (Int32 × S0)) (σ : S0) (x1 : Int32) (x3 : Int32) (t0 : Int32) : Option (Int32 × S0) := ol (x3 + 1) (fun v1 => sf_7 σ x1 t0 v1)
set_option maxHeartbeats 1000000 in
set_option maxRecDepth 100000 in
theorem fX11_takenNow_b46_ok {p : Program} {l : Launch} {e : Env} {s : State} {m : MethodId} {args : Array Value} {below : List Frame} {meth : Method} {c : Code} {dC : Nat → ClassId} {dI : Nat → Nat → Nat} {ad : Nat → Nat} {cy : Nat → ClassId} {sz : Nat} (C : Cx p s m args meth c RX11 cX11_takenNow 5 (some .int) dC dI ad cy sz) {rr : Int32} {ρ : S0} (sf_7 : S0 → Int32 → Int32 → Int32 → Option (Int32 × S0)) (hs_7 : ∀ (σ : S0) (x1 : Int32) (x2 : Int32) (x3 : Int32) , sf_7 σ x1 x2 x3 = some (rr, ρ) → Gw p l e rm_X11_takenNow s m args below meth c (MQ below (QcI dC dI ad cy sz rr ρ) args s 0 0 (AW ad sz)) dC dI ad cy 5 sz 0 0 7 [(0, .ref (ad 98)), (1, .int x1), (2, .int x2), (3, .int x3)] [] σ) (σ : S0) (x1 : Int32) (x3 : Int32) (t0 : Int32)  (hf : fX11_takenNow_b46 sf_7 σ x1 x3 t0 = some (rr, ρ)) : Gw p l e rm_X11_takenNow s m args below meth c (MQ below (QcI dC dI ad cy sz rr ρ) args s 0 0 (AW ad sz)) dC dI ad cy 5 sz 0 0 46 [(0, .ref (ad 98)), (1, .int x1), (3, .int x3)] [.int t0] σ := by
  unfold fX11_takenNow_b46 at hf
  refine g_istore_n (lv2 := [(0, .ref (ad 98)), (1, .int x1), (2, .int t0), (3, .int x3)]) C dX11_takenNow_46 rfl (by decide) [1, 2, 0, 3] rfl ?_
  obtain ⟨v1, ev1, hf⟩ := ol_e hf
  refine g_iinc (j := 3) (w := 1) (lv2 := [(0, .ref (ad 98)), (1, .int x1), (2, .int t0), (3, .int v1)]) C dX11_takenNow_47 rfl (by decide) ev1 (by decide) [1, 2, 3, 0] rfl ?_
  refine g_goto (tgt := 7) C dX11_takenNow_50 (by decide) ?_
  exact g_sub [0, 1, 2, 3] rfl (hs_7 σ x1 t0 v1 hf)
def fX11_takenNow_b33 (sf_7 : S0 → Int32 → Int32 → Int32 → Option (Int32 × S0)) (σ : S0) (x2 : Int32) (x3 : Int32) (x4 : Int32) (t0 : Int32) : Option (Int32 × S0) := if x4 ≤ x2 then (fX11_takenNow_b46 sf_7 σ t0 x3 x2) else (fX11_takenNow_b46 sf_7 σ t0 x3 x4)
set_option maxHeartbeats 1000000 in
set_option maxRecDepth 100000 in
theorem fX11_takenNow_b33_ok {p : Program} {l : Launch} {e : Env} {s : State} {m : MethodId} {args : Array Value} {below : List Frame} {meth : Method} {c : Code} {dC : Nat → ClassId} {dI : Nat → Nat → Nat} {ad : Nat → Nat} {cy : Nat → ClassId} {sz : Nat} (C : Cx p s m args meth c RX11 cX11_takenNow 5 (some .int) dC dI ad cy sz) {rr : Int32} {ρ : S0} (sf_7 : S0 → Int32 → Int32 → Int32 → Option (Int32 × S0)) (hs_7 : ∀ (σ : S0) (x1 : Int32) (x2 : Int32) (x3 : Int32) , sf_7 σ x1 x2 x3 = some (rr, ρ) → Gw p l e rm_X11_takenNow s m args below meth c (MQ below (QcI dC dI ad cy sz rr ρ) args s 0 0 (AW ad sz)) dC dI ad cy 5 sz 0 0 7 [(0, .ref (ad 98)), (1, .int x1), (2, .int x2), (3, .int x3)] [] σ) (σ : S0) (x2 : Int32) (x3 : Int32) (x4 : Int32) (t0 : Int32)  (hf : fX11_takenNow_b33 sf_7 σ x2 x3 x4 t0 = some (rr, ρ)) : Gw p l e rm_X11_takenNow s m args below meth c (MQ below (QcI dC dI ad cy sz rr ρ) args s 0 0 (AW ad sz)) dC dI ad cy 5 sz 0 0 33 [(0, .ref (ad 98)), (2, .int x2), (3, .int x3), (4, .int x4)] [.int t0] σ := by
  unfold fX11_takenNow_b33 at hf
  refine g_istore_n (lv2 := [(0, .ref (ad 98)), (1, .int t0), (2, .int x2), (3, .int x3), (4, .int x4)]) C dX11_takenNow_33 rfl (by decide) [1, 0, 2, 3, 4] rfl ?_
  refine g_iload C dX11_takenNow_34 4 rfl ?_
  refine g_iload_n C dX11_takenNow_36 rfl 2 rfl ?_
  rcases oi_e hf with ⟨c1, hf⟩ | ⟨c1, hf⟩
  · refine g_icmp_le_t (tgt := 45) C dX11_takenNow_37 (by decide) c1 ?_
    refine g_iload_n C dX11_takenNow_45 rfl 2 rfl ?_
    exact g_sub [0, 1, 3] rfl (fX11_takenNow_b46_ok C sf_7 hs_7 σ t0 x3 x2 hf)
  · refine g_icmp_le_f (tgt := 45) C dX11_takenNow_37 (by decide) c1 ?_
    refine g_iload C dX11_takenNow_40 4 rfl ?_
    refine g_goto (tgt := 46) C dX11_takenNow_42 (by decide) ?_
    exact g_sub [0, 1, 3] rfl (fX11_takenNow_b46_ok C sf_7 hs_7 σ t0 x3 x4 hf)
def fX11_takenNow_b7 (sf_7 : S0 → Int32 → Int32 → Int32 → Option (Int32 × S0)) (σ : S0) (x1 : Int32) (x2 : Int32) (x3 : Int32) : Option (Int32 × S0) := if (σ 98 5) ≤ x3 then (some (x1, σ)) else (obp (fX11_valueOf σ x3) (fun r2 σ3 => if r2 ≤ x2 then (fX11_takenNow_b33 sf_7 σ3 x2 x3 r2 x1) else (fX11_takenNow_b33 sf_7 σ3 x2 x3 r2 x3)))
set_option maxHeartbeats 1000000 in
set_option maxRecDepth 100000 in
theorem fX11_takenNow_b7_ok {p : Program} {l : Launch} {e : Env} {s : State} {m : MethodId} {args : Array Value} {below : List Frame} {meth : Method} {c : Code} {dC : Nat → ClassId} {dI : Nat → Nat → Nat} {ad : Nat → Nat} {cy : Nat → ClassId} {sz : Nat} (C : Cx p s m args meth c RX11 cX11_takenNow 5 (some .int) dC dI ad cy sz) {rr : Int32} {ρ : S0} (sf_7 : S0 → Int32 → Int32 → Int32 → Option (Int32 × S0)) (hs_7 : ∀ (σ : S0) (x1 : Int32) (x2 : Int32) (x3 : Int32) , sf_7 σ x1 x2 x3 = some (rr, ρ) → Gw p l e rm_X11_takenNow s m args below meth c (MQ below (QcI dC dI ad cy sz rr ρ) args s 0 0 (AW ad sz)) dC dI ad cy 5 sz 0 0 7 [(0, .ref (ad 98)), (1, .int x1), (2, .int x2), (3, .int x3)] [] σ) (σ : S0) (x1 : Int32) (x2 : Int32) (x3 : Int32)  (hf : fX11_takenNow_b7 sf_7 σ x1 x2 x3 = some (rr, ρ)) : Gw p l e rm_X11_takenNow s m args below meth c (MQ below (QcI dC dI ad cy sz rr ρ) args s 0 0 (AW ad sz)) dC dI ad cy 5 sz 0 0 7 [(0, .ref (ad 98)), (1, .int x1), (2, .int x2), (3, .int x3)] [] σ := by
  unfold fX11_takenNow_b7 at hf
  refine g_iload_n C dX11_takenNow_7 rfl 3 rfl ?_
  refine g_aload_n C dX11_takenNow_8 rfl 0 rfl ?_
  refine g_get C (a_98 ad cy _) rfl hin_X11 5 (by decide) hF_X11_84 rfl rfl dX11_takenNow_9 ?_
  rcases oi_e hf with ⟨c1, hf⟩ | ⟨c1, hf⟩
  · refine g_icmp_ge_t (tgt := 53) C dX11_takenNow_12 (by decide) c1 ?_
    refine g_iload_n C dX11_takenNow_53 rfl 1 rfl ?_
    obtain ⟨rfl, rfl⟩ := os_e hf
    exact g_iret C rfl dX11_takenNow_54
  · refine g_icmp_ge_f (tgt := 53) C dX11_takenNow_12 (by decide) c1 ?_
    refine g_aload_n C dX11_takenNow_15 rfl 0 rfl ?_
    refine g_iload_n C dX11_takenNow_16 rfl 3 rfl ?_
    obtain ⟨r2, σ3, h4, hf⟩ := obp_e hf
    refine g_callVi (As := [.int x3]) (rest := []) C (a_98 ad cy _) rfl (c_X11_valueOf l dC dI ad cy x3) h4 hM_X11_220 cal_X11_valueOf ⟨Nat.zero_le _, Nat.zero_le _⟩ ⟨rfl, rfl⟩ ⟨Nat.le_of_ble_eq_true rfl, Nat.le_of_ble_eq_true rfl⟩ rfl rfl (Nat.le_of_ble_eq_true rfl) dX11_takenNow_17 ?_
    refine g_istore (lv2 := [(0, .ref (ad 98)), (1, .int x1), (2, .int x2), (3, .int x3), (4, .int r2)]) C dX11_takenNow_20 (by decide) [1, 2, 3, 4, 0] rfl ?_
    refine g_iload C dX11_takenNow_22 4 rfl ?_
    refine g_iload_n C dX11_takenNow_24 rfl 2 rfl ?_
    rcases oi_e hf with ⟨c5, hf⟩ | ⟨c5, hf⟩
    · refine g_icmp_le_t (tgt := 32) C dX11_takenNow_25 (by decide) c5 ?_
      refine g_iload_n C dX11_takenNow_32 rfl 1 rfl ?_
      exact g_sub [0, 2, 3, 4] rfl (fX11_takenNow_b33_ok C sf_7 hs_7 σ3 x2 x3 r2 x1 hf)
    · refine g_icmp_le_f (tgt := 32) C dX11_takenNow_25 (by decide) c5 ?_
      refine g_iload_n C dX11_takenNow_28 rfl 3 rfl ?_
      refine g_goto (tgt := 33) C dX11_takenNow_29 (by decide) ?_
      exact g_sub [0, 2, 3, 4] rfl (fX11_takenNow_b33_ok C sf_7 hs_7 σ3 x2 x3 r2 x3 hf)
def fX11_takenNow_h7  : Nat → S0 → Int32 → Int32 → Int32 → Option (Int32 × S0)
  | 0 => fun _ _ _ _ => none
  | n + 1 => fun σ x1 x2 x3 => fX11_takenNow_b7  (fX11_takenNow_h7  n) σ x1 x2 x3
set_option maxHeartbeats 1000000 in
set_option maxRecDepth 100000 in
theorem fX11_takenNow_h7_ok {p : Program} {l : Launch} {e : Env} {s : State} {m : MethodId} {args : Array Value} {below : List Frame} {meth : Method} {c : Code} {dC : Nat → ClassId} {dI : Nat → Nat → Nat} {ad : Nat → Nat} {cy : Nat → ClassId} {sz : Nat} (C : Cx p s m args meth c RX11 cX11_takenNow 5 (some .int) dC dI ad cy sz) {rr : Int32} {ρ : S0}  : ∀ (n : Nat) (σ : S0) (x1 : Int32) (x2 : Int32) (x3 : Int32)  (_hf : fX11_takenNow_h7  n σ x1 x2 x3 = some (rr, ρ)), Gw p l e rm_X11_takenNow s m args below meth c (MQ below (QcI dC dI ad cy sz rr ρ) args s 0 0 (AW ad sz)) dC dI ad cy 5 sz 0 0 7 [(0, .ref (ad 98)), (1, .int x1), (2, .int x2), (3, .int x3)] [] σ
  | 0, _, _, _, _, hf => by cases hf
  | n + 1, σ, x1, x2, x3, hf => fX11_takenNow_b7_ok C  (fX11_takenNow_h7  n) (fX11_takenNow_h7_ok C  n) σ x1 x2 x3 hf
def fX11_takenNow (σ : S0)  : Option (Int32 × S0) := fX11_takenNow_h7 400 σ ((-4)) 0 0
set_option maxHeartbeats 1000000 in
set_option maxRecDepth 100000 in
theorem fX11_takenNow_ok {p : Program} {l : Launch} {e : Env} {s : State} {m : MethodId} {args : Array Value} {below : List Frame} {meth : Method} {c : Code} {dC : Nat → ClassId} {dI : Nat → Nat → Nat} {ad : Nat → Nat} {cy : Nat → ClassId} {sz : Nat} (C : Cx p s m args meth c RX11 cX11_takenNow 5 (some .int) dC dI ad cy sz) {rr : Int32} {ρ : S0} (σ : S0)   (hf : fX11_takenNow σ = some (rr, ρ)) : Gw p l e rm_X11_takenNow s m args below meth c (MQ below (QcI dC dI ad cy sz rr ρ) args s 0 0 (AW ad sz)) dC dI ad cy 5 sz 0 0 0 [(0, .ref (ad 98))] [] σ := by
  unfold fX11_takenNow at hf
  refine g_bipush (v := (-4)) C dX11_takenNow_0 (by decide) ?_
  refine g_istore_n (lv2 := [(0, .ref (ad 98)), (1, .int ((-4)))]) C dX11_takenNow_2 rfl (by decide) [1, 0] rfl ?_
  refine g_iconst (v := 0) C dX11_takenNow_3 (by decide) ?_
  refine g_istore_n (lv2 := [(0, .ref (ad 98)), (1, .int ((-4))), (2, .int 0)]) C dX11_takenNow_4 rfl (by decide) [1, 2, 0] rfl ?_
  refine g_iconst (v := 0) C dX11_takenNow_5 (by decide) ?_
  refine g_istore_n (lv2 := [(0, .ref (ad 98)), (1, .int ((-4))), (2, .int 0), (3, .int 0)]) C dX11_takenNow_6 rfl (by decide) [1, 2, 3, 0] rfl ?_
  exact g_sub [0, 1, 2, 3] rfl (fX11_takenNow_h7_ok C 400 σ ((-4)) 0 0 hf)
theorem c_X11_takenNow (l : Launch) (dC : Nat → ClassId) (dI : Nat → Nat → Nat) (ad : Nat → Nat) (cy : Nat → ClassId)  : ConI l yX11_takenNow cX11_takenNow 5 (some .int) rm_X11_takenNow dC dI ad cy [.ref (ad 98)] (fun σ => fX11_takenNow σ) := con_i (own := RX11) (by decide) rfl (Nat.le_of_ble_eq_true rfl) (fun _ _ _ _ _ _ _ _ σ _ _ C hf => fX11_takenNow_ok C σ  hf)
theorem cal_X11_takenNow : CalV yX11_takenNow RX11 cX11_takenNow 5 (some .int) 0 := ⟨hI_X11_takenNow, hS_X11_takenNow, hIni_X11, hC_X11_takenNow, by decide +kernel⟩
abbrev rm_X11_taken : Room := { frames := 4, cells := 0, slots := 0, locals := 92 }
def fX11_taken (σ : S0)  : Option (Int32 × S0) := obp (fX11_takenNow σ) (fun r1 σ2 => some (r1, σ2))
set_option maxHeartbeats 1000000 in
set_option maxRecDepth 100000 in
theorem fX11_taken_ok {p : Program} {l : Launch} {e : Env} {s : State} {m : MethodId} {args : Array Value} {below : List Frame} {meth : Method} {c : Code} {dC : Nat → ClassId} {dI : Nat → Nat → Nat} {ad : Nat → Nat} {cy : Nat → ClassId} {sz : Nat} (C : Cx p s m args meth c RX11 cX11_taken 1 (some .int) dC dI ad cy sz) {rr : Int32} {ρ : S0} (σ : S0)   (hf : fX11_taken σ = some (rr, ρ)) : Gw p l e rm_X11_taken s m args below meth c (MQ below (QcI dC dI ad cy sz rr ρ) args s 0 0 (AW ad sz)) dC dI ad cy 1 sz 0 0 0 [(0, .ref (ad 98))] [] σ := by
  unfold fX11_taken at hf
  refine g_aload_n C dX11_taken_0 rfl 0 rfl ?_
  obtain ⟨r1, σ2, h3, hf⟩ := obp_e hf
  refine g_callVi (As := []) (rest := []) C (a_98 ad cy _) rfl (c_X11_takenNow l dC dI ad cy ) h3 hM_X11_223 cal_X11_takenNow ⟨Nat.zero_le _, Nat.zero_le _⟩ ⟨rfl, rfl⟩ ⟨Nat.le_of_ble_eq_true rfl, Nat.le_of_ble_eq_true rfl⟩ rfl rfl (Nat.le_of_ble_eq_true rfl) dX11_taken_1 ?_
  obtain ⟨rfl, rfl⟩ := os_e hf
  exact g_iret C rfl dX11_taken_4
theorem c_X11_taken (l : Launch) (dC : Nat → ClassId) (dI : Nat → Nat → Nat) (ad : Nat → Nat) (cy : Nat → ClassId)  : ConI l yX11_taken cX11_taken 1 (some .int) rm_X11_taken dC dI ad cy [.ref (ad 98)] (fun σ => fX11_taken σ) := con_i (own := RX11) (by decide) rfl (Nat.le_of_ble_eq_true rfl) (fun _ _ _ _ _ _ _ _ σ _ _ C hf => fX11_taken_ok C σ  hf)
theorem cal_X11_taken : CalV yX11_taken RX11 cX11_taken 1 (some .int) 0 := ⟨hI_X11_taken, hS_X11_taken, hIni_X11, hC_X11_taken, by decide +kernel⟩
abbrev rm_X11_getsOf : Room := { frames := 1, cells := 0, slots := 0, locals := 22 }
def fX11_getsOf_b16  (σ : S0) (x1 : Int32) (x2 : Int32) (t0 : Int32) : Option (Int32 × S0) := obp (fX11_of σ x2 ((0 : Int32))) (fun r1 σ2 => if ¬ r1 = x1 then (obp (fX11_of σ2 x2 ((4 : Int32))) (fun r5 σ6 => if ¬ r5 = x1 then (some (0, σ6)) else (obp (fX11_of σ6 x2 ((1 : Int32))) (fun r9 σ10 => some (r9, σ10))))) else (if t0 = 0 then (obp (fX11_of σ2 x2 ((1 : Int32))) (fun r13 σ14 => some (2 * r13, σ14))) else (obp (fX11_of σ2 x2 ((1 : Int32))) (fun r16 σ17 => some (r16, σ17)))))
set_option maxHeartbeats 1000000 in
set_option maxRecDepth 100000 in
theorem fX11_getsOf_b16_ok {p : Program} {l : Launch} {e : Env} {s : State} {m : MethodId} {args : Array Value} {below : List Frame} {meth : Method} {c : Code} {dC : Nat → ClassId} {dI : Nat → Nat → Nat} {ad : Nat → Nat} {cy : Nat → ClassId} {sz : Nat} (C : Cx p s m args meth c RX11 cX11_getsOf 4 (some .int) dC dI ad cy sz) {rr : Int32} {ρ : S0}  (σ : S0) (x1 : Int32) (x2 : Int32) (t0 : Int32)  (hf : fX11_getsOf_b16 σ x1 x2 t0 = some (rr, ρ)) : Gw p l e rm_X11_getsOf s m args below meth c (MQ below (QcI dC dI ad cy sz rr ρ) args s 0 0 (AW ad sz)) dC dI ad cy 4 sz 0 0 16 [(0, .ref (ad 98)), (1, .int x1), (2, .int x2)] [.int t0] σ := by
  unfold fX11_getsOf_b16 at hf
  refine g_istore_n (lv2 := [(0, .ref (ad 98)), (1, .int x1), (2, .int x2), (3, .int t0)]) C dX11_getsOf_16 rfl (by decide) [1, 2, 3, 0] rfl ?_
  refine g_aload_n C dX11_getsOf_17 rfl 0 rfl ?_
  refine g_iload_n C dX11_getsOf_18 rfl 2 rfl ?_
  refine g_iconst (v := 0) C dX11_getsOf_19 (by decide) ?_
  obtain ⟨r1, σ2, h3, hf⟩ := obp_e hf
  refine g_callVi (As := [.int x2, .int 0]) (rest := []) C (a_98 ad cy _) rfl (c_X11_of l dC dI ad cy x2 ((0 : Int32))) h3 hM_X11_172 cal_X11_of ⟨Nat.zero_le _, Nat.zero_le _⟩ ⟨rfl, rfl⟩ ⟨Nat.le_of_ble_eq_true rfl, Nat.le_of_ble_eq_true rfl⟩ rfl rfl (Nat.le_of_ble_eq_true rfl) dX11_getsOf_20 ?_
  refine g_iload_n C dX11_getsOf_23 rfl 1 rfl ?_
  rcases oi_e hf with ⟨c4, hf⟩ | ⟨c4, hf⟩
  · refine g_icmp_ne_t (tgt := 51) C dX11_getsOf_24 (by decide) c4 ?_
    refine g_aload_n C dX11_getsOf_51 rfl 0 rfl ?_
    refine g_iload_n C dX11_getsOf_52 rfl 2 rfl ?_
    refine g_iconst (v := 4) C dX11_getsOf_53 (by decide) ?_
    obtain ⟨r5, σ6, h7, hf⟩ := obp_e hf
    refine g_callVi (As := [.int x2, .int 4]) (rest := []) C (a_98 ad cy _) rfl (c_X11_of l dC dI ad cy x2 ((4 : Int32))) h7 hM_X11_172 cal_X11_of ⟨Nat.zero_le _, Nat.zero_le _⟩ ⟨rfl, rfl⟩ ⟨Nat.le_of_ble_eq_true rfl, Nat.le_of_ble_eq_true rfl⟩ rfl rfl (Nat.le_of_ble_eq_true rfl) dX11_getsOf_54 ?_
    refine g_iload_n C dX11_getsOf_57 rfl 1 rfl ?_
    rcases oi_e hf with ⟨c8, hf⟩ | ⟨c8, hf⟩
    · refine g_icmp_ne_t (tgt := 70) C dX11_getsOf_58 (by decide) c8 ?_
      refine g_iconst (v := 0) C dX11_getsOf_70 (by decide) ?_
      obtain ⟨rfl, rfl⟩ := os_e hf
      exact g_iret C rfl dX11_getsOf_71
    · refine g_icmp_ne_f (tgt := 70) C dX11_getsOf_58 (by decide) (Decidable.of_not_not c8) ?_
      refine g_aload_n C dX11_getsOf_61 rfl 0 rfl ?_
      refine g_iload_n C dX11_getsOf_62 rfl 2 rfl ?_
      refine g_iconst (v := 1) C dX11_getsOf_63 (by decide) ?_
      obtain ⟨r9, σ10, h11, hf⟩ := obp_e hf
      refine g_callVi (As := [.int x2, .int 1]) (rest := []) C (a_98 ad cy _) rfl (c_X11_of l dC dI ad cy x2 ((1 : Int32))) h11 hM_X11_172 cal_X11_of ⟨Nat.zero_le _, Nat.zero_le _⟩ ⟨rfl, rfl⟩ ⟨Nat.le_of_ble_eq_true rfl, Nat.le_of_ble_eq_true rfl⟩ rfl rfl (Nat.le_of_ble_eq_true rfl) dX11_getsOf_64 ?_
      refine g_goto (tgt := 71) C dX11_getsOf_67 (by decide) ?_
      obtain ⟨rfl, rfl⟩ := os_e hf
      exact g_iret C rfl dX11_getsOf_71
  · refine g_icmp_ne_f (tgt := 51) C dX11_getsOf_24 (by decide) (Decidable.of_not_not c4) ?_
    refine g_iload_n C dX11_getsOf_27 rfl 3 rfl ?_
    rcases oi_e hf with ⟨c12, hf⟩ | ⟨c12, hf⟩
    · refine g_if_eq_t (tgt := 40) C dX11_getsOf_28 (by decide) c12 ?_
      refine g_iconst (v := 2) C dX11_getsOf_40 (by decide) ?_
      refine g_aload_n C dX11_getsOf_41 rfl 0 rfl ?_
      refine g_iload_n C dX11_getsOf_42 rfl 2 rfl ?_
      refine g_iconst (v := 1) C dX11_getsOf_43 (by decide) ?_
      obtain ⟨r13, σ14, h15, hf⟩ := obp_e hf
      refine g_callVi (As := [.int x2, .int 1]) (rest := [.int 2]) C (a_98 ad cy _) rfl (c_X11_of l dC dI ad cy x2 ((1 : Int32))) h15 hM_X11_172 cal_X11_of ⟨Nat.zero_le _, Nat.zero_le _⟩ ⟨rfl, rfl⟩ ⟨Nat.le_of_ble_eq_true rfl, Nat.le_of_ble_eq_true rfl⟩ rfl rfl (Nat.le_of_ble_eq_true rfl) dX11_getsOf_44 ?_
      refine g_imul C dX11_getsOf_47 ?_
      refine g_goto (tgt := 71) C dX11_getsOf_48 (by decide) ?_
      obtain ⟨rfl, rfl⟩ := os_e hf
      exact g_iret C rfl dX11_getsOf_71
    · refine g_if_eq_f (tgt := 40) C dX11_getsOf_28 (by decide) c12 ?_
      refine g_aload_n C dX11_getsOf_31 rfl 0 rfl ?_
      refine g_iload_n C dX11_getsOf_32 rfl 2 rfl ?_
      refine g_iconst (v := 1) C dX11_getsOf_33 (by decide) ?_
      obtain ⟨r16, σ17, h18, hf⟩ := obp_e hf
      refine g_callVi (As := [.int x2, .int 1]) (rest := []) C (a_98 ad cy _) rfl (c_X11_of l dC dI ad cy x2 ((1 : Int32))) h18 hM_X11_172 cal_X11_of ⟨Nat.zero_le _, Nat.zero_le _⟩ ⟨rfl, rfl⟩ ⟨Nat.le_of_ble_eq_true rfl, Nat.le_of_ble_eq_true rfl⟩ rfl rfl (Nat.le_of_ble_eq_true rfl) dX11_getsOf_34 ?_
      refine g_goto (tgt := 71) C dX11_getsOf_37 (by decide) ?_
      obtain ⟨rfl, rfl⟩ := os_e hf
      exact g_iret C rfl dX11_getsOf_71
def fX11_getsOf (σ : S0) (x1 : Int32) (x2 : Int32) : Option (Int32 × S0) := obp (fX11_of σ x2 ((4 : Int32))) (fun r1 σ2 => if r1 = ((-4)) then (fX11_getsOf_b16 σ2 x1 x2 0) else (fX11_getsOf_b16 σ2 x1 x2 1))
set_option maxHeartbeats 1000000 in
set_option maxRecDepth 100000 in
theorem fX11_getsOf_ok {p : Program} {l : Launch} {e : Env} {s : State} {m : MethodId} {args : Array Value} {below : List Frame} {meth : Method} {c : Code} {dC : Nat → ClassId} {dI : Nat → Nat → Nat} {ad : Nat → Nat} {cy : Nat → ClassId} {sz : Nat} (C : Cx p s m args meth c RX11 cX11_getsOf 4 (some .int) dC dI ad cy sz) {rr : Int32} {ρ : S0} (σ : S0) (x1 : Int32) (x2 : Int32)  (hf : fX11_getsOf σ x1 x2 = some (rr, ρ)) : Gw p l e rm_X11_getsOf s m args below meth c (MQ below (QcI dC dI ad cy sz rr ρ) args s 0 0 (AW ad sz)) dC dI ad cy 4 sz 0 0 0 [(0, .ref (ad 98)), (1, .int x1), (2, .int x2)] [] σ := by
  unfold fX11_getsOf at hf
  refine g_aload_n C dX11_getsOf_0 rfl 0 rfl ?_
  refine g_iload_n C dX11_getsOf_1 rfl 2 rfl ?_
  refine g_iconst (v := 4) C dX11_getsOf_2 (by decide) ?_
  obtain ⟨r1, σ2, h3, hf⟩ := obp_e hf
  refine g_callVi (As := [.int x2, .int 4]) (rest := []) C (a_98 ad cy _) rfl (c_X11_of l dC dI ad cy x2 ((4 : Int32))) h3 hM_X11_172 cal_X11_of ⟨Nat.zero_le _, Nat.zero_le _⟩ ⟨rfl, rfl⟩ ⟨Nat.le_of_ble_eq_true rfl, Nat.le_of_ble_eq_true rfl⟩ rfl rfl (Nat.le_of_ble_eq_true rfl) dX11_getsOf_3 ?_
  refine g_bipush (v := (-4)) C dX11_getsOf_6 (by decide) ?_
  rcases oi_e hf with ⟨c4, hf⟩ | ⟨c4, hf⟩
  · refine g_icmp_eq_t (tgt := 15) C dX11_getsOf_8 (by decide) c4 ?_
    refine g_iconst (v := 0) C dX11_getsOf_15 (by decide) ?_
    exact g_sub [0, 1, 2] rfl (fX11_getsOf_b16_ok C σ2 x1 x2 0 hf)
  · refine g_icmp_eq_f (tgt := 15) C dX11_getsOf_8 (by decide) c4 ?_
    refine g_iconst (v := 1) C dX11_getsOf_11 (by decide) ?_
    refine g_goto (tgt := 16) C dX11_getsOf_12 (by decide) ?_
    exact g_sub [0, 1, 2] rfl (fX11_getsOf_b16_ok C σ2 x1 x2 1 hf)
theorem c_X11_getsOf (l : Launch) (dC : Nat → ClassId) (dI : Nat → Nat → Nat) (ad : Nat → Nat) (cy : Nat → ClassId) (x1 : Int32) (x2 : Int32) : ConI l yX11_getsOf cX11_getsOf 4 (some .int) rm_X11_getsOf dC dI ad cy [.ref (ad 98), .int x1, .int x2] (fun σ => fX11_getsOf σ x1 x2) := con_i (own := RX11) (by decide) rfl (Nat.le_of_ble_eq_true rfl) (fun _ _ _ _ _ _ _ _ σ _ _ C hf => fX11_getsOf_ok C σ x1 x2 hf)
theorem cal_X11_getsOf : CalV yX11_getsOf RX11 cX11_getsOf 4 (some .int) 2 := ⟨hI_X11_getsOf, hS_X11_getsOf, hIni_X11, hC_X11_getsOf, by decide +kernel⟩
abbrev rm_X11_getsNow : Room := { frames := 2, cells := 0, slots := 0, locals := 47 }
def fX11_getsNow_b50 (sf_10 : S0 → Int32 → Int32 → Int32 → Int32 → Option (Int32 × S0)) (σ : S0) (x1 : Int32) (x2 : Int32) (x4 : Int32) (t0 : Int32) (t1 : Int32) : Option (Int32 × S0) := ol (t1 + t0) (fun v1 => ol (x4 + 1) (fun v2 => sf_10 σ x1 x2 v1 v2))
set_option maxHeartbeats 1000000 in
set_option maxRecDepth 100000 in
theorem fX11_getsNow_b50_ok {p : Program} {l : Launch} {e : Env} {s : State} {m : MethodId} {args : Array Value} {below : List Frame} {meth : Method} {c : Code} {dC : Nat → ClassId} {dI : Nat → Nat → Nat} {ad : Nat → Nat} {cy : Nat → ClassId} {sz : Nat} (C : Cx p s m args meth c RX11 cX11_getsNow 5 (some .int) dC dI ad cy sz) {rr : Int32} {ρ : S0} (sf_10 : S0 → Int32 → Int32 → Int32 → Int32 → Option (Int32 × S0)) (hs_10 : ∀ (σ : S0) (x1 : Int32) (x2 : Int32) (x3 : Int32) (x4 : Int32) , sf_10 σ x1 x2 x3 x4 = some (rr, ρ) → Gw p l e rm_X11_getsNow s m args below meth c (MQ below (QcI dC dI ad cy sz rr ρ) args s 0 0 (AW ad sz)) dC dI ad cy 5 sz 0 0 10 [(0, .ref (ad 98)), (1, .int x1), (2, .int x2), (3, .int x3), (4, .int x4)] [] σ) (σ : S0) (x1 : Int32) (x2 : Int32) (x4 : Int32) (t0 : Int32) (t1 : Int32)  (hf : fX11_getsNow_b50 sf_10 σ x1 x2 x4 t0 t1 = some (rr, ρ)) : Gw p l e rm_X11_getsNow s m args below meth c (MQ below (QcI dC dI ad cy sz rr ρ) args s 0 0 (AW ad sz)) dC dI ad cy 5 sz 0 0 50 [(0, .ref (ad 98)), (1, .int x1), (2, .int x2), (4, .int x4)] [.int t0, .int t1] σ := by
  unfold fX11_getsNow_b50 at hf
  refine g_iadd C dX11_getsNow_50 ?_
  obtain ⟨v1, ev1, hf⟩ := ol_e hf
  refine g_nm ev1 ?_
  refine g_istore_n (lv2 := [(0, .ref (ad 98)), (1, .int x1), (2, .int x2), (3, .int v1), (4, .int x4)]) C dX11_getsNow_51 rfl (by decide) [1, 2, 3, 0, 4] rfl ?_
  obtain ⟨v2, ev2, hf⟩ := ol_e hf
  refine g_iinc (j := 4) (w := 1) (lv2 := [(0, .ref (ad 98)), (1, .int x1), (2, .int x2), (3, .int v1), (4, .int v2)]) C dX11_getsNow_52 rfl (by decide) ev2 (by decide) [1, 2, 3, 4, 0] rfl ?_
  refine g_goto (tgt := 10) C dX11_getsNow_55 (by decide) ?_
  exact g_sub [0, 1, 2, 3, 4] rfl (hs_10 σ x1 x2 v1 v2 hf)
def fX11_getsNow_b10 (sf_10 : S0 → Int32 → Int32 → Int32 → Int32 → Option (Int32 × S0)) (σ : S0) (x1 : Int32) (x2 : Int32) (x3 : Int32) (x4 : Int32) : Option (Int32 × S0) := obp (fX11_strokes σ x2) (fun r1 σ2 => if r1 ≤ x4 then (some (x3, σ2)) else (if ¬ (((σ2 98 26) >>> (x4 &&& 31)) &&& 1) = 1 then (obp (fX11_stroke σ2 x2 x4) (fun r6 σ7 => obp (fX11_getsOf σ7 x1 r6) (fun r9 σ10 => fX11_getsNow_b50 sf_10 σ10 x1 x2 x4 r9 x3))) else (fX11_getsNow_b50 sf_10 σ2 x1 x2 x4 0 x3)))
set_option maxHeartbeats 1000000 in
set_option maxRecDepth 100000 in
theorem fX11_getsNow_b10_ok {p : Program} {l : Launch} {e : Env} {s : State} {m : MethodId} {args : Array Value} {below : List Frame} {meth : Method} {c : Code} {dC : Nat → ClassId} {dI : Nat → Nat → Nat} {ad : Nat → Nat} {cy : Nat → ClassId} {sz : Nat} (C : Cx p s m args meth c RX11 cX11_getsNow 5 (some .int) dC dI ad cy sz) {rr : Int32} {ρ : S0} (sf_10 : S0 → Int32 → Int32 → Int32 → Int32 → Option (Int32 × S0)) (hs_10 : ∀ (σ : S0) (x1 : Int32) (x2 : Int32) (x3 : Int32) (x4 : Int32) , sf_10 σ x1 x2 x3 x4 = some (rr, ρ) → Gw p l e rm_X11_getsNow s m args below meth c (MQ below (QcI dC dI ad cy sz rr ρ) args s 0 0 (AW ad sz)) dC dI ad cy 5 sz 0 0 10 [(0, .ref (ad 98)), (1, .int x1), (2, .int x2), (3, .int x3), (4, .int x4)] [] σ) (σ : S0) (x1 : Int32) (x2 : Int32) (x3 : Int32) (x4 : Int32)  (hf : fX11_getsNow_b10 sf_10 σ x1 x2 x3 x4 = some (rr, ρ)) : Gw p l e rm_X11_getsNow s m args below meth c (MQ below (QcI dC dI ad cy sz rr ρ) args s 0 0 (AW ad sz)) dC dI ad cy 5 sz 0 0 10 [(0, .ref (ad 98)), (1, .int x1), (2, .int x2), (3, .int x3), (4, .int x4)] [] σ := by
  unfold fX11_getsNow_b10 at hf
  refine g_iload C dX11_getsNow_10 4 rfl ?_
  refine g_aload_n C dX11_getsNow_12 rfl 0 rfl ?_
  refine g_iload_n C dX11_getsNow_13 rfl 2 rfl ?_
  obtain ⟨r1, σ2, h3, hf⟩ := obp_e hf
  refine g_callVi (As := [.int x2]) (rest := [.int x4]) C (a_98 ad cy _) rfl (c_X11_strokes l dC dI ad cy x2) h3 hM_X11_180 cal_X11_strokes ⟨Nat.zero_le _, Nat.zero_le _⟩ ⟨rfl, rfl⟩ ⟨Nat.le_of_ble_eq_true rfl, Nat.le_of_ble_eq_true rfl⟩ rfl rfl (Nat.le_of_ble_eq_true rfl) dX11_getsNow_14 ?_
  rcases oi_e hf with ⟨c4, hf⟩ | ⟨c4, hf⟩
  · refine g_icmp_ge_t (tgt := 58) C dX11_getsNow_17 (by decide) c4 ?_
    refine g_iload_n C dX11_getsNow_58 rfl 3 rfl ?_
    obtain ⟨rfl, rfl⟩ := os_e hf
    exact g_iret C rfl dX11_getsNow_59
  · refine g_icmp_ge_f (tgt := 58) C dX11_getsNow_17 (by decide) c4 ?_
    refine g_iload_n C dX11_getsNow_20 rfl 3 rfl ?_
    refine g_aload_n C dX11_getsNow_21 rfl 0 rfl ?_
    refine g_get C (a_98 ad cy _) rfl hin_X11 26 (by decide) hF_X11_210 rfl rfl dX11_getsNow_22 ?_
    refine g_iload C dX11_getsNow_25 4 rfl ?_
    refine g_ishr C dX11_getsNow_27 ?_
    refine g_iconst (v := 1) C dX11_getsNow_28 (by decide) ?_
    refine g_iand C dX11_getsNow_29 ?_
    refine g_iconst (v := 1) C dX11_getsNow_30 (by decide) ?_
    rcases oi_e hf with ⟨c5, hf⟩ | ⟨c5, hf⟩
    · refine g_icmp_ne_t (tgt := 38) C dX11_getsNow_31 (by decide) c5 ?_
      refine g_aload_n C dX11_getsNow_38 rfl 0 rfl ?_
      refine g_iload_n C dX11_getsNow_39 rfl 1 rfl ?_
      refine g_aload_n C dX11_getsNow_40 rfl 0 rfl ?_
      refine g_iload_n C dX11_getsNow_41 rfl 2 rfl ?_
      refine g_iload C dX11_getsNow_42 4 rfl ?_
      obtain ⟨r6, σ7, h8, hf⟩ := obp_e hf
      refine g_callVi (As := [.int x2, .int x4]) (rest := [.int x1, .ref (ad 98), .int x3]) C (a_98 ad cy _) rfl (c_X11_stroke l dC dI ad cy x2 x4) h8 hM_X11_183 cal_X11_stroke ⟨Nat.zero_le _, Nat.zero_le _⟩ ⟨rfl, rfl⟩ ⟨Nat.le_of_ble_eq_true rfl, Nat.le_of_ble_eq_true rfl⟩ rfl rfl (Nat.le_of_ble_eq_true rfl) dX11_getsNow_44 ?_
      obtain ⟨r9, σ10, h11, hf⟩ := obp_e hf
      refine g_callVi (As := [.int x1, .int r6]) (rest := [.int x3]) C (a_98 ad cy _) rfl (c_X11_getsOf l dC dI ad cy x1 r6) h11 hM_X11_226 cal_X11_getsOf ⟨Nat.zero_le _, Nat.zero_le _⟩ ⟨rfl, rfl⟩ ⟨Nat.le_of_ble_eq_true rfl, Nat.le_of_ble_eq_true rfl⟩ rfl rfl (Nat.le_of_ble_eq_true rfl) dX11_getsNow_47 ?_
      exact g_sub [0, 1, 2, 4] rfl (fX11_getsNow_b50_ok C sf_10 hs_10 σ10 x1 x2 x4 r9 x3 hf)
    · refine g_icmp_ne_f (tgt := 38) C dX11_getsNow_31 (by decide) (Decidable.of_not_not c5) ?_
      refine g_iconst (v := 0) C dX11_getsNow_34 (by decide) ?_
      refine g_goto (tgt := 50) C dX11_getsNow_35 (by decide) ?_
      exact g_sub [0, 1, 2, 4] rfl (fX11_getsNow_b50_ok C sf_10 hs_10 σ2 x1 x2 x4 0 x3 hf)
def fX11_getsNow_h10  : Nat → S0 → Int32 → Int32 → Int32 → Int32 → Option (Int32 × S0)
  | 0 => fun _ _ _ _ _ => none
  | n + 1 => fun σ x1 x2 x3 x4 => fX11_getsNow_b10  (fX11_getsNow_h10  n) σ x1 x2 x3 x4
set_option maxHeartbeats 1000000 in
set_option maxRecDepth 100000 in
theorem fX11_getsNow_h10_ok {p : Program} {l : Launch} {e : Env} {s : State} {m : MethodId} {args : Array Value} {below : List Frame} {meth : Method} {c : Code} {dC : Nat → ClassId} {dI : Nat → Nat → Nat} {ad : Nat → Nat} {cy : Nat → ClassId} {sz : Nat} (C : Cx p s m args meth c RX11 cX11_getsNow 5 (some .int) dC dI ad cy sz) {rr : Int32} {ρ : S0}  : ∀ (n : Nat) (σ : S0) (x1 : Int32) (x2 : Int32) (x3 : Int32) (x4 : Int32)  (_hf : fX11_getsNow_h10  n σ x1 x2 x3 x4 = some (rr, ρ)), Gw p l e rm_X11_getsNow s m args below meth c (MQ below (QcI dC dI ad cy sz rr ρ) args s 0 0 (AW ad sz)) dC dI ad cy 5 sz 0 0 10 [(0, .ref (ad 98)), (1, .int x1), (2, .int x2), (3, .int x3), (4, .int x4)] [] σ
  | 0, _, _, _, _, _, hf => by cases hf
  | n + 1, σ, x1, x2, x3, x4, hf => fX11_getsNow_b10_ok C  (fX11_getsNow_h10  n) (fX11_getsNow_h10_ok C  n) σ x1 x2 x3 x4 hf
def fX11_getsNow (σ : S0) (x1 : Int32) (x2 : Int32) : Option (Int32 × S0) := obp (fX11_rings σ x2) (fun r1 σ2 => fX11_getsNow_h10 400 σ2 x1 x2 0 0)
set_option maxHeartbeats 1000000 in
set_option maxRecDepth 100000 in
theorem fX11_getsNow_ok {p : Program} {l : Launch} {e : Env} {s : State} {m : MethodId} {args : Array Value} {below : List Frame} {meth : Method} {c : Code} {dC : Nat → ClassId} {dI : Nat → Nat → Nat} {ad : Nat → Nat} {cy : Nat → ClassId} {sz : Nat} (C : Cx p s m args meth c RX11 cX11_getsNow 5 (some .int) dC dI ad cy sz) {rr : Int32} {ρ : S0} (σ : S0) (x1 : Int32) (x2 : Int32)  (hf : fX11_getsNow σ x1 x2 = some (rr, ρ)) : Gw p l e rm_X11_getsNow s m args below meth c (MQ below (QcI dC dI ad cy sz rr ρ) args s 0 0 (AW ad sz)) dC dI ad cy 5 sz 0 0 0 [(0, .ref (ad 98)), (1, .int x1), (2, .int x2)] [] σ := by
  unfold fX11_getsNow at hf
  refine g_aload_n C dX11_getsNow_0 rfl 0 rfl ?_
  refine g_iload_n C dX11_getsNow_1 rfl 2 rfl ?_
  obtain ⟨r1, σ2, h3, hf⟩ := obp_e hf
  refine g_callVv (As := [.int x2]) (rest := []) C (a_98 ad cy _) rfl (c_X11_rings l dC dI ad cy x2) h3 hM_X11_216 cal_X11_rings ⟨Nat.zero_le _, Nat.zero_le _⟩ ⟨rfl, rfl⟩ ⟨Nat.le_of_ble_eq_true rfl, Nat.le_of_ble_eq_true rfl⟩ rfl rfl (Nat.le_of_ble_eq_true rfl) dX11_getsNow_2 ?_
  refine g_iconst (v := 0) C dX11_getsNow_5 (by decide) ?_
  refine g_istore_n (lv2 := [(0, .ref (ad 98)), (1, .int x1), (2, .int x2), (3, .int 0)]) C dX11_getsNow_6 rfl (by decide) [1, 2, 3, 0] rfl ?_
  refine g_iconst (v := 0) C dX11_getsNow_7 (by decide) ?_
  refine g_istore (lv2 := [(0, .ref (ad 98)), (1, .int x1), (2, .int x2), (3, .int 0), (4, .int 0)]) C dX11_getsNow_8 (by decide) [1, 2, 3, 4, 0] rfl ?_
  exact g_sub [0, 1, 2, 3, 4] rfl (fX11_getsNow_h10_ok C 400 σ2 x1 x2 0 0 hf)
theorem c_X11_getsNow (l : Launch) (dC : Nat → ClassId) (dI : Nat → Nat → Nat) (ad : Nat → Nat) (cy : Nat → ClassId) (x1 : Int32) (x2 : Int32) : ConI l yX11_getsNow cX11_getsNow 5 (some .int) rm_X11_getsNow dC dI ad cy [.ref (ad 98), .int x1, .int x2] (fun σ => fX11_getsNow σ x1 x2) := con_i (own := RX11) (by decide) rfl (Nat.le_of_ble_eq_true rfl) (fun _ _ _ _ _ _ _ _ σ _ _ C hf => fX11_getsNow_ok C σ x1 x2 hf)
theorem cal_X11_getsNow : CalV yX11_getsNow RX11 cX11_getsNow 5 (some .int) 2 := ⟨hI_X11_getsNow, hS_X11_getsNow, hIni_X11, hC_X11_getsNow, by decide +kernel⟩
abbrev rm_X11_gets : Room := { frames := 3, cells := 0, slots := 0, locals := 71 }
def fX11_gets (σ : S0) (x1 : Int32) (x2 : Int32) : Option (Int32 × S0) := obp (fX11_isHouse σ x1) (fun r1 σ2 => if r1 = 0 then (some ((-1), σ2)) else (obp (fX11_isTune σ2 x2) (fun r5 σ6 => if r5 = 0 then (some ((-1), σ6)) else (obp (fX11_getsNow σ6 x1 x2) (fun r9 σ10 => some (r9, σ10))))))
set_option maxHeartbeats 1000000 in
set_option maxRecDepth 100000 in
theorem fX11_gets_ok {p : Program} {l : Launch} {e : Env} {s : State} {m : MethodId} {args : Array Value} {below : List Frame} {meth : Method} {c : Code} {dC : Nat → ClassId} {dI : Nat → Nat → Nat} {ad : Nat → Nat} {cy : Nat → ClassId} {sz : Nat} (C : Cx p s m args meth c RX11 cX11_gets 3 (some .int) dC dI ad cy sz) {rr : Int32} {ρ : S0} (σ : S0) (x1 : Int32) (x2 : Int32)  (hf : fX11_gets σ x1 x2 = some (rr, ρ)) : Gw p l e rm_X11_gets s m args below meth c (MQ below (QcI dC dI ad cy sz rr ρ) args s 0 0 (AW ad sz)) dC dI ad cy 3 sz 0 0 0 [(0, .ref (ad 98)), (1, .int x1), (2, .int x2)] [] σ := by
  unfold fX11_gets at hf
  refine g_aload_n C dX11_gets_0 rfl 0 rfl ?_
  refine g_iload_n C dX11_gets_1 rfl 1 rfl ?_
  obtain ⟨r1, σ2, h3, hf⟩ := obp_e hf
  refine g_callVi (As := [.int x1]) (rest := []) C (a_98 ad cy _) rfl (c_X11_isHouse l dC dI ad cy x1) h3 hM_X11_186 cal_X11_isHouse ⟨Nat.zero_le _, Nat.zero_le _⟩ ⟨rfl, rfl⟩ ⟨Nat.le_of_ble_eq_true rfl, Nat.le_of_ble_eq_true rfl⟩ rfl rfl (Nat.le_of_ble_eq_true rfl) dX11_gets_2 ?_
  rcases oi_e hf with ⟨c4, hf⟩ | ⟨c4, hf⟩
  · refine g_if_eq_t (tgt := 25) C dX11_gets_5 (by decide) c4 ?_
    refine g_iconst (v := (-1)) C dX11_gets_25 (by decide) ?_
    obtain ⟨rfl, rfl⟩ := os_e hf
    exact g_iret C rfl dX11_gets_26
  · refine g_if_eq_f (tgt := 25) C dX11_gets_5 (by decide) c4 ?_
    refine g_aload_n C dX11_gets_8 rfl 0 rfl ?_
    refine g_iload_n C dX11_gets_9 rfl 2 rfl ?_
    obtain ⟨r5, σ6, h7, hf⟩ := obp_e hf
    refine g_callVi (As := [.int x2]) (rest := []) C (a_98 ad cy _) rfl (c_X11_isTune l dC dI ad cy x2) h7 hM_X11_175 cal_X11_isTune ⟨Nat.zero_le _, Nat.zero_le _⟩ ⟨rfl, rfl⟩ ⟨Nat.le_of_ble_eq_true rfl, Nat.le_of_ble_eq_true rfl⟩ rfl rfl (Nat.le_of_ble_eq_true rfl) dX11_gets_10 ?_
    rcases oi_e hf with ⟨c8, hf⟩ | ⟨c8, hf⟩
    · refine g_if_eq_t (tgt := 25) C dX11_gets_13 (by decide) c8 ?_
      refine g_iconst (v := (-1)) C dX11_gets_25 (by decide) ?_
      obtain ⟨rfl, rfl⟩ := os_e hf
      exact g_iret C rfl dX11_gets_26
    · refine g_if_eq_f (tgt := 25) C dX11_gets_13 (by decide) c8 ?_
      refine g_aload_n C dX11_gets_16 rfl 0 rfl ?_
      refine g_iload_n C dX11_gets_17 rfl 1 rfl ?_
      refine g_iload_n C dX11_gets_18 rfl 2 rfl ?_
      obtain ⟨r9, σ10, h11, hf⟩ := obp_e hf
      refine g_callVi (As := [.int x1, .int x2]) (rest := []) C (a_98 ad cy _) rfl (c_X11_getsNow l dC dI ad cy x1 x2) h11 hM_X11_229 cal_X11_getsNow ⟨Nat.zero_le _, Nat.zero_le _⟩ ⟨rfl, rfl⟩ ⟨Nat.le_of_ble_eq_true rfl, Nat.le_of_ble_eq_true rfl⟩ rfl rfl (Nat.le_of_ble_eq_true rfl) dX11_gets_19 ?_
      refine g_goto (tgt := 26) C dX11_gets_22 (by decide) ?_
      obtain ⟨rfl, rfl⟩ := os_e hf
      exact g_iret C rfl dX11_gets_26
theorem c_X11_gets (l : Launch) (dC : Nat → ClassId) (dI : Nat → Nat → Nat) (ad : Nat → Nat) (cy : Nat → ClassId) (x1 : Int32) (x2 : Int32) : ConI l yX11_gets cX11_gets 3 (some .int) rm_X11_gets dC dI ad cy [.ref (ad 98), .int x1, .int x2] (fun σ => fX11_gets σ x1 x2) := con_i (own := RX11) (by decide) rfl (Nat.le_of_ble_eq_true rfl) (fun _ _ _ _ _ _ _ _ σ _ _ C hf => fX11_gets_ok C σ x1 x2 hf)
theorem cal_X11_gets : CalV yX11_gets RX11 cX11_gets 3 (some .int) 2 := ⟨hI_X11_gets, hS_X11_gets, hIni_X11, hC_X11_gets, by decide +kernel⟩
abbrev rm_X11_wageOf : Room := { frames := 4, cells := 0, slots := 0, locals := 92 }
def fX11_wageOf (σ : S0) (x1 : Int32) : Option (Int32 × S0) := obp (fX11_takenNow σ) (fun r1 σ2 => if ¬ r1 = ((-4)) then (obp (fX11_getsNow σ2 x1 r1) (fun r5 σ6 => some (r5, σ6))) else (some (0, σ2)))
set_option maxHeartbeats 1000000 in
set_option maxRecDepth 100000 in
theorem fX11_wageOf_ok {p : Program} {l : Launch} {e : Env} {s : State} {m : MethodId} {args : Array Value} {below : List Frame} {meth : Method} {c : Code} {dC : Nat → ClassId} {dI : Nat → Nat → Nat} {ad : Nat → Nat} {cy : Nat → ClassId} {sz : Nat} (C : Cx p s m args meth c RX11 cX11_wageOf 3 (some .int) dC dI ad cy sz) {rr : Int32} {ρ : S0} (σ : S0) (x1 : Int32)  (hf : fX11_wageOf σ x1 = some (rr, ρ)) : Gw p l e rm_X11_wageOf s m args below meth c (MQ below (QcI dC dI ad cy sz rr ρ) args s 0 0 (AW ad sz)) dC dI ad cy 3 sz 0 0 0 [(0, .ref (ad 98)), (1, .int x1)] [] σ := by
  unfold fX11_wageOf at hf
  refine g_aload_n C dX11_wageOf_0 rfl 0 rfl ?_
  obtain ⟨r1, σ2, h3, hf⟩ := obp_e hf
  refine g_callVi (As := []) (rest := []) C (a_98 ad cy _) rfl (c_X11_takenNow l dC dI ad cy ) h3 hM_X11_223 cal_X11_takenNow ⟨Nat.zero_le _, Nat.zero_le _⟩ ⟨rfl, rfl⟩ ⟨Nat.le_of_ble_eq_true rfl, Nat.le_of_ble_eq_true rfl⟩ rfl rfl (Nat.le_of_ble_eq_true rfl) dX11_wageOf_1 ?_
  refine g_istore_n (lv2 := [(0, .ref (ad 98)), (1, .int x1), (2, .int r1)]) C dX11_wageOf_4 rfl (by decide) [1, 2, 0] rfl ?_
  refine g_iload_n C dX11_wageOf_5 rfl 2 rfl ?_
  refine g_bipush (v := (-4)) C dX11_wageOf_6 (by decide) ?_
  rcases oi_e hf with ⟨c4, hf⟩ | ⟨c4, hf⟩
  · refine g_icmp_ne_t (tgt := 15) C dX11_wageOf_8 (by decide) c4 ?_
    refine g_aload_n C dX11_wageOf_15 rfl 0 rfl ?_
    refine g_iload_n C dX11_wageOf_16 rfl 1 rfl ?_
    refine g_iload_n C dX11_wageOf_17 rfl 2 rfl ?_
    obtain ⟨r5, σ6, h7, hf⟩ := obp_e hf
    refine g_callVi (As := [.int x1, .int r1]) (rest := []) C (a_98 ad cy _) rfl (c_X11_getsNow l dC dI ad cy x1 r1) h7 hM_X11_229 cal_X11_getsNow ⟨Nat.zero_le _, Nat.zero_le _⟩ ⟨rfl, rfl⟩ ⟨Nat.le_of_ble_eq_true rfl, Nat.le_of_ble_eq_true rfl⟩ rfl rfl (Nat.le_of_ble_eq_true rfl) dX11_wageOf_18 ?_
    obtain ⟨rfl, rfl⟩ := os_e hf
    exact g_iret C rfl dX11_wageOf_21
  · refine g_icmp_ne_f (tgt := 15) C dX11_wageOf_8 (by decide) (Decidable.of_not_not c4) ?_
    refine g_iconst (v := 0) C dX11_wageOf_11 (by decide) ?_
    refine g_goto (tgt := 21) C dX11_wageOf_12 (by decide) ?_
    obtain ⟨rfl, rfl⟩ := os_e hf
    exact g_iret C rfl dX11_wageOf_21
theorem c_X11_wageOf (l : Launch) (dC : Nat → ClassId) (dI : Nat → Nat → Nat) (ad : Nat → Nat) (cy : Nat → ClassId) (x1 : Int32) : ConI l yX11_wageOf cX11_wageOf 3 (some .int) rm_X11_wageOf dC dI ad cy [.ref (ad 98), .int x1] (fun σ => fX11_wageOf σ x1) := con_i (own := RX11) (by decide) rfl (Nat.le_of_ble_eq_true rfl) (fun _ _ _ _ _ _ _ _ σ _ _ C hf => fX11_wageOf_ok C σ x1 hf)
theorem cal_X11_wageOf : CalV yX11_wageOf RX11 cX11_wageOf 3 (some .int) 1 := ⟨hI_X11_wageOf, hS_X11_wageOf, hIni_X11, hC_X11_wageOf, by decide +kernel⟩
abbrev rm_X11_wage : Room := { frames := 5, cells := 0, slots := 0, locals := 114 }
def fX11_wage (σ : S0) (x1 : Int32) : Option (Int32 × S0) := obp (fX11_isHouse σ x1) (fun r1 σ2 => if r1 = 0 then (some ((-1), σ2)) else (obp (fX11_wageOf σ2 x1) (fun r5 σ6 => some (r5, σ6))))
set_option maxHeartbeats 1000000 in
set_option maxRecDepth 100000 in
theorem fX11_wage_ok {p : Program} {l : Launch} {e : Env} {s : State} {m : MethodId} {args : Array Value} {below : List Frame} {meth : Method} {c : Code} {dC : Nat → ClassId} {dI : Nat → Nat → Nat} {ad : Nat → Nat} {cy : Nat → ClassId} {sz : Nat} (C : Cx p s m args meth c RX11 cX11_wage 2 (some .int) dC dI ad cy sz) {rr : Int32} {ρ : S0} (σ : S0) (x1 : Int32)  (hf : fX11_wage σ x1 = some (rr, ρ)) : Gw p l e rm_X11_wage s m args below meth c (MQ below (QcI dC dI ad cy sz rr ρ) args s 0 0 (AW ad sz)) dC dI ad cy 2 sz 0 0 0 [(0, .ref (ad 98)), (1, .int x1)] [] σ := by
  unfold fX11_wage at hf
  refine g_aload_n C dX11_wage_0 rfl 0 rfl ?_
  refine g_iload_n C dX11_wage_1 rfl 1 rfl ?_
  obtain ⟨r1, σ2, h3, hf⟩ := obp_e hf
  refine g_callVi (As := [.int x1]) (rest := []) C (a_98 ad cy _) rfl (c_X11_isHouse l dC dI ad cy x1) h3 hM_X11_186 cal_X11_isHouse ⟨Nat.zero_le _, Nat.zero_le _⟩ ⟨rfl, rfl⟩ ⟨Nat.le_of_ble_eq_true rfl, Nat.le_of_ble_eq_true rfl⟩ rfl rfl (Nat.le_of_ble_eq_true rfl) dX11_wage_2 ?_
  rcases oi_e hf with ⟨c4, hf⟩ | ⟨c4, hf⟩
  · refine g_if_eq_t (tgt := 16) C dX11_wage_5 (by decide) c4 ?_
    refine g_iconst (v := (-1)) C dX11_wage_16 (by decide) ?_
    obtain ⟨rfl, rfl⟩ := os_e hf
    exact g_iret C rfl dX11_wage_17
  · refine g_if_eq_f (tgt := 16) C dX11_wage_5 (by decide) c4 ?_
    refine g_aload_n C dX11_wage_8 rfl 0 rfl ?_
    refine g_iload_n C dX11_wage_9 rfl 1 rfl ?_
    obtain ⟨r5, σ6, h7, hf⟩ := obp_e hf
    refine g_callVi (As := [.int x1]) (rest := []) C (a_98 ad cy _) rfl (c_X11_wageOf l dC dI ad cy x1) h7 hM_X11_232 cal_X11_wageOf ⟨Nat.zero_le _, Nat.zero_le _⟩ ⟨rfl, rfl⟩ ⟨Nat.le_of_ble_eq_true rfl, Nat.le_of_ble_eq_true rfl⟩ rfl rfl (Nat.le_of_ble_eq_true rfl) dX11_wage_10 ?_
    refine g_goto (tgt := 17) C dX11_wage_13 (by decide) ?_
    obtain ⟨rfl, rfl⟩ := os_e hf
    exact g_iret C rfl dX11_wage_17
theorem c_X11_wage (l : Launch) (dC : Nat → ClassId) (dI : Nat → Nat → Nat) (ad : Nat → Nat) (cy : Nat → ClassId) (x1 : Int32) : ConI l yX11_wage cX11_wage 2 (some .int) rm_X11_wage dC dI ad cy [.ref (ad 98), .int x1] (fun σ => fX11_wage σ x1) := con_i (own := RX11) (by decide) rfl (Nat.le_of_ble_eq_true rfl) (fun _ _ _ _ _ _ _ _ σ _ _ C hf => fX11_wage_ok C σ x1 hf)
theorem cal_X11_wage : CalV yX11_wage RX11 cX11_wage 2 (some .int) 1 := ⟨hI_X11_wage, hS_X11_wage, hIni_X11, hC_X11_wage, by decide +kernel⟩
abbrev rm_X11_asks : Room := { frames := 1, cells := 0, slots := 0, locals := 22 }
def fX11_asks_b39 (sf_2 : S0 → Int32 → Int32 → Int32 → Option (Int32 × S0)) (σ : S0) (x1 : Int32) (x2 : Int32) (x3 : Int32) (t0 : Int32) (t1 : Int32) : Option (Int32 × S0) := og (¬ (t1 < 0 ∨ 240 ≤ t1.toNatClampNeg)) (ol (su σ 99 t1.toNatClampNeg t0) (fun σ2 => ol (x3 + 1) (fun v3 => sf_2 σ2 x1 x2 v3)))
set_option maxHeartbeats 1000000 in
set_option maxRecDepth 100000 in
theorem fX11_asks_b39_ok {p : Program} {l : Launch} {e : Env} {s : State} {m : MethodId} {args : Array Value} {below : List Frame} {meth : Method} {c : Code} {dC : Nat → ClassId} {dI : Nat → Nat → Nat} {ad : Nat → Nat} {cy : Nat → ClassId} {sz : Nat} (C : Cx p s m args meth c RX11 cX11_asks 4 none dC dI ad cy sz) {rr : Int32} {ρ : S0} (sf_2 : S0 → Int32 → Int32 → Int32 → Option (Int32 × S0)) (hs_2 : ∀ (σ : S0) (x1 : Int32) (x2 : Int32) (x3 : Int32) , sf_2 σ x1 x2 x3 = some (rr, ρ) → Gw p l e rm_X11_asks s m args below meth c (MQ below (QcV dC dI ad cy sz ρ) args s 0 0 (AW ad sz)) dC dI ad cy 4 sz 0 0 2 [(0, .ref (ad 98)), (1, .int x1), (2, .int x2), (3, .int x3)] [] σ) (σ : S0) (x1 : Int32) (x2 : Int32) (x3 : Int32) (t0 : Int32) (t1 : Int32)  (hf : fX11_asks_b39 sf_2 σ x1 x2 x3 t0 t1 = some (rr, ρ)) : Gw p l e rm_X11_asks s m args below meth c (MQ below (QcV dC dI ad cy sz ρ) args s 0 0 (AW ad sz)) dC dI ad cy 4 sz 0 0 39 [(0, .ref (ad 98)), (1, .int x1), (2, .int x2), (3, .int x3)] [.int t0, .int t1, .ref (ad 99)] σ := by
  unfold fX11_asks_b39 at hf
  obtain ⟨h1, hf⟩ := og_e hf
  obtain ⟨σ2, eσ2, hf⟩ := ol_e hf
  refine g_iast C (a_99 ad cy _) h1 (w_99 ad cy _) eσ2 dX11_asks_39 ?_
  obtain ⟨v3, ev3, hf⟩ := ol_e hf
  refine g_iinc (j := 3) (w := 1) (lv2 := [(0, .ref (ad 98)), (1, .int x1), (2, .int x2), (3, .int v3)]) C dX11_asks_40 rfl (by decide) ev3 (by decide) [1, 2, 3, 0] rfl ?_
  refine g_goto (tgt := 2) C dX11_asks_43 (by decide) ?_
  exact g_sub [0, 1, 2, 3] rfl (hs_2 σ2 x1 x2 v3 hf)
def fX11_asks_b2 (sf_2 : S0 → Int32 → Int32 → Int32 → Option (Int32 × S0)) (σ : S0) (x1 : Int32) (x2 : Int32) (x3 : Int32) : Option (Int32 × S0) := if (σ 98 4) ≤ x3 then (some (0, σ)) else (obp (fX11_of σ x3 ((0 : Int32))) (fun r2 σ3 => if ¬ r2 = x1 then (obp (fX11_of σ3 x3 ((1 : Int32))) (fun r6 σ7 => fX11_asks_b39 sf_2 σ7 x1 x2 x3 r6 ((5 * x3) + 1))) else (fX11_asks_b39 sf_2 σ3 x1 x2 x3 x2 ((5 * x3) + 1))))
set_option maxHeartbeats 1000000 in
set_option maxRecDepth 100000 in
theorem fX11_asks_b2_ok {p : Program} {l : Launch} {e : Env} {s : State} {m : MethodId} {args : Array Value} {below : List Frame} {meth : Method} {c : Code} {dC : Nat → ClassId} {dI : Nat → Nat → Nat} {ad : Nat → Nat} {cy : Nat → ClassId} {sz : Nat} (C : Cx p s m args meth c RX11 cX11_asks 4 none dC dI ad cy sz) {rr : Int32} {ρ : S0} (sf_2 : S0 → Int32 → Int32 → Int32 → Option (Int32 × S0)) (hs_2 : ∀ (σ : S0) (x1 : Int32) (x2 : Int32) (x3 : Int32) , sf_2 σ x1 x2 x3 = some (rr, ρ) → Gw p l e rm_X11_asks s m args below meth c (MQ below (QcV dC dI ad cy sz ρ) args s 0 0 (AW ad sz)) dC dI ad cy 4 sz 0 0 2 [(0, .ref (ad 98)), (1, .int x1), (2, .int x2), (3, .int x3)] [] σ) (σ : S0) (x1 : Int32) (x2 : Int32) (x3 : Int32)  (hf : fX11_asks_b2 sf_2 σ x1 x2 x3 = some (rr, ρ)) : Gw p l e rm_X11_asks s m args below meth c (MQ below (QcV dC dI ad cy sz ρ) args s 0 0 (AW ad sz)) dC dI ad cy 4 sz 0 0 2 [(0, .ref (ad 98)), (1, .int x1), (2, .int x2), (3, .int x3)] [] σ := by
  unfold fX11_asks_b2 at hf
  refine g_iload_n C dX11_asks_2 rfl 3 rfl ?_
  refine g_aload_n C dX11_asks_3 rfl 0 rfl ?_
  refine g_get C (a_98 ad cy _) rfl hin_X11 4 (by decide) hF_X11_81 rfl rfl dX11_asks_4 ?_
  rcases oi_e hf with ⟨c1, hf⟩ | ⟨c1, hf⟩
  · refine g_icmp_ge_t (tgt := 46) C dX11_asks_7 (by decide) c1 ?_
    obtain ⟨rfl, rfl⟩ := os_e hf
    exact g_vret C rfl dX11_asks_46
  · refine g_icmp_ge_f (tgt := 46) C dX11_asks_7 (by decide) c1 ?_
    refine g_aload_n C dX11_asks_10 rfl 0 rfl ?_
    refine g_get C (a_98 ad cy _) rfl hin_X11 0 (by decide) hF_X11_7 rfl rfl dX11_asks_11 ?_
    refine g_iconst (v := 5) C dX11_asks_14 (by decide) ?_
    refine g_iload_n C dX11_asks_15 rfl 3 rfl ?_
    refine g_imul C dX11_asks_16 ?_
    refine g_iconst (v := 1) C dX11_asks_17 (by decide) ?_
    refine g_iadd C dX11_asks_18 ?_
    refine g_aload_n C dX11_asks_19 rfl 0 rfl ?_
    refine g_iload_n C dX11_asks_20 rfl 3 rfl ?_
    refine g_iconst (v := 0) C dX11_asks_21 (by decide) ?_
    obtain ⟨r2, σ3, h4, hf⟩ := obp_e hf
    refine g_callVi (As := [.int x3, .int 0]) (rest := [.int ((5 * x3) + 1), .ref (ad 99)]) C (a_98 ad cy _) rfl (c_X11_of l dC dI ad cy x3 ((0 : Int32))) h4 hM_X11_172 cal_X11_of ⟨Nat.zero_le _, Nat.zero_le _⟩ ⟨rfl, rfl⟩ ⟨Nat.le_of_ble_eq_true rfl, Nat.le_of_ble_eq_true rfl⟩ rfl rfl (Nat.le_of_ble_eq_true rfl) dX11_asks_22 ?_
    refine g_iload_n C dX11_asks_25 rfl 1 rfl ?_
    rcases oi_e hf with ⟨c5, hf⟩ | ⟨c5, hf⟩
    · refine g_icmp_ne_t (tgt := 33) C dX11_asks_26 (by decide) c5 ?_
      refine g_aload_n C dX11_asks_33 rfl 0 rfl ?_
      refine g_iload_n C dX11_asks_34 rfl 3 rfl ?_
      refine g_iconst (v := 1) C dX11_asks_35 (by decide) ?_
      obtain ⟨r6, σ7, h8, hf⟩ := obp_e hf
      refine g_callVi (As := [.int x3, .int 1]) (rest := [.int ((5 * x3) + 1), .ref (ad 99)]) C (a_98 ad cy _) rfl (c_X11_of l dC dI ad cy x3 ((1 : Int32))) h8 hM_X11_172 cal_X11_of ⟨Nat.zero_le _, Nat.zero_le _⟩ ⟨rfl, rfl⟩ ⟨Nat.le_of_ble_eq_true rfl, Nat.le_of_ble_eq_true rfl⟩ rfl rfl (Nat.le_of_ble_eq_true rfl) dX11_asks_36 ?_
      exact g_sub [0, 1, 2, 3] rfl (fX11_asks_b39_ok C sf_2 hs_2 σ7 x1 x2 x3 r6 ((5 * x3) + 1) hf)
    · refine g_icmp_ne_f (tgt := 33) C dX11_asks_26 (by decide) (Decidable.of_not_not c5) ?_
      refine g_iload_n C dX11_asks_29 rfl 2 rfl ?_
      refine g_goto (tgt := 39) C dX11_asks_30 (by decide) ?_
      exact g_sub [0, 1, 2, 3] rfl (fX11_asks_b39_ok C sf_2 hs_2 σ3 x1 x2 x3 x2 ((5 * x3) + 1) hf)
def fX11_asks_h2  : Nat → S0 → Int32 → Int32 → Int32 → Option (Int32 × S0)
  | 0 => fun _ _ _ _ => none
  | n + 1 => fun σ x1 x2 x3 => fX11_asks_b2  (fX11_asks_h2  n) σ x1 x2 x3
set_option maxHeartbeats 1000000 in
set_option maxRecDepth 100000 in
theorem fX11_asks_h2_ok {p : Program} {l : Launch} {e : Env} {s : State} {m : MethodId} {args : Array Value} {below : List Frame} {meth : Method} {c : Code} {dC : Nat → ClassId} {dI : Nat → Nat → Nat} {ad : Nat → Nat} {cy : Nat → ClassId} {sz : Nat} (C : Cx p s m args meth c RX11 cX11_asks 4 none dC dI ad cy sz) {rr : Int32} {ρ : S0}  : ∀ (n : Nat) (σ : S0) (x1 : Int32) (x2 : Int32) (x3 : Int32)  (_hf : fX11_asks_h2  n σ x1 x2 x3 = some (rr, ρ)), Gw p l e rm_X11_asks s m args below meth c (MQ below (QcV dC dI ad cy sz ρ) args s 0 0 (AW ad sz)) dC dI ad cy 4 sz 0 0 2 [(0, .ref (ad 98)), (1, .int x1), (2, .int x2), (3, .int x3)] [] σ
  | 0, _, _, _, _, hf => by cases hf
  | n + 1, σ, x1, x2, x3, hf => fX11_asks_b2_ok C  (fX11_asks_h2  n) (fX11_asks_h2_ok C  n) σ x1 x2 x3 hf
def fX11_asks (σ : S0) (x1 : Int32) (x2 : Int32) : Option (Int32 × S0) := fX11_asks_h2 400 σ x1 x2 0
set_option maxHeartbeats 1000000 in
set_option maxRecDepth 100000 in
theorem fX11_asks_ok {p : Program} {l : Launch} {e : Env} {s : State} {m : MethodId} {args : Array Value} {below : List Frame} {meth : Method} {c : Code} {dC : Nat → ClassId} {dI : Nat → Nat → Nat} {ad : Nat → Nat} {cy : Nat → ClassId} {sz : Nat} (C : Cx p s m args meth c RX11 cX11_asks 4 none dC dI ad cy sz) {rr : Int32} {ρ : S0} (σ : S0) (x1 : Int32) (x2 : Int32)  (hf : fX11_asks σ x1 x2 = some (rr, ρ)) : Gw p l e rm_X11_asks s m args below meth c (MQ below (QcV dC dI ad cy sz ρ) args s 0 0 (AW ad sz)) dC dI ad cy 4 sz 0 0 0 [(0, .ref (ad 98)), (1, .int x1), (2, .int x2)] [] σ := by
  unfold fX11_asks at hf
  refine g_iconst (v := 0) C dX11_asks_0 (by decide) ?_
  refine g_istore_n (lv2 := [(0, .ref (ad 98)), (1, .int x1), (2, .int x2), (3, .int 0)]) C dX11_asks_1 rfl (by decide) [1, 2, 3, 0] rfl ?_
  exact g_sub [0, 1, 2, 3] rfl (fX11_asks_h2_ok C 400 σ x1 x2 0 hf)
theorem c_X11_asks (l : Launch) (dC : Nat → ClassId) (dI : Nat → Nat → Nat) (ad : Nat → Nat) (cy : Nat → ClassId) (x1 : Int32) (x2 : Int32) : ConV l yX11_asks cX11_asks 4 none rm_X11_asks dC dI ad cy [.ref (ad 98), .int x1, .int x2] (fun σ => fX11_asks σ x1 x2) := con_v (own := RX11) (by decide) rfl (Nat.le_of_ble_eq_true rfl) (fun _ _ _ _ _ _ _ _ σ _ _ C hf => fX11_asks_ok C σ x1 x2 hf)
theorem cal_X11_asks : CalV yX11_asks RX11 cX11_asks 4 none 2 := ⟨hI_X11_asks, hS_X11_asks, hIni_X11, hC_X11_asks, by decide +kernel⟩
abbrev rm_X11_askOf : Room := { frames := 5, cells := 0, slots := 0, locals := 114 }
def fX11_askOf_b43 (sf_43 : S0 → Int32 → Int32 → Option (Int32 × S0)) (σ : S0) (x3 : Int32) (x4 : Int32) : Option (Int32 × S0) := if (σ 98 4) ≤ x4 then (some (x3, σ)) else (og (¬ (x4 < 0 ∨ 12 ≤ x4.toNatClampNeg)) (ol (σ 106 x4.toNatClampNeg) (fun v3 => ol ((5 * x4) + 1) (fun v4 => og (¬ (v4 < 0 ∨ 240 ≤ v4.toNatClampNeg)) (ol (su σ 99 v4.toNatClampNeg v3) (fun σ6 => ol (x4 + 1) (fun v7 => sf_43 σ6 x3 v7)))))))
set_option maxHeartbeats 1000000 in
set_option maxRecDepth 100000 in
theorem fX11_askOf_b43_ok {p : Program} {l : Launch} {e : Env} {s : State} {m : MethodId} {args : Array Value} {below : List Frame} {meth : Method} {c : Code} {dC : Nat → ClassId} {dI : Nat → Nat → Nat} {ad : Nat → Nat} {cy : Nat → ClassId} {sz : Nat} (C : Cx p s m args meth c RX11 cX11_askOf 5 (some .int) dC dI ad cy sz) {rr : Int32} {ρ : S0} (sf_43 : S0 → Int32 → Int32 → Option (Int32 × S0)) (hs_43 : ∀ (σ : S0) (x3 : Int32) (x4 : Int32) , sf_43 σ x3 x4 = some (rr, ρ) → Gw p l e rm_X11_askOf s m args below meth c (MQ below (QcI dC dI ad cy sz rr ρ) args s 0 0 (AW ad sz)) dC dI ad cy 5 sz 0 0 43 [(0, .ref (ad 98)), (3, .int x3), (4, .int x4)] [] σ) (σ : S0) (x3 : Int32) (x4 : Int32)  (hf : fX11_askOf_b43 sf_43 σ x3 x4 = some (rr, ρ)) : Gw p l e rm_X11_askOf s m args below meth c (MQ below (QcI dC dI ad cy sz rr ρ) args s 0 0 (AW ad sz)) dC dI ad cy 5 sz 0 0 43 [(0, .ref (ad 98)), (3, .int x3), (4, .int x4)] [] σ := by
  unfold fX11_askOf_b43 at hf
  refine g_iload C dX11_askOf_43 2 rfl ?_
  refine g_aload_n C dX11_askOf_45 rfl 0 rfl ?_
  refine g_get C (a_98 ad cy _) rfl hin_X11 4 (by decide) hF_X11_81 rfl rfl dX11_askOf_46 ?_
  rcases oi_e hf with ⟨c1, hf⟩ | ⟨c1, hf⟩
  · refine g_icmp_ge_t (tgt := 76) C dX11_askOf_49 (by decide) c1 ?_
    refine g_iload_n C dX11_askOf_76 rfl 1 rfl ?_
    obtain ⟨rfl, rfl⟩ := os_e hf
    exact g_iret C rfl dX11_askOf_77
  · refine g_icmp_ge_f (tgt := 76) C dX11_askOf_49 (by decide) c1 ?_
    refine g_aload_n C dX11_askOf_52 rfl 0 rfl ?_
    refine g_get C (a_98 ad cy _) rfl hin_X11 0 (by decide) hF_X11_7 rfl rfl dX11_askOf_53 ?_
    refine g_iconst (v := 5) C dX11_askOf_56 (by decide) ?_
    refine g_iload C dX11_askOf_57 2 rfl ?_
    refine g_imul C dX11_askOf_59 ?_
    refine g_iconst (v := 1) C dX11_askOf_60 (by decide) ?_
    refine g_iadd C dX11_askOf_61 ?_
    refine g_aload_n C dX11_askOf_62 rfl 0 rfl ?_
    refine g_get C (a_98 ad cy _) rfl hin_X11 29 (by decide) hF_X11_32 rfl rfl dX11_askOf_63 ?_
    refine g_iload C dX11_askOf_66 2 rfl ?_
    obtain ⟨h2, hf⟩ := og_e hf
    refine g_iald C (a_106 ad cy _) h2 dX11_askOf_68 ?_
    obtain ⟨v3, ev3, hf⟩ := ol_e hf
    refine g_nm ev3 ?_
    obtain ⟨v4, ev4, hf⟩ := ol_e hf
    refine g_nm2 ev4 ?_
    obtain ⟨h5, hf⟩ := og_e hf
    obtain ⟨σ6, eσ6, hf⟩ := ol_e hf
    refine g_iast C (a_99 ad cy _) h5 (w_99 ad cy _) eσ6 dX11_askOf_69 ?_
    obtain ⟨v7, ev7, hf⟩ := ol_e hf
    refine g_iinc (j := 2) (w := 1) (lv2 := [(0, .ref (ad 98)), (3, .int x3), (4, .int v7)]) C dX11_askOf_70 rfl (by decide) ev7 (by decide) [1, 2, 0] rfl ?_
    refine g_goto (tgt := 43) C dX11_askOf_73 (by decide) ?_
    exact g_sub [0, 1, 2] rfl (hs_43 σ6 x3 v7 hf)
def fX11_askOf_h43  : Nat → S0 → Int32 → Int32 → Option (Int32 × S0)
  | 0 => fun _ _ _ => none
  | n + 1 => fun σ x3 x4 => fX11_askOf_b43  (fX11_askOf_h43  n) σ x3 x4
set_option maxHeartbeats 1000000 in
set_option maxRecDepth 100000 in
theorem fX11_askOf_h43_ok {p : Program} {l : Launch} {e : Env} {s : State} {m : MethodId} {args : Array Value} {below : List Frame} {meth : Method} {c : Code} {dC : Nat → ClassId} {dI : Nat → Nat → Nat} {ad : Nat → Nat} {cy : Nat → ClassId} {sz : Nat} (C : Cx p s m args meth c RX11 cX11_askOf 5 (some .int) dC dI ad cy sz) {rr : Int32} {ρ : S0}  : ∀ (n : Nat) (σ : S0) (x3 : Int32) (x4 : Int32)  (_hf : fX11_askOf_h43  n σ x3 x4 = some (rr, ρ)), Gw p l e rm_X11_askOf s m args below meth c (MQ below (QcI dC dI ad cy sz rr ρ) args s 0 0 (AW ad sz)) dC dI ad cy 5 sz 0 0 43 [(0, .ref (ad 98)), (3, .int x3), (4, .int x4)] [] σ
  | 0, _, _, _, hf => by cases hf
  | n + 1, σ, x3, x4, hf => fX11_askOf_b43_ok C  (fX11_askOf_h43  n) (fX11_askOf_h43_ok C  n) σ x3 x4 hf
def fX11_askOf_b2 (sf_2 : S0 → Int32 → Int32 → Int32 → Option (Int32 × S0)) (σ : S0) (x1 : Int32) (x2 : Int32) (x3 : Int32) : Option (Int32 × S0) := if (σ 98 4) ≤ x3 then (obp (fX11_asks σ x1 x2) (fun r2 σ3 => obp (fX11_wageOf σ3 x1) (fun r5 σ6 => fX11_askOf_h43 400 σ6 r5 0))) else (obp (fX11_of σ x3 ((1 : Int32))) (fun r8 σ9 => og (¬ (x3 < 0 ∨ 12 ≤ x3.toNatClampNeg)) (ol (su σ9 106 x3.toNatClampNeg r8) (fun σ12 => ol (x3 + 1) (fun v13 => sf_2 σ12 x1 x2 v13)))))
set_option maxHeartbeats 1000000 in
set_option maxRecDepth 100000 in
theorem fX11_askOf_b2_ok {p : Program} {l : Launch} {e : Env} {s : State} {m : MethodId} {args : Array Value} {below : List Frame} {meth : Method} {c : Code} {dC : Nat → ClassId} {dI : Nat → Nat → Nat} {ad : Nat → Nat} {cy : Nat → ClassId} {sz : Nat} (C : Cx p s m args meth c RX11 cX11_askOf 5 (some .int) dC dI ad cy sz) {rr : Int32} {ρ : S0} (sf_2 : S0 → Int32 → Int32 → Int32 → Option (Int32 × S0)) (hs_2 : ∀ (σ : S0) (x1 : Int32) (x2 : Int32) (x3 : Int32) , sf_2 σ x1 x2 x3 = some (rr, ρ) → Gw p l e rm_X11_askOf s m args below meth c (MQ below (QcI dC dI ad cy sz rr ρ) args s 0 0 (AW ad sz)) dC dI ad cy 5 sz 0 0 2 [(0, .ref (ad 98)), (1, .int x1), (2, .int x2), (3, .int x3)] [] σ) (σ : S0) (x1 : Int32) (x2 : Int32) (x3 : Int32)  (hf : fX11_askOf_b2 sf_2 σ x1 x2 x3 = some (rr, ρ)) : Gw p l e rm_X11_askOf s m args below meth c (MQ below (QcI dC dI ad cy sz rr ρ) args s 0 0 (AW ad sz)) dC dI ad cy 5 sz 0 0 2 [(0, .ref (ad 98)), (1, .int x1), (2, .int x2), (3, .int x3)] [] σ := by
  unfold fX11_askOf_b2 at hf
  refine g_iload_n C dX11_askOf_2 rfl 3 rfl ?_
  refine g_aload_n C dX11_askOf_3 rfl 0 rfl ?_
  refine g_get C (a_98 ad cy _) rfl hin_X11 4 (by decide) hF_X11_81 rfl rfl dX11_askOf_4 ?_
  rcases oi_e hf with ⟨c1, hf⟩ | ⟨c1, hf⟩
  · refine g_icmp_ge_t (tgt := 28) C dX11_askOf_7 (by decide) c1 ?_
    refine g_aload_n C dX11_askOf_28 rfl 0 rfl ?_
    refine g_iload_n C dX11_askOf_29 rfl 1 rfl ?_
    refine g_iload_n C dX11_askOf_30 rfl 2 rfl ?_
    obtain ⟨r2, σ3, h4, hf⟩ := obp_e hf
    refine g_callVv (As := [.int x1, .int x2]) (rest := []) C (a_98 ad cy _) rfl (c_X11_asks l dC dI ad cy x1 x2) h4 hM_X11_235 cal_X11_asks ⟨Nat.zero_le _, Nat.zero_le _⟩ ⟨rfl, rfl⟩ ⟨Nat.le_of_ble_eq_true rfl, Nat.le_of_ble_eq_true rfl⟩ rfl rfl (Nat.le_of_ble_eq_true rfl) dX11_askOf_31 ?_
    refine g_aload_n C dX11_askOf_34 rfl 0 rfl ?_
    refine g_iload_n C dX11_askOf_35 rfl 1 rfl ?_
    obtain ⟨r5, σ6, h7, hf⟩ := obp_e hf
    refine g_callVi (As := [.int x1]) (rest := []) C (a_98 ad cy _) rfl (c_X11_wageOf l dC dI ad cy x1) h7 hM_X11_232 cal_X11_wageOf ⟨Nat.zero_le _, Nat.zero_le _⟩ ⟨rfl, rfl⟩ ⟨Nat.le_of_ble_eq_true rfl, Nat.le_of_ble_eq_true rfl⟩ rfl rfl (Nat.le_of_ble_eq_true rfl) dX11_askOf_36 ?_
    refine g_istore_n (lv2 := [(0, .ref (ad 98)), (1, .int x1), (2, .int x2), (3, .int r5)]) C dX11_askOf_39 rfl (by decide) [1, 2, 3, 0] rfl ?_
    refine g_iconst (v := 0) C dX11_askOf_40 (by decide) ?_
    refine g_istore (lv2 := [(0, .ref (ad 98)), (1, .int x1), (2, .int x2), (3, .int r5), (4, .int 0)]) C dX11_askOf_41 (by decide) [1, 2, 3, 4, 0] rfl ?_
    exact g_sub [0, 3, 4] rfl (fX11_askOf_h43_ok C 400 σ6 r5 0 hf)
  · refine g_icmp_ge_f (tgt := 28) C dX11_askOf_7 (by decide) c1 ?_
    refine g_aload_n C dX11_askOf_10 rfl 0 rfl ?_
    refine g_get C (a_98 ad cy _) rfl hin_X11 29 (by decide) hF_X11_32 rfl rfl dX11_askOf_11 ?_
    refine g_iload_n C dX11_askOf_14 rfl 3 rfl ?_
    refine g_aload_n C dX11_askOf_15 rfl 0 rfl ?_
    refine g_iload_n C dX11_askOf_16 rfl 3 rfl ?_
    refine g_iconst (v := 1) C dX11_askOf_17 (by decide) ?_
    obtain ⟨r8, σ9, h10, hf⟩ := obp_e hf
    refine g_callVi (As := [.int x3, .int 1]) (rest := [.int x3, .ref (ad 106)]) C (a_98 ad cy _) rfl (c_X11_of l dC dI ad cy x3 ((1 : Int32))) h10 hM_X11_172 cal_X11_of ⟨Nat.zero_le _, Nat.zero_le _⟩ ⟨rfl, rfl⟩ ⟨Nat.le_of_ble_eq_true rfl, Nat.le_of_ble_eq_true rfl⟩ rfl rfl (Nat.le_of_ble_eq_true rfl) dX11_askOf_18 ?_
    obtain ⟨h11, hf⟩ := og_e hf
    obtain ⟨σ12, eσ12, hf⟩ := ol_e hf
    refine g_iast C (a_106 ad cy _) h11 (w_106 ad cy _) eσ12 dX11_askOf_21 ?_
    obtain ⟨v13, ev13, hf⟩ := ol_e hf
    refine g_iinc (j := 3) (w := 1) (lv2 := [(0, .ref (ad 98)), (1, .int x1), (2, .int x2), (3, .int v13)]) C dX11_askOf_22 rfl (by decide) ev13 (by decide) [1, 2, 3, 0] rfl ?_
    refine g_goto (tgt := 2) C dX11_askOf_25 (by decide) ?_
    exact g_sub [0, 1, 2, 3] rfl (hs_2 σ12 x1 x2 v13 hf)
def fX11_askOf_h2  : Nat → S0 → Int32 → Int32 → Int32 → Option (Int32 × S0)
  | 0 => fun _ _ _ _ => none
  | n + 1 => fun σ x1 x2 x3 => fX11_askOf_b2  (fX11_askOf_h2  n) σ x1 x2 x3
set_option maxHeartbeats 1000000 in
set_option maxRecDepth 100000 in
theorem fX11_askOf_h2_ok {p : Program} {l : Launch} {e : Env} {s : State} {m : MethodId} {args : Array Value} {below : List Frame} {meth : Method} {c : Code} {dC : Nat → ClassId} {dI : Nat → Nat → Nat} {ad : Nat → Nat} {cy : Nat → ClassId} {sz : Nat} (C : Cx p s m args meth c RX11 cX11_askOf 5 (some .int) dC dI ad cy sz) {rr : Int32} {ρ : S0}  : ∀ (n : Nat) (σ : S0) (x1 : Int32) (x2 : Int32) (x3 : Int32)  (_hf : fX11_askOf_h2  n σ x1 x2 x3 = some (rr, ρ)), Gw p l e rm_X11_askOf s m args below meth c (MQ below (QcI dC dI ad cy sz rr ρ) args s 0 0 (AW ad sz)) dC dI ad cy 5 sz 0 0 2 [(0, .ref (ad 98)), (1, .int x1), (2, .int x2), (3, .int x3)] [] σ
  | 0, _, _, _, _, hf => by cases hf
  | n + 1, σ, x1, x2, x3, hf => fX11_askOf_b2_ok C  (fX11_askOf_h2  n) (fX11_askOf_h2_ok C  n) σ x1 x2 x3 hf
def fX11_askOf (σ : S0) (x1 : Int32) (x2 : Int32) : Option (Int32 × S0) := fX11_askOf_h2 400 σ x1 x2 0
set_option maxHeartbeats 1000000 in
set_option maxRecDepth 100000 in
theorem fX11_askOf_ok {p : Program} {l : Launch} {e : Env} {s : State} {m : MethodId} {args : Array Value} {below : List Frame} {meth : Method} {c : Code} {dC : Nat → ClassId} {dI : Nat → Nat → Nat} {ad : Nat → Nat} {cy : Nat → ClassId} {sz : Nat} (C : Cx p s m args meth c RX11 cX11_askOf 5 (some .int) dC dI ad cy sz) {rr : Int32} {ρ : S0} (σ : S0) (x1 : Int32) (x2 : Int32)  (hf : fX11_askOf σ x1 x2 = some (rr, ρ)) : Gw p l e rm_X11_askOf s m args below meth c (MQ below (QcI dC dI ad cy sz rr ρ) args s 0 0 (AW ad sz)) dC dI ad cy 5 sz 0 0 0 [(0, .ref (ad 98)), (1, .int x1), (2, .int x2)] [] σ := by
  unfold fX11_askOf at hf
  refine g_iconst (v := 0) C dX11_askOf_0 (by decide) ?_
  refine g_istore_n (lv2 := [(0, .ref (ad 98)), (1, .int x1), (2, .int x2), (3, .int 0)]) C dX11_askOf_1 rfl (by decide) [1, 2, 3, 0] rfl ?_
  exact g_sub [0, 1, 2, 3] rfl (fX11_askOf_h2_ok C 400 σ x1 x2 0 hf)
theorem c_X11_askOf (l : Launch) (dC : Nat → ClassId) (dI : Nat → Nat → Nat) (ad : Nat → Nat) (cy : Nat → ClassId) (x1 : Int32) (x2 : Int32) : ConI l yX11_askOf cX11_askOf 5 (some .int) rm_X11_askOf dC dI ad cy [.ref (ad 98), .int x1, .int x2] (fun σ => fX11_askOf σ x1 x2) := con_i (own := RX11) (by decide) rfl (Nat.le_of_ble_eq_true rfl) (fun _ _ _ _ _ _ _ _ σ _ _ C hf => fX11_askOf_ok C σ x1 x2 hf)
theorem cal_X11_askOf : CalV yX11_askOf RX11 cX11_askOf 5 (some .int) 2 := ⟨hI_X11_askOf, hS_X11_askOf, hIni_X11, hC_X11_askOf, by decide +kernel⟩
abbrev rm_X11_ask : Room := { frames := 6, cells := 0, slots := 0, locals := 138 }
def fX11_ask (σ : S0) (x1 : Int32) (x2 : Int32) : Option (Int32 × S0) := obp (fX11_isHouse σ x1) (fun r1 σ2 => if r1 = 0 then (some ((-1), σ2)) else (obp (fX11_in σ2 x2.toInt64 ((0 : Int64)) ((20 : Int64))) (fun r5 σ6 => if r5 = 0 then (some ((-1), σ6)) else (obp (fX11_askOf σ6 x1 x2) (fun r9 σ10 => some (r9, σ10))))))
set_option maxHeartbeats 1000000 in
set_option maxRecDepth 100000 in
theorem fX11_ask_ok {p : Program} {l : Launch} {e : Env} {s : State} {m : MethodId} {args : Array Value} {below : List Frame} {meth : Method} {c : Code} {dC : Nat → ClassId} {dI : Nat → Nat → Nat} {ad : Nat → Nat} {cy : Nat → ClassId} {sz : Nat} (C : Cx p s m args meth c RX11 cX11_ask 3 (some .int) dC dI ad cy sz) {rr : Int32} {ρ : S0} (σ : S0) (x1 : Int32) (x2 : Int32)  (hf : fX11_ask σ x1 x2 = some (rr, ρ)) : Gw p l e rm_X11_ask s m args below meth c (MQ below (QcI dC dI ad cy sz rr ρ) args s 0 0 (AW ad sz)) dC dI ad cy 3 sz 0 0 0 [(0, .ref (ad 98)), (1, .int x1), (2, .int x2)] [] σ := by
  unfold fX11_ask at hf
  refine g_aload_n C dX11_ask_0 rfl 0 rfl ?_
  refine g_iload_n C dX11_ask_1 rfl 1 rfl ?_
  obtain ⟨r1, σ2, h3, hf⟩ := obp_e hf
  refine g_callVi (As := [.int x1]) (rest := []) C (a_98 ad cy _) rfl (c_X11_isHouse l dC dI ad cy x1) h3 hM_X11_186 cal_X11_isHouse ⟨Nat.zero_le _, Nat.zero_le _⟩ ⟨rfl, rfl⟩ ⟨Nat.le_of_ble_eq_true rfl, Nat.le_of_ble_eq_true rfl⟩ rfl rfl (Nat.le_of_ble_eq_true rfl) dX11_ask_2 ?_
  rcases oi_e hf with ⟨c4, hf⟩ | ⟨c4, hf⟩
  · refine g_if_eq_t (tgt := 29) C dX11_ask_5 (by decide) c4 ?_
    refine g_iconst (v := (-1)) C dX11_ask_29 (by decide) ?_
    obtain ⟨rfl, rfl⟩ := os_e hf
    exact g_iret C rfl dX11_ask_30
  · refine g_if_eq_f (tgt := 29) C dX11_ask_5 (by decide) c4 ?_
    refine g_iload_n C dX11_ask_8 rfl 2 rfl ?_
    refine g_i2l C dX11_ask_9 ?_
    refine g_lconst (v := 0) C dX11_ask_10 (by decide) ?_
    refine g_ldc2 (v := 20) C dX11_ask_11 hK_X11_189 ?_
    obtain ⟨r5, σ6, h7, hf⟩ := obp_e hf
    refine g_callSi (As := [.long x2.toInt64, .long 0, .long 20]) (rest := []) C (c_X11_in l dC dI ad cy x2.toInt64 ((0 : Int64)) ((20 : Int64))) h7 hM_X11_92 cal_X11_in ⟨Nat.zero_le _, Nat.zero_le _⟩ ⟨rfl, rfl⟩ ⟨Nat.le_of_ble_eq_true rfl, Nat.le_of_ble_eq_true rfl⟩ rfl rfl (Nat.le_of_ble_eq_true rfl) dX11_ask_14 ?_
    rcases oi_e hf with ⟨c8, hf⟩ | ⟨c8, hf⟩
    · refine g_if_eq_t (tgt := 29) C dX11_ask_17 (by decide) c8 ?_
      refine g_iconst (v := (-1)) C dX11_ask_29 (by decide) ?_
      obtain ⟨rfl, rfl⟩ := os_e hf
      exact g_iret C rfl dX11_ask_30
    · refine g_if_eq_f (tgt := 29) C dX11_ask_17 (by decide) c8 ?_
      refine g_aload_n C dX11_ask_20 rfl 0 rfl ?_
      refine g_iload_n C dX11_ask_21 rfl 1 rfl ?_
      refine g_iload_n C dX11_ask_22 rfl 2 rfl ?_
      obtain ⟨r9, σ10, h11, hf⟩ := obp_e hf
      refine g_callVi (As := [.int x1, .int x2]) (rest := []) C (a_98 ad cy _) rfl (c_X11_askOf l dC dI ad cy x1 x2) h11 hM_X11_239 cal_X11_askOf ⟨Nat.zero_le _, Nat.zero_le _⟩ ⟨rfl, rfl⟩ ⟨Nat.le_of_ble_eq_true rfl, Nat.le_of_ble_eq_true rfl⟩ rfl rfl (Nat.le_of_ble_eq_true rfl) dX11_ask_23 ?_
      refine g_goto (tgt := 30) C dX11_ask_26 (by decide) ?_
      obtain ⟨rfl, rfl⟩ := os_e hf
      exact g_iret C rfl dX11_ask_30
theorem c_X11_ask (l : Launch) (dC : Nat → ClassId) (dI : Nat → Nat → Nat) (ad : Nat → Nat) (cy : Nat → ClassId) (x1 : Int32) (x2 : Int32) : ConI l yX11_ask cX11_ask 3 (some .int) rm_X11_ask dC dI ad cy [.ref (ad 98), .int x1, .int x2] (fun σ => fX11_ask σ x1 x2) := con_i (own := RX11) (by decide) rfl (Nat.le_of_ble_eq_true rfl) (fun _ _ _ _ _ _ _ _ σ _ _ C hf => fX11_ask_ok C σ x1 x2 hf)
theorem cal_X11_ask : CalV yX11_ask RX11 cX11_ask 3 (some .int) 2 := ⟨hI_X11_ask, hS_X11_ask, hIni_X11, hC_X11_ask, by decide +kernel⟩
abbrev rm_X11_findBest : Room := { frames := 6, cells := 0, slots := 0, locals := 138 }
def fX11_findBest_b81 (sf_13 : S0 → Int32 → Int32 → Option (Int32 × S0)) (σ : S0) (x1 : Int32) (x2 : Int32) (t0 : Int32) : Option (Int32 × S0) := ol (su σ 98 31 t0) (fun σ1 => ol (x2 + 1) (fun v2 => sf_13 σ1 x1 v2))
set_option maxHeartbeats 1000000 in
set_option maxRecDepth 100000 in
theorem fX11_findBest_b81_ok {p : Program} {l : Launch} {e : Env} {s : State} {m : MethodId} {args : Array Value} {below : List Frame} {meth : Method} {c : Code} {dC : Nat → ClassId} {dI : Nat → Nat → Nat} {ad : Nat → Nat} {cy : Nat → ClassId} {sz : Nat} (C : Cx p s m args meth c RX11 cX11_findBest 5 none dC dI ad cy sz) {rr : Int32} {ρ : S0} (sf_13 : S0 → Int32 → Int32 → Option (Int32 × S0)) (hs_13 : ∀ (σ : S0) (x1 : Int32) (x2 : Int32) , sf_13 σ x1 x2 = some (rr, ρ) → Gw p l e rm_X11_findBest s m args below meth c (MQ below (QcV dC dI ad cy sz ρ) args s 0 0 (AW ad sz)) dC dI ad cy 5 sz 0 0 13 [(0, .ref (ad 98)), (1, .int x1), (2, .int x2)] [] σ) (σ : S0) (x1 : Int32) (x2 : Int32) (t0 : Int32)  (hf : fX11_findBest_b81 sf_13 σ x1 x2 t0 = some (rr, ρ)) : Gw p l e rm_X11_findBest s m args below meth c (MQ below (QcV dC dI ad cy sz ρ) args s 0 0 (AW ad sz)) dC dI ad cy 5 sz 0 0 81 [(0, .ref (ad 98)), (1, .int x1), (2, .int x2)] [.int t0, .ref (ad 98)] σ := by
  unfold fX11_findBest_b81 at hf
  obtain ⟨σ1, eσ1, hf⟩ := ol_e hf
  refine g_put (ty := .int) C (a_98 ad cy _) rfl hin_X11 tyX11 tyX11_ok nmX11 31 (by decide) hF_X11_245 rfl rfl (by decide +kernel) rfl rfl (Nat.le_of_ble_eq_true rfl) (p_98_31 ad cy _ _) eσ1 dX11_findBest_81 ?_
  obtain ⟨v2, ev2, hf⟩ := ol_e hf
  refine g_iinc (j := 2) (w := 1) (lv2 := [(0, .ref (ad 98)), (1, .int x1), (2, .int v2)]) C dX11_findBest_84 rfl (by decide) ev2 (by decide) [1, 2, 0] rfl ?_
  refine g_goto (tgt := 13) C dX11_findBest_87 (by decide) ?_
  exact g_sub [0, 1, 2] rfl (hs_13 σ1 x1 v2 hf)
def fX11_findBest_b64 (sf_13 : S0 → Int32 → Int32 → Option (Int32 × S0)) (σ : S0) (x1 : Int32) (x2 : Int32) (x3 : Int32) (x4 : Int32) (t0 : Int32) : Option (Int32 × S0) := ol (su σ 98 30 t0) (fun σ1 => if x4 = 0 then (fX11_findBest_b81 sf_13 σ1 x1 x2 (σ1 98 31)) else (fX11_findBest_b81 sf_13 σ1 x1 x2 x3))
set_option maxHeartbeats 1000000 in
set_option maxRecDepth 100000 in
theorem fX11_findBest_b64_ok {p : Program} {l : Launch} {e : Env} {s : State} {m : MethodId} {args : Array Value} {below : List Frame} {meth : Method} {c : Code} {dC : Nat → ClassId} {dI : Nat → Nat → Nat} {ad : Nat → Nat} {cy : Nat → ClassId} {sz : Nat} (C : Cx p s m args meth c RX11 cX11_findBest 5 none dC dI ad cy sz) {rr : Int32} {ρ : S0} (sf_13 : S0 → Int32 → Int32 → Option (Int32 × S0)) (hs_13 : ∀ (σ : S0) (x1 : Int32) (x2 : Int32) , sf_13 σ x1 x2 = some (rr, ρ) → Gw p l e rm_X11_findBest s m args below meth c (MQ below (QcV dC dI ad cy sz ρ) args s 0 0 (AW ad sz)) dC dI ad cy 5 sz 0 0 13 [(0, .ref (ad 98)), (1, .int x1), (2, .int x2)] [] σ) (σ : S0) (x1 : Int32) (x2 : Int32) (x3 : Int32) (x4 : Int32) (t0 : Int32)  (hf : fX11_findBest_b64 sf_13 σ x1 x2 x3 x4 t0 = some (rr, ρ)) : Gw p l e rm_X11_findBest s m args below meth c (MQ below (QcV dC dI ad cy sz ρ) args s 0 0 (AW ad sz)) dC dI ad cy 5 sz 0 0 64 [(0, .ref (ad 98)), (1, .int x1), (2, .int x2), (3, .int x3), (4, .int x4)] [.int t0, .ref (ad 98)] σ := by
  unfold fX11_findBest_b64 at hf
  obtain ⟨σ1, eσ1, hf⟩ := ol_e hf
  refine g_put (ty := .int) C (a_98 ad cy _) rfl hin_X11 tyX11 tyX11_ok nmX11 30 (by decide) hF_X11_242 rfl rfl (by decide +kernel) rfl rfl (Nat.le_of_ble_eq_true rfl) (p_98_30 ad cy _ _) eσ1 dX11_findBest_64 ?_
  refine g_aload_n C dX11_findBest_67 rfl 0 rfl ?_
  refine g_iload C dX11_findBest_68 4 rfl ?_
  rcases oi_e hf with ⟨c2, hf⟩ | ⟨c2, hf⟩
  · refine g_if_eq_t (tgt := 77) C dX11_findBest_70 (by decide) c2 ?_
    refine g_aload_n C dX11_findBest_77 rfl 0 rfl ?_
    refine g_get C (a_98 ad cy _) rfl hin_X11 31 (by decide) hF_X11_245 rfl rfl dX11_findBest_78 ?_
    exact g_sub [0, 1, 2] rfl (fX11_findBest_b81_ok C sf_13 hs_13 σ1 x1 x2 (σ1 98 31) hf)
  · refine g_if_eq_f (tgt := 77) C dX11_findBest_70 (by decide) c2 ?_
    refine g_iload_n C dX11_findBest_73 rfl 3 rfl ?_
    refine g_goto (tgt := 81) C dX11_findBest_74 (by decide) ?_
    exact g_sub [0, 1, 2] rfl (fX11_findBest_b81_ok C sf_13 hs_13 σ1 x1 x2 x3 hf)
def fX11_findBest_b48 (sf_13 : S0 → Int32 → Int32 → Option (Int32 × S0)) (σ : S0) (x1 : Int32) (x2 : Int32) (x3 : Int32) (t0 : Int32) : Option (Int32 × S0) := if t0 = 0 then (fX11_findBest_b64 sf_13 σ x1 x2 x3 t0 (σ 98 30)) else (fX11_findBest_b64 sf_13 σ x1 x2 x3 t0 x2)
set_option maxHeartbeats 1000000 in
set_option maxRecDepth 100000 in
theorem fX11_findBest_b48_ok {p : Program} {l : Launch} {e : Env} {s : State} {m : MethodId} {args : Array Value} {below : List Frame} {meth : Method} {c : Code} {dC : Nat → ClassId} {dI : Nat → Nat → Nat} {ad : Nat → Nat} {cy : Nat → ClassId} {sz : Nat} (C : Cx p s m args meth c RX11 cX11_findBest 5 none dC dI ad cy sz) {rr : Int32} {ρ : S0} (sf_13 : S0 → Int32 → Int32 → Option (Int32 × S0)) (hs_13 : ∀ (σ : S0) (x1 : Int32) (x2 : Int32) , sf_13 σ x1 x2 = some (rr, ρ) → Gw p l e rm_X11_findBest s m args below meth c (MQ below (QcV dC dI ad cy sz ρ) args s 0 0 (AW ad sz)) dC dI ad cy 5 sz 0 0 13 [(0, .ref (ad 98)), (1, .int x1), (2, .int x2)] [] σ) (σ : S0) (x1 : Int32) (x2 : Int32) (x3 : Int32) (t0 : Int32)  (hf : fX11_findBest_b48 sf_13 σ x1 x2 x3 t0 = some (rr, ρ)) : Gw p l e rm_X11_findBest s m args below meth c (MQ below (QcV dC dI ad cy sz ρ) args s 0 0 (AW ad sz)) dC dI ad cy 5 sz 0 0 48 [(0, .ref (ad 98)), (1, .int x1), (2, .int x2), (3, .int x3)] [.int t0] σ := by
  unfold fX11_findBest_b48 at hf
  refine g_istore (lv2 := [(0, .ref (ad 98)), (1, .int x1), (2, .int x2), (3, .int x3), (4, .int t0)]) C dX11_findBest_48 (by decide) [1, 2, 3, 4, 0] rfl ?_
  refine g_aload_n C dX11_findBest_50 rfl 0 rfl ?_
  refine g_iload C dX11_findBest_51 4 rfl ?_
  rcases oi_e hf with ⟨c1, hf⟩ | ⟨c1, hf⟩
  · refine g_if_eq_t (tgt := 60) C dX11_findBest_53 (by decide) c1 ?_
    refine g_aload_n C dX11_findBest_60 rfl 0 rfl ?_
    refine g_get C (a_98 ad cy _) rfl hin_X11 30 (by decide) hF_X11_242 rfl rfl dX11_findBest_61 ?_
    exact g_sub [0, 1, 2, 3, 4] rfl (fX11_findBest_b64_ok C sf_13 hs_13 σ x1 x2 x3 t0 (σ 98 30) hf)
  · refine g_if_eq_f (tgt := 60) C dX11_findBest_53 (by decide) c1 ?_
    refine g_iload_n C dX11_findBest_56 rfl 2 rfl ?_
    refine g_goto (tgt := 64) C dX11_findBest_57 (by decide) ?_
    exact g_sub [0, 1, 2, 3, 4] rfl (fX11_findBest_b64_ok C sf_13 hs_13 σ x1 x2 x3 t0 x2 hf)
def fX11_findBest_b43 (sf_13 : S0 → Int32 → Int32 → Option (Int32 × S0)) (σ : S0) (x1 : Int32) (x2 : Int32) (x3 : Int32) : Option (Int32 × S0) := fX11_findBest_b48 sf_13 σ x1 x2 x3 1
set_option maxHeartbeats 1000000 in
set_option maxRecDepth 100000 in
theorem fX11_findBest_b43_ok {p : Program} {l : Launch} {e : Env} {s : State} {m : MethodId} {args : Array Value} {below : List Frame} {meth : Method} {c : Code} {dC : Nat → ClassId} {dI : Nat → Nat → Nat} {ad : Nat → Nat} {cy : Nat → ClassId} {sz : Nat} (C : Cx p s m args meth c RX11 cX11_findBest 5 none dC dI ad cy sz) {rr : Int32} {ρ : S0} (sf_13 : S0 → Int32 → Int32 → Option (Int32 × S0)) (hs_13 : ∀ (σ : S0) (x1 : Int32) (x2 : Int32) , sf_13 σ x1 x2 = some (rr, ρ) → Gw p l e rm_X11_findBest s m args below meth c (MQ below (QcV dC dI ad cy sz ρ) args s 0 0 (AW ad sz)) dC dI ad cy 5 sz 0 0 13 [(0, .ref (ad 98)), (1, .int x1), (2, .int x2)] [] σ) (σ : S0) (x1 : Int32) (x2 : Int32) (x3 : Int32)  (hf : fX11_findBest_b43 sf_13 σ x1 x2 x3 = some (rr, ρ)) : Gw p l e rm_X11_findBest s m args below meth c (MQ below (QcV dC dI ad cy sz ρ) args s 0 0 (AW ad sz)) dC dI ad cy 5 sz 0 0 43 [(0, .ref (ad 98)), (1, .int x1), (2, .int x2), (3, .int x3)] [] σ := by
  unfold fX11_findBest_b43 at hf
  refine g_iconst (v := 1) C dX11_findBest_43 (by decide) ?_
  refine g_goto (tgt := 48) C dX11_findBest_44 (by decide) ?_
  exact g_sub [0, 1, 2, 3] rfl (fX11_findBest_b48_ok C sf_13 hs_13 σ x1 x2 x3 1 hf)
def fX11_findBest_b13 (sf_13 : S0 → Int32 → Int32 → Option (Int32 × S0)) (σ : S0) (x1 : Int32) (x2 : Int32) : Option (Int32 × S0) := if (20 : Int32) < x2 then (some (0, σ)) else (obp (fX11_askOf σ x1 x2) (fun r2 σ3 => if (σ3 98 30) = ((-4)) then (fX11_findBest_b43 sf_13 σ3 x1 x2 r2) else (if r2 ≤ (σ3 98 31) then (fX11_findBest_b48 sf_13 σ3 x1 x2 r2 0) else (fX11_findBest_b43 sf_13 σ3 x1 x2 r2))))
set_option maxHeartbeats 1000000 in
set_option maxRecDepth 100000 in
theorem fX11_findBest_b13_ok {p : Program} {l : Launch} {e : Env} {s : State} {m : MethodId} {args : Array Value} {below : List Frame} {meth : Method} {c : Code} {dC : Nat → ClassId} {dI : Nat → Nat → Nat} {ad : Nat → Nat} {cy : Nat → ClassId} {sz : Nat} (C : Cx p s m args meth c RX11 cX11_findBest 5 none dC dI ad cy sz) {rr : Int32} {ρ : S0} (sf_13 : S0 → Int32 → Int32 → Option (Int32 × S0)) (hs_13 : ∀ (σ : S0) (x1 : Int32) (x2 : Int32) , sf_13 σ x1 x2 = some (rr, ρ) → Gw p l e rm_X11_findBest s m args below meth c (MQ below (QcV dC dI ad cy sz ρ) args s 0 0 (AW ad sz)) dC dI ad cy 5 sz 0 0 13 [(0, .ref (ad 98)), (1, .int x1), (2, .int x2)] [] σ) (σ : S0) (x1 : Int32) (x2 : Int32)  (hf : fX11_findBest_b13 sf_13 σ x1 x2 = some (rr, ρ)) : Gw p l e rm_X11_findBest s m args below meth c (MQ below (QcV dC dI ad cy sz ρ) args s 0 0 (AW ad sz)) dC dI ad cy 5 sz 0 0 13 [(0, .ref (ad 98)), (1, .int x1), (2, .int x2)] [] σ := by
  unfold fX11_findBest_b13 at hf
  refine g_iload_n C dX11_findBest_13 rfl 2 rfl ?_
  refine g_bipush (v := 20) C dX11_findBest_14 (by decide) ?_
  rcases oi_e hf with ⟨c1, hf⟩ | ⟨c1, hf⟩
  · refine g_icmp_gt_t (tgt := 90) C dX11_findBest_16 (by decide) c1 ?_
    obtain ⟨rfl, rfl⟩ := os_e hf
    exact g_vret C rfl dX11_findBest_90
  · refine g_icmp_gt_f (tgt := 90) C dX11_findBest_16 (by decide) c1 ?_
    refine g_aload_n C dX11_findBest_19 rfl 0 rfl ?_
    refine g_iload_n C dX11_findBest_20 rfl 1 rfl ?_
    refine g_iload_n C dX11_findBest_21 rfl 2 rfl ?_
    obtain ⟨r2, σ3, h4, hf⟩ := obp_e hf
    refine g_callVi (As := [.int x1, .int x2]) (rest := []) C (a_98 ad cy _) rfl (c_X11_askOf l dC dI ad cy x1 x2) h4 hM_X11_239 cal_X11_askOf ⟨Nat.zero_le _, Nat.zero_le _⟩ ⟨rfl, rfl⟩ ⟨Nat.le_of_ble_eq_true rfl, Nat.le_of_ble_eq_true rfl⟩ rfl rfl (Nat.le_of_ble_eq_true rfl) dX11_findBest_22 ?_
    refine g_istore_n (lv2 := [(0, .ref (ad 98)), (1, .int x1), (2, .int x2), (3, .int r2)]) C dX11_findBest_25 rfl (by decide) [1, 2, 3, 0] rfl ?_
    refine g_aload_n C dX11_findBest_26 rfl 0 rfl ?_
    refine g_get C (a_98 ad cy _) rfl hin_X11 30 (by decide) hF_X11_242 rfl rfl dX11_findBest_27 ?_
    refine g_bipush (v := (-4)) C dX11_findBest_30 (by decide) ?_
    rcases oi_e hf with ⟨c5, hf⟩ | ⟨c5, hf⟩
    · refine g_icmp_eq_t (tgt := 43) C dX11_findBest_32 (by decide) c5 ?_
      exact g_sub [0, 1, 2, 3] rfl (fX11_findBest_b43_ok C sf_13 hs_13 σ3 x1 x2 r2 hf)
    · refine g_icmp_eq_f (tgt := 43) C dX11_findBest_32 (by decide) c5 ?_
      refine g_iload_n C dX11_findBest_35 rfl 3 rfl ?_
      refine g_aload_n C dX11_findBest_36 rfl 0 rfl ?_
      refine g_get C (a_98 ad cy _) rfl hin_X11 31 (by decide) hF_X11_245 rfl rfl dX11_findBest_37 ?_
      rcases oi_e hf with ⟨c6, hf⟩ | ⟨c6, hf⟩
      · refine g_icmp_le_t (tgt := 47) C dX11_findBest_40 (by decide) c6 ?_
        refine g_iconst (v := 0) C dX11_findBest_47 (by decide) ?_
        exact g_sub [0, 1, 2, 3] rfl (fX11_findBest_b48_ok C sf_13 hs_13 σ3 x1 x2 r2 0 hf)
      · refine g_icmp_le_f (tgt := 47) C dX11_findBest_40 (by decide) c6 ?_
        exact g_sub [0, 1, 2, 3] rfl (fX11_findBest_b43_ok C sf_13 hs_13 σ3 x1 x2 r2 hf)
def fX11_findBest_h13  : Nat → S0 → Int32 → Int32 → Option (Int32 × S0)
  | 0 => fun _ _ _ => none
  | n + 1 => fun σ x1 x2 => fX11_findBest_b13  (fX11_findBest_h13  n) σ x1 x2
set_option maxHeartbeats 1000000 in
set_option maxRecDepth 100000 in
theorem fX11_findBest_h13_ok {p : Program} {l : Launch} {e : Env} {s : State} {m : MethodId} {args : Array Value} {below : List Frame} {meth : Method} {c : Code} {dC : Nat → ClassId} {dI : Nat → Nat → Nat} {ad : Nat → Nat} {cy : Nat → ClassId} {sz : Nat} (C : Cx p s m args meth c RX11 cX11_findBest 5 none dC dI ad cy sz) {rr : Int32} {ρ : S0}  : ∀ (n : Nat) (σ : S0) (x1 : Int32) (x2 : Int32)  (_hf : fX11_findBest_h13  n σ x1 x2 = some (rr, ρ)), Gw p l e rm_X11_findBest s m args below meth c (MQ below (QcV dC dI ad cy sz ρ) args s 0 0 (AW ad sz)) dC dI ad cy 5 sz 0 0 13 [(0, .ref (ad 98)), (1, .int x1), (2, .int x2)] [] σ
  | 0, _, _, _, hf => by cases hf
  | n + 1, σ, x1, x2, hf => fX11_findBest_b13_ok C  (fX11_findBest_h13  n) (fX11_findBest_h13_ok C  n) σ x1 x2 hf
def fX11_findBest (σ : S0) (x1 : Int32) : Option (Int32 × S0) := ol (su σ 98 30 ((-4))) (fun σ1 => ol (su σ1 98 31 0) (fun σ2 => fX11_findBest_h13 400 σ2 x1 0))
set_option maxHeartbeats 1000000 in
set_option maxRecDepth 100000 in
theorem fX11_findBest_ok {p : Program} {l : Launch} {e : Env} {s : State} {m : MethodId} {args : Array Value} {below : List Frame} {meth : Method} {c : Code} {dC : Nat → ClassId} {dI : Nat → Nat → Nat} {ad : Nat → Nat} {cy : Nat → ClassId} {sz : Nat} (C : Cx p s m args meth c RX11 cX11_findBest 5 none dC dI ad cy sz) {rr : Int32} {ρ : S0} (σ : S0) (x1 : Int32)  (hf : fX11_findBest σ x1 = some (rr, ρ)) : Gw p l e rm_X11_findBest s m args below meth c (MQ below (QcV dC dI ad cy sz ρ) args s 0 0 (AW ad sz)) dC dI ad cy 5 sz 0 0 0 [(0, .ref (ad 98)), (1, .int x1)] [] σ := by
  unfold fX11_findBest at hf
  refine g_aload_n C dX11_findBest_0 rfl 0 rfl ?_
  refine g_bipush (v := (-4)) C dX11_findBest_1 (by decide) ?_
  obtain ⟨σ1, eσ1, hf⟩ := ol_e hf
  refine g_put (ty := .int) C (a_98 ad cy _) rfl hin_X11 tyX11 tyX11_ok nmX11 30 (by decide) hF_X11_242 rfl rfl (by decide +kernel) rfl rfl (Nat.le_of_ble_eq_true rfl) (p_98_30 ad cy _ _) eσ1 dX11_findBest_3 ?_
  refine g_aload_n C dX11_findBest_6 rfl 0 rfl ?_
  refine g_iconst (v := 0) C dX11_findBest_7 (by decide) ?_
  obtain ⟨σ2, eσ2, hf⟩ := ol_e hf
  refine g_put (ty := .int) C (a_98 ad cy _) rfl hin_X11 tyX11 tyX11_ok nmX11 31 (by decide) hF_X11_245 rfl rfl (by decide +kernel) rfl rfl (Nat.le_of_ble_eq_true rfl) (p_98_31 ad cy _ _) eσ2 dX11_findBest_8 ?_
  refine g_iconst (v := 0) C dX11_findBest_11 (by decide) ?_
  refine g_istore_n (lv2 := [(0, .ref (ad 98)), (1, .int x1), (2, .int 0)]) C dX11_findBest_12 rfl (by decide) [1, 2, 0] rfl ?_
  exact g_sub [0, 1, 2] rfl (fX11_findBest_h13_ok C 400 σ2 x1 0 hf)
theorem c_X11_findBest (l : Launch) (dC : Nat → ClassId) (dI : Nat → Nat → Nat) (ad : Nat → Nat) (cy : Nat → ClassId) (x1 : Int32) : ConV l yX11_findBest cX11_findBest 5 none rm_X11_findBest dC dI ad cy [.ref (ad 98), .int x1] (fun σ => fX11_findBest σ x1) := con_v (own := RX11) (by decide) rfl (Nat.le_of_ble_eq_true rfl) (fun _ _ _ _ _ _ _ _ σ _ _ C hf => fX11_findBest_ok C σ x1 hf)
theorem cal_X11_findBest : CalV yX11_findBest RX11 cX11_findBest 5 none 1 := ⟨hI_X11_findBest, hS_X11_findBest, hIni_X11, hC_X11_findBest, by decide +kernel⟩
abbrev rm_X11_best : Room := { frames := 7, cells := 0, slots := 0, locals := 162 }
def fX11_best (σ : S0) (x1 : Int32) (x2 : Int32) : Option (Int32 × S0) := obp (fX11_isHouse σ x1) (fun r1 σ2 => if r1 = 0 then (some ((-1), σ2)) else (obp (fX11_in σ2 x2.toInt64 ((0 : Int64)) ((1 : Int64))) (fun r5 σ6 => if ¬ r5 = 0 then (obp (fX11_findBest σ6 x1) (fun r9 σ10 => if ¬ x2 = 0 then (some (σ10 98 31, σ10)) else (some (σ10 98 30, σ10)))) else (some ((-1), σ6)))))
set_option maxHeartbeats 1000000 in
set_option maxRecDepth 100000 in
theorem fX11_best_ok {p : Program} {l : Launch} {e : Env} {s : State} {m : MethodId} {args : Array Value} {below : List Frame} {meth : Method} {c : Code} {dC : Nat → ClassId} {dI : Nat → Nat → Nat} {ad : Nat → Nat} {cy : Nat → ClassId} {sz : Nat} (C : Cx p s m args meth c RX11 cX11_best 3 (some .int) dC dI ad cy sz) {rr : Int32} {ρ : S0} (σ : S0) (x1 : Int32) (x2 : Int32)  (hf : fX11_best σ x1 x2 = some (rr, ρ)) : Gw p l e rm_X11_best s m args below meth c (MQ below (QcI dC dI ad cy sz rr ρ) args s 0 0 (AW ad sz)) dC dI ad cy 3 sz 0 0 0 [(0, .ref (ad 98)), (1, .int x1), (2, .int x2)] [] σ := by
  unfold fX11_best at hf
  refine g_aload_n C dX11_best_0 rfl 0 rfl ?_
  refine g_iload_n C dX11_best_1 rfl 1 rfl ?_
  obtain ⟨r1, σ2, h3, hf⟩ := obp_e hf
  refine g_callVi (As := [.int x1]) (rest := []) C (a_98 ad cy _) rfl (c_X11_isHouse l dC dI ad cy x1) h3 hM_X11_186 cal_X11_isHouse ⟨Nat.zero_le _, Nat.zero_le _⟩ ⟨rfl, rfl⟩ ⟨Nat.le_of_ble_eq_true rfl, Nat.le_of_ble_eq_true rfl⟩ rfl rfl (Nat.le_of_ble_eq_true rfl) dX11_best_2 ?_
  rcases oi_e hf with ⟨c4, hf⟩ | ⟨c4, hf⟩
  · refine g_if_eq_t (tgt := 18) C dX11_best_5 (by decide) c4 ?_
    refine g_iconst (v := (-1)) C dX11_best_18 (by decide) ?_
    obtain ⟨rfl, rfl⟩ := os_e hf
    exact g_iret C rfl dX11_best_19
  · refine g_if_eq_f (tgt := 18) C dX11_best_5 (by decide) c4 ?_
    refine g_iload_n C dX11_best_8 rfl 2 rfl ?_
    refine g_i2l C dX11_best_9 ?_
    refine g_lconst (v := 0) C dX11_best_10 (by decide) ?_
    refine g_lconst (v := 1) C dX11_best_11 (by decide) ?_
    obtain ⟨r5, σ6, h7, hf⟩ := obp_e hf
    refine g_callSi (As := [.long x2.toInt64, .long 0, .long 1]) (rest := []) C (c_X11_in l dC dI ad cy x2.toInt64 ((0 : Int64)) ((1 : Int64))) h7 hM_X11_92 cal_X11_in ⟨Nat.zero_le _, Nat.zero_le _⟩ ⟨rfl, rfl⟩ ⟨Nat.le_of_ble_eq_true rfl, Nat.le_of_ble_eq_true rfl⟩ rfl rfl (Nat.le_of_ble_eq_true rfl) dX11_best_12 ?_
    rcases oi_e hf with ⟨c8, hf⟩ | ⟨c8, hf⟩
    · refine g_if_ne_t (tgt := 20) C dX11_best_15 (by decide) c8 ?_
      refine g_aload_n C dX11_best_20 rfl 0 rfl ?_
      refine g_iload_n C dX11_best_21 rfl 1 rfl ?_
      obtain ⟨r9, σ10, h11, hf⟩ := obp_e hf
      refine g_callVv (As := [.int x1]) (rest := []) C (a_98 ad cy _) rfl (c_X11_findBest l dC dI ad cy x1) h11 hM_X11_248 cal_X11_findBest ⟨Nat.zero_le _, Nat.zero_le _⟩ ⟨rfl, rfl⟩ ⟨Nat.le_of_ble_eq_true rfl, Nat.le_of_ble_eq_true rfl⟩ rfl rfl (Nat.le_of_ble_eq_true rfl) dX11_best_22 ?_
      refine g_iload_n C dX11_best_25 rfl 2 rfl ?_
      rcases oi_e hf with ⟨c12, hf⟩ | ⟨c12, hf⟩
      · refine g_if_ne_t (tgt := 36) C dX11_best_26 (by decide) c12 ?_
        refine g_aload_n C dX11_best_36 rfl 0 rfl ?_
        refine g_get C (a_98 ad cy _) rfl hin_X11 31 (by decide) hF_X11_245 rfl rfl dX11_best_37 ?_
        obtain ⟨rfl, rfl⟩ := os_e hf
        exact g_iret C rfl dX11_best_40
      · refine g_if_ne_f (tgt := 36) C dX11_best_26 (by decide) (Decidable.of_not_not c12) ?_
        refine g_aload_n C dX11_best_29 rfl 0 rfl ?_
        refine g_get C (a_98 ad cy _) rfl hin_X11 30 (by decide) hF_X11_242 rfl rfl dX11_best_30 ?_
        refine g_goto (tgt := 40) C dX11_best_33 (by decide) ?_
        obtain ⟨rfl, rfl⟩ := os_e hf
        exact g_iret C rfl dX11_best_40
    · refine g_if_ne_f (tgt := 20) C dX11_best_15 (by decide) (Decidable.of_not_not c8) ?_
      refine g_iconst (v := (-1)) C dX11_best_18 (by decide) ?_
      obtain ⟨rfl, rfl⟩ := os_e hf
      exact g_iret C rfl dX11_best_19
theorem c_X11_best (l : Launch) (dC : Nat → ClassId) (dI : Nat → Nat → Nat) (ad : Nat → Nat) (cy : Nat → ClassId) (x1 : Int32) (x2 : Int32) : ConI l yX11_best cX11_best 3 (some .int) rm_X11_best dC dI ad cy [.ref (ad 98), .int x1, .int x2] (fun σ => fX11_best σ x1 x2) := con_i (own := RX11) (by decide) rfl (Nat.le_of_ble_eq_true rfl) (fun _ _ _ _ _ _ _ _ σ _ _ C hf => fX11_best_ok C σ x1 x2 hf)
theorem cal_X11_best : CalV yX11_best RX11 cX11_best 3 (some .int) 2 := ⟨hI_X11_best, hS_X11_best, hIni_X11, hC_X11_best, by decide +kernel⟩
abbrev rm_X11_changes : Room := { frames := 7, cells := 0, slots := 0, locals := 162 }
def fX11_changes (σ : S0) (x1 : Int32) : Option (Int32 × S0) := obp (fX11_findBest σ x1) (fun r1 σ2 => obp (fX11_wageOf σ2 x1) (fun r4 σ5 => if (σ2 98 31) ≤ r4 then (some (0, σ5)) else (some (1, σ5))))
set_option maxHeartbeats 1000000 in
set_option maxRecDepth 100000 in
theorem fX11_changes_ok {p : Program} {l : Launch} {e : Env} {s : State} {m : MethodId} {args : Array Value} {below : List Frame} {meth : Method} {c : Code} {dC : Nat → ClassId} {dI : Nat → Nat → Nat} {ad : Nat → Nat} {cy : Nat → ClassId} {sz : Nat} (C : Cx p s m args meth c RX11 cX11_changes 2 (some .boolean) dC dI ad cy sz) {rr : Int32} {ρ : S0} (σ : S0) (x1 : Int32)  (hf : fX11_changes σ x1 = some (rr, ρ)) : Gw p l e rm_X11_changes s m args below meth c (MQ below (QcI dC dI ad cy sz rr ρ) args s 0 0 (AW ad sz)) dC dI ad cy 2 sz 0 0 0 [(0, .ref (ad 98)), (1, .int x1)] [] σ := by
  unfold fX11_changes at hf
  refine g_aload_n C dX11_changes_0 rfl 0 rfl ?_
  refine g_iload_n C dX11_changes_1 rfl 1 rfl ?_
  obtain ⟨r1, σ2, h3, hf⟩ := obp_e hf
  refine g_callVv (As := [.int x1]) (rest := []) C (a_98 ad cy _) rfl (c_X11_findBest l dC dI ad cy x1) h3 hM_X11_248 cal_X11_findBest ⟨Nat.zero_le _, Nat.zero_le _⟩ ⟨rfl, rfl⟩ ⟨Nat.le_of_ble_eq_true rfl, Nat.le_of_ble_eq_true rfl⟩ rfl rfl (Nat.le_of_ble_eq_true rfl) dX11_changes_2 ?_
  refine g_aload_n C dX11_changes_5 rfl 0 rfl ?_
  refine g_get C (a_98 ad cy _) rfl hin_X11 31 (by decide) hF_X11_245 rfl rfl dX11_changes_6 ?_
  refine g_aload_n C dX11_changes_9 rfl 0 rfl ?_
  refine g_iload_n C dX11_changes_10 rfl 1 rfl ?_
  obtain ⟨r4, σ5, h6, hf⟩ := obp_e hf
  refine g_callVi (As := [.int x1]) (rest := [.int (σ2 98 31)]) C (a_98 ad cy _) rfl (c_X11_wageOf l dC dI ad cy x1) h6 hM_X11_232 cal_X11_wageOf ⟨Nat.zero_le _, Nat.zero_le _⟩ ⟨rfl, rfl⟩ ⟨Nat.le_of_ble_eq_true rfl, Nat.le_of_ble_eq_true rfl⟩ rfl rfl (Nat.le_of_ble_eq_true rfl) dX11_changes_11 ?_
  rcases oi_e hf with ⟨c7, hf⟩ | ⟨c7, hf⟩
  · refine g_icmp_le_t (tgt := 21) C dX11_changes_14 (by decide) c7 ?_
    refine g_iconst (v := 0) C dX11_changes_21 (by decide) ?_
    obtain ⟨rfl, rfl⟩ := os_e hf
    exact g_zret C rfl (by decide) dX11_changes_22
  · refine g_icmp_le_f (tgt := 21) C dX11_changes_14 (by decide) c7 ?_
    refine g_iconst (v := 1) C dX11_changes_17 (by decide) ?_
    refine g_goto (tgt := 22) C dX11_changes_18 (by decide) ?_
    obtain ⟨rfl, rfl⟩ := os_e hf
    exact g_zret C rfl (by decide) dX11_changes_22
theorem c_X11_changes (l : Launch) (dC : Nat → ClassId) (dI : Nat → Nat → Nat) (ad : Nat → Nat) (cy : Nat → ClassId) (x1 : Int32) : ConI l yX11_changes cX11_changes 2 (some .boolean) rm_X11_changes dC dI ad cy [.ref (ad 98), .int x1] (fun σ => fX11_changes σ x1) := con_i (own := RX11) (by decide) rfl (Nat.le_of_ble_eq_true rfl) (fun _ _ _ _ _ _ _ _ σ _ _ C hf => fX11_changes_ok C σ x1 hf)
theorem cal_X11_changes : CalV yX11_changes RX11 cX11_changes 2 (some .boolean) 1 := ⟨hI_X11_changes, hS_X11_changes, hIni_X11, hC_X11_changes, by decide +kernel⟩
abbrev rm_X11_settle : Room := { frames := 8, cells := 0, slots := 0, locals := 183 }
def fX11_settle_b56 (sf_16 : S0 → Int32 → Int32 → Option (Int32 × S0)) (sf_26 : S0 → Int32 → Int32 → Int32 → Int32 → Option (Int32 × S0)) (σ : S0) (x1 : Int32) (x2 : Int32) (x3 : Int32) (x4 : Int32) : Option (Int32 × S0) := ol (x4 + 1) (fun v1 => sf_26 σ x1 x2 x3 v1)
set_option maxHeartbeats 1000000 in
set_option maxRecDepth 100000 in
theorem fX11_settle_b56_ok {p : Program} {l : Launch} {e : Env} {s : State} {m : MethodId} {args : Array Value} {below : List Frame} {meth : Method} {c : Code} {dC : Nat → ClassId} {dI : Nat → Nat → Nat} {ad : Nat → Nat} {cy : Nat → ClassId} {sz : Nat} (C : Cx p s m args meth c RX11 cX11_settle 5 (some .int) dC dI ad cy sz) {rr : Int32} {ρ : S0} (sf_16 : S0 → Int32 → Int32 → Option (Int32 × S0)) (hs_16 : ∀ (σ : S0) (x1 : Int32) (x2 : Int32) , sf_16 σ x1 x2 = some (rr, ρ) → Gw p l e rm_X11_settle s m args below meth c (MQ below (QcI dC dI ad cy sz rr ρ) args s 0 0 (AW ad sz)) dC dI ad cy 5 sz 0 0 16 [(0, .ref (ad 98)), (1, .int x1), (2, .int x2)] [] σ) (sf_26 : S0 → Int32 → Int32 → Int32 → Int32 → Option (Int32 × S0)) (hs_26 : ∀ (σ : S0) (x1 : Int32) (x2 : Int32) (x3 : Int32) (x4 : Int32) , sf_26 σ x1 x2 x3 x4 = some (rr, ρ) → Gw p l e rm_X11_settle s m args below meth c (MQ below (QcI dC dI ad cy sz rr ρ) args s 0 0 (AW ad sz)) dC dI ad cy 5 sz 0 0 26 [(0, .ref (ad 98)), (1, .int x1), (2, .int x2), (3, .int x3), (4, .int x4)] [] σ) (σ : S0) (x1 : Int32) (x2 : Int32) (x3 : Int32) (x4 : Int32)  (hf : fX11_settle_b56 sf_16 sf_26 σ x1 x2 x3 x4 = some (rr, ρ)) : Gw p l e rm_X11_settle s m args below meth c (MQ below (QcI dC dI ad cy sz rr ρ) args s 0 0 (AW ad sz)) dC dI ad cy 5 sz 0 0 56 [(0, .ref (ad 98)), (1, .int x1), (2, .int x2), (3, .int x3), (4, .int x4)] [] σ := by
  unfold fX11_settle_b56 at hf
  obtain ⟨v1, ev1, hf⟩ := ol_e hf
  refine g_iinc (j := 4) (w := 1) (lv2 := [(0, .ref (ad 98)), (1, .int x1), (2, .int x2), (3, .int x3), (4, .int v1)]) C dX11_settle_56 rfl (by decide) ev1 (by decide) [1, 2, 3, 4, 0] rfl ?_
  refine g_goto (tgt := 26) C dX11_settle_59 (by decide) ?_
  exact g_sub [0, 1, 2, 3, 4] rfl (hs_26 σ x1 x2 x3 v1 hf)
def fX11_settle_b26 (sf_16 : S0 → Int32 → Int32 → Option (Int32 × S0)) (sf_26 : S0 → Int32 → Int32 → Int32 → Int32 → Option (Int32 × S0)) (σ : S0) (x1 : Int32) (x2 : Int32) (x3 : Int32) (x4 : Int32) : Option (Int32 × S0) := if (σ 98 2) ≤ x4 then (if ¬ x3 = 0 then (ol (x2 + 1) (fun v3 => sf_16 σ x1 v3)) else (some (x2, σ))) else (obp (fX11_changes σ x4) (fun r4 σ5 => if r4 = 0 then (fX11_settle_b56 sf_16 sf_26 σ5 x1 x2 x3 x4) else (obp (fX11_asks σ5 x4 (σ5 98 30)) (fun r8 σ9 => fX11_settle_b56 sf_16 sf_26 σ9 x1 x2 1 x4))))
set_option maxHeartbeats 1000000 in
set_option maxRecDepth 100000 in
theorem fX11_settle_b26_ok {p : Program} {l : Launch} {e : Env} {s : State} {m : MethodId} {args : Array Value} {below : List Frame} {meth : Method} {c : Code} {dC : Nat → ClassId} {dI : Nat → Nat → Nat} {ad : Nat → Nat} {cy : Nat → ClassId} {sz : Nat} (C : Cx p s m args meth c RX11 cX11_settle 5 (some .int) dC dI ad cy sz) {rr : Int32} {ρ : S0} (sf_16 : S0 → Int32 → Int32 → Option (Int32 × S0)) (hs_16 : ∀ (σ : S0) (x1 : Int32) (x2 : Int32) , sf_16 σ x1 x2 = some (rr, ρ) → Gw p l e rm_X11_settle s m args below meth c (MQ below (QcI dC dI ad cy sz rr ρ) args s 0 0 (AW ad sz)) dC dI ad cy 5 sz 0 0 16 [(0, .ref (ad 98)), (1, .int x1), (2, .int x2)] [] σ) (sf_26 : S0 → Int32 → Int32 → Int32 → Int32 → Option (Int32 × S0)) (hs_26 : ∀ (σ : S0) (x1 : Int32) (x2 : Int32) (x3 : Int32) (x4 : Int32) , sf_26 σ x1 x2 x3 x4 = some (rr, ρ) → Gw p l e rm_X11_settle s m args below meth c (MQ below (QcI dC dI ad cy sz rr ρ) args s 0 0 (AW ad sz)) dC dI ad cy 5 sz 0 0 26 [(0, .ref (ad 98)), (1, .int x1), (2, .int x2), (3, .int x3), (4, .int x4)] [] σ) (σ : S0) (x1 : Int32) (x2 : Int32) (x3 : Int32) (x4 : Int32)  (hf : fX11_settle_b26 sf_16 sf_26 σ x1 x2 x3 x4 = some (rr, ρ)) : Gw p l e rm_X11_settle s m args below meth c (MQ below (QcI dC dI ad cy sz rr ρ) args s 0 0 (AW ad sz)) dC dI ad cy 5 sz 0 0 26 [(0, .ref (ad 98)), (1, .int x1), (2, .int x2), (3, .int x3), (4, .int x4)] [] σ := by
  unfold fX11_settle_b26 at hf
  refine g_iload C dX11_settle_26 4 rfl ?_
  refine g_aload_n C dX11_settle_28 rfl 0 rfl ?_
  refine g_get C (a_98 ad cy _) rfl hin_X11 2 (by decide) hF_X11_75 rfl rfl dX11_settle_29 ?_
  rcases oi_e hf with ⟨c1, hf⟩ | ⟨c1, hf⟩
  · refine g_icmp_ge_t (tgt := 62) C dX11_settle_32 (by decide) c1 ?_
    refine g_iload_n C dX11_settle_62 rfl 3 rfl ?_
    rcases oi_e hf with ⟨c2, hf⟩ | ⟨c2, hf⟩
    · refine g_if_ne_t (tgt := 68) C dX11_settle_63 (by decide) c2 ?_
      obtain ⟨v3, ev3, hf⟩ := ol_e hf
      refine g_iinc (j := 2) (w := 1) (lv2 := [(0, .ref (ad 98)), (1, .int x1), (2, .int v3), (3, .int x3), (4, .int x4)]) C dX11_settle_68 rfl (by decide) ev3 (by decide) [1, 2, 0, 3, 4] rfl ?_
      refine g_goto (tgt := 16) C dX11_settle_71 (by decide) ?_
      exact g_sub [0, 1, 2] rfl (hs_16 σ x1 v3 hf)
    · refine g_if_ne_f (tgt := 68) C dX11_settle_63 (by decide) (Decidable.of_not_not c2) ?_
      refine g_iload_n C dX11_settle_66 rfl 2 rfl ?_
      obtain ⟨rfl, rfl⟩ := os_e hf
      exact g_iret C rfl dX11_settle_67
  · refine g_icmp_ge_f (tgt := 62) C dX11_settle_32 (by decide) c1 ?_
    refine g_aload_n C dX11_settle_35 rfl 0 rfl ?_
    refine g_iload C dX11_settle_36 4 rfl ?_
    obtain ⟨r4, σ5, h6, hf⟩ := obp_e hf
    refine g_callVi (As := [.int x4]) (rest := []) C (a_98 ad cy _) rfl (c_X11_changes l dC dI ad cy x4) h6 hM_X11_253 cal_X11_changes ⟨Nat.zero_le _, Nat.zero_le _⟩ ⟨rfl, rfl⟩ ⟨Nat.le_of_ble_eq_true rfl, Nat.le_of_ble_eq_true rfl⟩ rfl rfl (Nat.le_of_ble_eq_true rfl) dX11_settle_38 ?_
    rcases oi_e hf with ⟨c7, hf⟩ | ⟨c7, hf⟩
    · refine g_if_eq_t (tgt := 56) C dX11_settle_41 (by decide) c7 ?_
      exact g_sub [0, 1, 2, 3, 4] rfl (fX11_settle_b56_ok C sf_16 hs_16 sf_26 hs_26 σ5 x1 x2 x3 x4 hf)
    · refine g_if_eq_f (tgt := 56) C dX11_settle_41 (by decide) c7 ?_
      refine g_aload_n C dX11_settle_44 rfl 0 rfl ?_
      refine g_iload C dX11_settle_45 4 rfl ?_
      refine g_aload_n C dX11_settle_47 rfl 0 rfl ?_
      refine g_get C (a_98 ad cy _) rfl hin_X11 30 (by decide) hF_X11_242 rfl rfl dX11_settle_48 ?_
      obtain ⟨r8, σ9, h10, hf⟩ := obp_e hf
      refine g_callVv (As := [.int x4, .int (σ5 98 30)]) (rest := []) C (a_98 ad cy _) rfl (c_X11_asks l dC dI ad cy x4 (σ5 98 30)) h10 hM_X11_235 cal_X11_asks ⟨Nat.zero_le _, Nat.zero_le _⟩ ⟨rfl, rfl⟩ ⟨Nat.le_of_ble_eq_true rfl, Nat.le_of_ble_eq_true rfl⟩ rfl rfl (Nat.le_of_ble_eq_true rfl) dX11_settle_51 ?_
      refine g_iconst (v := 1) C dX11_settle_54 (by decide) ?_
      refine g_istore_n (lv2 := [(0, .ref (ad 98)), (1, .int x1), (2, .int x2), (3, .int 1), (4, .int x4)]) C dX11_settle_55 rfl (by decide) [1, 2, 3, 0, 4] rfl ?_
      exact g_sub [0, 1, 2, 3, 4] rfl (fX11_settle_b56_ok C sf_16 hs_16 sf_26 hs_26 σ9 x1 x2 1 x4 hf)
def fX11_settle_h26 (sf_16 : S0 → Int32 → Int32 → Option (Int32 × S0)) : Nat → S0 → Int32 → Int32 → Int32 → Int32 → Option (Int32 × S0)
  | 0 => fun _ _ _ _ _ => none
  | n + 1 => fun σ x1 x2 x3 x4 => fX11_settle_b26 sf_16 (fX11_settle_h26 sf_16 n) σ x1 x2 x3 x4
set_option maxHeartbeats 1000000 in
set_option maxRecDepth 100000 in
theorem fX11_settle_h26_ok {p : Program} {l : Launch} {e : Env} {s : State} {m : MethodId} {args : Array Value} {below : List Frame} {meth : Method} {c : Code} {dC : Nat → ClassId} {dI : Nat → Nat → Nat} {ad : Nat → Nat} {cy : Nat → ClassId} {sz : Nat} (C : Cx p s m args meth c RX11 cX11_settle 5 (some .int) dC dI ad cy sz) {rr : Int32} {ρ : S0} (sf_16 : S0 → Int32 → Int32 → Option (Int32 × S0)) (hs_16 : ∀ (σ : S0) (x1 : Int32) (x2 : Int32) , sf_16 σ x1 x2 = some (rr, ρ) → Gw p l e rm_X11_settle s m args below meth c (MQ below (QcI dC dI ad cy sz rr ρ) args s 0 0 (AW ad sz)) dC dI ad cy 5 sz 0 0 16 [(0, .ref (ad 98)), (1, .int x1), (2, .int x2)] [] σ) : ∀ (n : Nat) (σ : S0) (x1 : Int32) (x2 : Int32) (x3 : Int32) (x4 : Int32)  (_hf : fX11_settle_h26 sf_16 n σ x1 x2 x3 x4 = some (rr, ρ)), Gw p l e rm_X11_settle s m args below meth c (MQ below (QcI dC dI ad cy sz rr ρ) args s 0 0 (AW ad sz)) dC dI ad cy 5 sz 0 0 26 [(0, .ref (ad 98)), (1, .int x1), (2, .int x2), (3, .int x3), (4, .int x4)] [] σ
  | 0, _, _, _, _, _, hf => by cases hf
  | n + 1, σ, x1, x2, x3, x4, hf => fX11_settle_b26_ok C sf_16 hs_16 (fX11_settle_h26 sf_16 n) (fX11_settle_h26_ok C sf_16 hs_16 n) σ x1 x2 x3 x4 hf
def fX11_settle_b16 (sf_16 : S0 → Int32 → Int32 → Option (Int32 × S0)) (σ : S0) (x1 : Int32) (x2 : Int32) : Option (Int32 × S0) := if x1 ≤ x2 then (some ((-4), σ)) else (fX11_settle_h26 sf_16 400 σ x1 x2 0 0)
set_option maxHeartbeats 1000000 in
set_option maxRecDepth 100000 in
theorem fX11_settle_b16_ok {p : Program} {l : Launch} {e : Env} {s : State} {m : MethodId} {args : Array Value} {below : List Frame} {meth : Method} {c : Code} {dC : Nat → ClassId} {dI : Nat → Nat → Nat} {ad : Nat → Nat} {cy : Nat → ClassId} {sz : Nat} (C : Cx p s m args meth c RX11 cX11_settle 5 (some .int) dC dI ad cy sz) {rr : Int32} {ρ : S0} (sf_16 : S0 → Int32 → Int32 → Option (Int32 × S0)) (hs_16 : ∀ (σ : S0) (x1 : Int32) (x2 : Int32) , sf_16 σ x1 x2 = some (rr, ρ) → Gw p l e rm_X11_settle s m args below meth c (MQ below (QcI dC dI ad cy sz rr ρ) args s 0 0 (AW ad sz)) dC dI ad cy 5 sz 0 0 16 [(0, .ref (ad 98)), (1, .int x1), (2, .int x2)] [] σ) (σ : S0) (x1 : Int32) (x2 : Int32)  (hf : fX11_settle_b16 sf_16 σ x1 x2 = some (rr, ρ)) : Gw p l e rm_X11_settle s m args below meth c (MQ below (QcI dC dI ad cy sz rr ρ) args s 0 0 (AW ad sz)) dC dI ad cy 5 sz 0 0 16 [(0, .ref (ad 98)), (1, .int x1), (2, .int x2)] [] σ := by
  unfold fX11_settle_b16 at hf
  refine g_iload_n C dX11_settle_16 rfl 2 rfl ?_
  refine g_iload_n C dX11_settle_17 rfl 1 rfl ?_
  rcases oi_e hf with ⟨c1, hf⟩ | ⟨c1, hf⟩
  · refine g_icmp_ge_t (tgt := 74) C dX11_settle_18 (by decide) c1 ?_
    refine g_bipush (v := (-4)) C dX11_settle_74 (by decide) ?_
    obtain ⟨rfl, rfl⟩ := os_e hf
    exact g_iret C rfl dX11_settle_76
  · refine g_icmp_ge_f (tgt := 74) C dX11_settle_18 (by decide) c1 ?_
    refine g_iconst (v := 0) C dX11_settle_21 (by decide) ?_
    refine g_istore_n (lv2 := [(0, .ref (ad 98)), (1, .int x1), (2, .int x2), (3, .int 0)]) C dX11_settle_22 rfl (by decide) [1, 2, 3, 0] rfl ?_
    refine g_iconst (v := 0) C dX11_settle_23 (by decide) ?_
    refine g_istore (lv2 := [(0, .ref (ad 98)), (1, .int x1), (2, .int x2), (3, .int 0), (4, .int 0)]) C dX11_settle_24 (by decide) [1, 2, 3, 4, 0] rfl ?_
    exact g_sub [0, 1, 2, 3, 4] rfl (fX11_settle_h26_ok C sf_16 hs_16 400 σ x1 x2 0 0 hf)
def fX11_settle_h16  : Nat → S0 → Int32 → Int32 → Option (Int32 × S0)
  | 0 => fun _ _ _ => none
  | n + 1 => fun σ x1 x2 => fX11_settle_b16  (fX11_settle_h16  n) σ x1 x2
set_option maxHeartbeats 1000000 in
set_option maxRecDepth 100000 in
theorem fX11_settle_h16_ok {p : Program} {l : Launch} {e : Env} {s : State} {m : MethodId} {args : Array Value} {below : List Frame} {meth : Method} {c : Code} {dC : Nat → ClassId} {dI : Nat → Nat → Nat} {ad : Nat → Nat} {cy : Nat → ClassId} {sz : Nat} (C : Cx p s m args meth c RX11 cX11_settle 5 (some .int) dC dI ad cy sz) {rr : Int32} {ρ : S0}  : ∀ (n : Nat) (σ : S0) (x1 : Int32) (x2 : Int32)  (_hf : fX11_settle_h16  n σ x1 x2 = some (rr, ρ)), Gw p l e rm_X11_settle s m args below meth c (MQ below (QcI dC dI ad cy sz rr ρ) args s 0 0 (AW ad sz)) dC dI ad cy 5 sz 0 0 16 [(0, .ref (ad 98)), (1, .int x1), (2, .int x2)] [] σ
  | 0, _, _, _, hf => by cases hf
  | n + 1, σ, x1, x2, hf => fX11_settle_b16_ok C  (fX11_settle_h16  n) (fX11_settle_h16_ok C  n) σ x1 x2 hf
def fX11_settle (σ : S0) (x1 : Int32) : Option (Int32 × S0) := obp (fX11_in σ x1.toInt64 ((1 : Int64)) ((30 : Int64))) (fun r1 σ2 => if ¬ r1 = 0 then (fX11_settle_h16 400 σ2 x1 0) else (some ((-1), σ2)))
set_option maxHeartbeats 1000000 in
set_option maxRecDepth 100000 in
theorem fX11_settle_ok {p : Program} {l : Launch} {e : Env} {s : State} {m : MethodId} {args : Array Value} {below : List Frame} {meth : Method} {c : Code} {dC : Nat → ClassId} {dI : Nat → Nat → Nat} {ad : Nat → Nat} {cy : Nat → ClassId} {sz : Nat} (C : Cx p s m args meth c RX11 cX11_settle 5 (some .int) dC dI ad cy sz) {rr : Int32} {ρ : S0} (σ : S0) (x1 : Int32)  (hf : fX11_settle σ x1 = some (rr, ρ)) : Gw p l e rm_X11_settle s m args below meth c (MQ below (QcI dC dI ad cy sz rr ρ) args s 0 0 (AW ad sz)) dC dI ad cy 5 sz 0 0 0 [(0, .ref (ad 98)), (1, .int x1)] [] σ := by
  unfold fX11_settle at hf
  refine g_iload_n C dX11_settle_0 rfl 1 rfl ?_
  refine g_i2l C dX11_settle_1 ?_
  refine g_lconst (v := 1) C dX11_settle_2 (by decide) ?_
  refine g_ldc2 (v := 30) C dX11_settle_3 hK_X11_251 ?_
  obtain ⟨r1, σ2, h3, hf⟩ := obp_e hf
  refine g_callSi (As := [.long x1.toInt64, .long 1, .long 30]) (rest := []) C (c_X11_in l dC dI ad cy x1.toInt64 ((1 : Int64)) ((30 : Int64))) h3 hM_X11_92 cal_X11_in ⟨Nat.zero_le _, Nat.zero_le _⟩ ⟨rfl, rfl⟩ ⟨Nat.le_of_ble_eq_true rfl, Nat.le_of_ble_eq_true rfl⟩ rfl rfl (Nat.le_of_ble_eq_true rfl) dX11_settle_6 ?_
  rcases oi_e hf with ⟨c4, hf⟩ | ⟨c4, hf⟩
  · refine g_if_ne_t (tgt := 14) C dX11_settle_9 (by decide) c4 ?_
    refine g_iconst (v := 0) C dX11_settle_14 (by decide) ?_
    refine g_istore_n (lv2 := [(0, .ref (ad 98)), (1, .int x1), (2, .int 0)]) C dX11_settle_15 rfl (by decide) [1, 2, 0] rfl ?_
    exact g_sub [0, 1, 2] rfl (fX11_settle_h16_ok C 400 σ2 x1 0 hf)
  · refine g_if_ne_f (tgt := 14) C dX11_settle_9 (by decide) (Decidable.of_not_not c4) ?_
    refine g_iconst (v := (-1)) C dX11_settle_12 (by decide) ?_
    obtain ⟨rfl, rfl⟩ := os_e hf
    exact g_iret C rfl dX11_settle_13
theorem c_X11_settle (l : Launch) (dC : Nat → ClassId) (dI : Nat → Nat → Nat) (ad : Nat → Nat) (cy : Nat → ClassId) (x1 : Int32) : ConI l yX11_settle cX11_settle 5 (some .int) rm_X11_settle dC dI ad cy [.ref (ad 98), .int x1] (fun σ => fX11_settle σ x1) := con_i (own := RX11) (by decide) rfl (Nat.le_of_ble_eq_true rfl) (fun _ _ _ _ _ _ _ _ σ _ _ C hf => fX11_settle_ok C σ x1 hf)
theorem cal_X11_settle : CalV yX11_settle RX11 cX11_settle 5 (some .int) 1 := ⟨hI_X11_settle, hS_X11_settle, hIni_X11, hC_X11_settle, by decide +kernel⟩
abbrev rm_X11_settled : Room := { frames := 8, cells := 0, slots := 0, locals := 183 }
def fX11_settled_b29 (sf_4 : S0 → Int32 → Int32 → Option (Int32 × S0)) (σ : S0) (x2 : Int32) (t0 : Int32) : Option (Int32 × S0) := ol (x2 + 1) (fun v1 => sf_4 σ t0 v1)
set_option maxHeartbeats 1000000 in
set_option maxRecDepth 100000 in
theorem fX11_settled_b29_ok {p : Program} {l : Launch} {e : Env} {s : State} {m : MethodId} {args : Array Value} {below : List Frame} {meth : Method} {c : Code} {dC : Nat → ClassId} {dI : Nat → Nat → Nat} {ad : Nat → Nat} {cy : Nat → ClassId} {sz : Nat} (C : Cx p s m args meth c RX11 cX11_settled 3 (some .int) dC dI ad cy sz) {rr : Int32} {ρ : S0} (sf_4 : S0 → Int32 → Int32 → Option (Int32 × S0)) (hs_4 : ∀ (σ : S0) (x1 : Int32) (x2 : Int32) , sf_4 σ x1 x2 = some (rr, ρ) → Gw p l e rm_X11_settled s m args below meth c (MQ below (QcI dC dI ad cy sz rr ρ) args s 0 0 (AW ad sz)) dC dI ad cy 3 sz 0 0 4 [(0, .ref (ad 98)), (1, .int x1), (2, .int x2)] [] σ) (σ : S0) (x2 : Int32) (t0 : Int32)  (hf : fX11_settled_b29 sf_4 σ x2 t0 = some (rr, ρ)) : Gw p l e rm_X11_settled s m args below meth c (MQ below (QcI dC dI ad cy sz rr ρ) args s 0 0 (AW ad sz)) dC dI ad cy 3 sz 0 0 29 [(0, .ref (ad 98)), (2, .int x2)] [.int t0] σ := by
  unfold fX11_settled_b29 at hf
  refine g_istore_n (lv2 := [(0, .ref (ad 98)), (1, .int t0), (2, .int x2)]) C dX11_settled_29 rfl (by decide) [1, 0, 2] rfl ?_
  obtain ⟨v1, ev1, hf⟩ := ol_e hf
  refine g_iinc (j := 2) (w := 1) (lv2 := [(0, .ref (ad 98)), (1, .int t0), (2, .int v1)]) C dX11_settled_30 rfl (by decide) ev1 (by decide) [1, 2, 0] rfl ?_
  refine g_goto (tgt := 4) C dX11_settled_33 (by decide) ?_
  exact g_sub [0, 1, 2] rfl (hs_4 σ t0 v1 hf)
def fX11_settled_b24 (sf_4 : S0 → Int32 → Int32 → Option (Int32 × S0)) (σ : S0) (x2 : Int32) : Option (Int32 × S0) := fX11_settled_b29 sf_4 σ x2 1
set_option maxHeartbeats 1000000 in
set_option maxRecDepth 100000 in
theorem fX11_settled_b24_ok {p : Program} {l : Launch} {e : Env} {s : State} {m : MethodId} {args : Array Value} {below : List Frame} {meth : Method} {c : Code} {dC : Nat → ClassId} {dI : Nat → Nat → Nat} {ad : Nat → Nat} {cy : Nat → ClassId} {sz : Nat} (C : Cx p s m args meth c RX11 cX11_settled 3 (some .int) dC dI ad cy sz) {rr : Int32} {ρ : S0} (sf_4 : S0 → Int32 → Int32 → Option (Int32 × S0)) (hs_4 : ∀ (σ : S0) (x1 : Int32) (x2 : Int32) , sf_4 σ x1 x2 = some (rr, ρ) → Gw p l e rm_X11_settled s m args below meth c (MQ below (QcI dC dI ad cy sz rr ρ) args s 0 0 (AW ad sz)) dC dI ad cy 3 sz 0 0 4 [(0, .ref (ad 98)), (1, .int x1), (2, .int x2)] [] σ) (σ : S0) (x2 : Int32)  (hf : fX11_settled_b24 sf_4 σ x2 = some (rr, ρ)) : Gw p l e rm_X11_settled s m args below meth c (MQ below (QcI dC dI ad cy sz rr ρ) args s 0 0 (AW ad sz)) dC dI ad cy 3 sz 0 0 24 [(0, .ref (ad 98)), (2, .int x2)] [] σ := by
  unfold fX11_settled_b24 at hf
  refine g_iconst (v := 1) C dX11_settled_24 (by decide) ?_
  refine g_goto (tgt := 29) C dX11_settled_25 (by decide) ?_
  exact g_sub [0, 1] rfl (fX11_settled_b29_ok C sf_4 hs_4 σ x2 1 hf)
def fX11_settled_b45  (σ : S0) (t0 : Int32) : Option (Int32 × S0) := obp (fX11_flag σ t0) (fun r1 σ2 => some (r1, σ2))
set_option maxHeartbeats 1000000 in
set_option maxRecDepth 100000 in
theorem fX11_settled_b45_ok {p : Program} {l : Launch} {e : Env} {s : State} {m : MethodId} {args : Array Value} {below : List Frame} {meth : Method} {c : Code} {dC : Nat → ClassId} {dI : Nat → Nat → Nat} {ad : Nat → Nat} {cy : Nat → ClassId} {sz : Nat} (C : Cx p s m args meth c RX11 cX11_settled 3 (some .int) dC dI ad cy sz) {rr : Int32} {ρ : S0}  (σ : S0) (t0 : Int32)  (hf : fX11_settled_b45 σ t0 = some (rr, ρ)) : Gw p l e rm_X11_settled s m args below meth c (MQ below (QcI dC dI ad cy sz rr ρ) args s 0 0 (AW ad sz)) dC dI ad cy 3 sz 0 0 45 [] [.int t0] σ := by
  unfold fX11_settled_b45 at hf
  obtain ⟨r1, σ2, h3, hf⟩ := obp_e hf
  refine g_callSi (As := [.int t0]) (rest := []) C (c_X11_flag l dC dI ad cy t0) h3 hM_X11_191 cal_X11_flag ⟨Nat.zero_le _, Nat.zero_le _⟩ ⟨rfl, rfl⟩ ⟨Nat.le_of_ble_eq_true rfl, Nat.le_of_ble_eq_true rfl⟩ rfl rfl (Nat.le_of_ble_eq_true rfl) dX11_settled_45 ?_
  obtain ⟨rfl, rfl⟩ := os_e hf
  exact g_iret C rfl dX11_settled_48
def fX11_settled_b4 (sf_4 : S0 → Int32 → Int32 → Option (Int32 × S0)) (σ : S0) (x1 : Int32) (x2 : Int32) : Option (Int32 × S0) := if (σ 98 2) ≤ x2 then (if ¬ x1 = 0 then (fX11_settled_b45 σ 0) else (fX11_settled_b45 σ 1)) else (if ¬ x1 = 0 then (fX11_settled_b24 sf_4 σ x2) else (obp (fX11_changes σ x2) (fun r4 σ5 => if r4 = 0 then (fX11_settled_b29 sf_4 σ5 x2 0) else (fX11_settled_b24 sf_4 σ5 x2))))
set_option maxHeartbeats 1000000 in
set_option maxRecDepth 100000 in
theorem fX11_settled_b4_ok {p : Program} {l : Launch} {e : Env} {s : State} {m : MethodId} {args : Array Value} {below : List Frame} {meth : Method} {c : Code} {dC : Nat → ClassId} {dI : Nat → Nat → Nat} {ad : Nat → Nat} {cy : Nat → ClassId} {sz : Nat} (C : Cx p s m args meth c RX11 cX11_settled 3 (some .int) dC dI ad cy sz) {rr : Int32} {ρ : S0} (sf_4 : S0 → Int32 → Int32 → Option (Int32 × S0)) (hs_4 : ∀ (σ : S0) (x1 : Int32) (x2 : Int32) , sf_4 σ x1 x2 = some (rr, ρ) → Gw p l e rm_X11_settled s m args below meth c (MQ below (QcI dC dI ad cy sz rr ρ) args s 0 0 (AW ad sz)) dC dI ad cy 3 sz 0 0 4 [(0, .ref (ad 98)), (1, .int x1), (2, .int x2)] [] σ) (σ : S0) (x1 : Int32) (x2 : Int32)  (hf : fX11_settled_b4 sf_4 σ x1 x2 = some (rr, ρ)) : Gw p l e rm_X11_settled s m args below meth c (MQ below (QcI dC dI ad cy sz rr ρ) args s 0 0 (AW ad sz)) dC dI ad cy 3 sz 0 0 4 [(0, .ref (ad 98)), (1, .int x1), (2, .int x2)] [] σ := by
  unfold fX11_settled_b4 at hf
  refine g_iload_n C dX11_settled_4 rfl 2 rfl ?_
  refine g_aload_n C dX11_settled_5 rfl 0 rfl ?_
  refine g_get C (a_98 ad cy _) rfl hin_X11 2 (by decide) hF_X11_75 rfl rfl dX11_settled_6 ?_
  rcases oi_e hf with ⟨c1, hf⟩ | ⟨c1, hf⟩
  · refine g_icmp_ge_t (tgt := 36) C dX11_settled_9 (by decide) c1 ?_
    refine g_iload_n C dX11_settled_36 rfl 1 rfl ?_
    rcases oi_e hf with ⟨c2, hf⟩ | ⟨c2, hf⟩
    · refine g_if_ne_t (tgt := 44) C dX11_settled_37 (by decide) c2 ?_
      refine g_iconst (v := 0) C dX11_settled_44 (by decide) ?_
      exact g_sub [] rfl (fX11_settled_b45_ok C σ 0 hf)
    · refine g_if_ne_f (tgt := 44) C dX11_settled_37 (by decide) (Decidable.of_not_not c2) ?_
      refine g_iconst (v := 1) C dX11_settled_40 (by decide) ?_
      refine g_goto (tgt := 45) C dX11_settled_41 (by decide) ?_
      exact g_sub [] rfl (fX11_settled_b45_ok C σ 1 hf)
  · refine g_icmp_ge_f (tgt := 36) C dX11_settled_9 (by decide) c1 ?_
    refine g_iload_n C dX11_settled_12 rfl 1 rfl ?_
    rcases oi_e hf with ⟨c3, hf⟩ | ⟨c3, hf⟩
    · refine g_if_ne_t (tgt := 24) C dX11_settled_13 (by decide) c3 ?_
      exact g_sub [0, 2] rfl (fX11_settled_b24_ok C sf_4 hs_4 σ x2 hf)
    · refine g_if_ne_f (tgt := 24) C dX11_settled_13 (by decide) (Decidable.of_not_not c3) ?_
      refine g_aload_n C dX11_settled_16 rfl 0 rfl ?_
      refine g_iload_n C dX11_settled_17 rfl 2 rfl ?_
      obtain ⟨r4, σ5, h6, hf⟩ := obp_e hf
      refine g_callVi (As := [.int x2]) (rest := []) C (a_98 ad cy _) rfl (c_X11_changes l dC dI ad cy x2) h6 hM_X11_253 cal_X11_changes ⟨Nat.zero_le _, Nat.zero_le _⟩ ⟨rfl, rfl⟩ ⟨Nat.le_of_ble_eq_true rfl, Nat.le_of_ble_eq_true rfl⟩ rfl rfl (Nat.le_of_ble_eq_true rfl) dX11_settled_18 ?_
      rcases oi_e hf with ⟨c7, hf⟩ | ⟨c7, hf⟩
      · refine g_if_eq_t (tgt := 28) C dX11_settled_21 (by decide) c7 ?_
        refine g_iconst (v := 0) C dX11_settled_28 (by decide) ?_
        exact g_sub [0, 2] rfl (fX11_settled_b29_ok C sf_4 hs_4 σ5 x2 0 hf)
      · refine g_if_eq_f (tgt := 28) C dX11_settled_21 (by decide) c7 ?_
        exact g_sub [0, 2] rfl (fX11_settled_b24_ok C sf_4 hs_4 σ5 x2 hf)
def fX11_settled_h4  : Nat → S0 → Int32 → Int32 → Option (Int32 × S0)
  | 0 => fun _ _ _ => none
  | n + 1 => fun σ x1 x2 => fX11_settled_b4  (fX11_settled_h4  n) σ x1 x2
set_option maxHeartbeats 1000000 in
set_option maxRecDepth 100000 in
theorem fX11_settled_h4_ok {p : Program} {l : Launch} {e : Env} {s : State} {m : MethodId} {args : Array Value} {below : List Frame} {meth : Method} {c : Code} {dC : Nat → ClassId} {dI : Nat → Nat → Nat} {ad : Nat → Nat} {cy : Nat → ClassId} {sz : Nat} (C : Cx p s m args meth c RX11 cX11_settled 3 (some .int) dC dI ad cy sz) {rr : Int32} {ρ : S0}  : ∀ (n : Nat) (σ : S0) (x1 : Int32) (x2 : Int32)  (_hf : fX11_settled_h4  n σ x1 x2 = some (rr, ρ)), Gw p l e rm_X11_settled s m args below meth c (MQ below (QcI dC dI ad cy sz rr ρ) args s 0 0 (AW ad sz)) dC dI ad cy 3 sz 0 0 4 [(0, .ref (ad 98)), (1, .int x1), (2, .int x2)] [] σ
  | 0, _, _, _, hf => by cases hf
  | n + 1, σ, x1, x2, hf => fX11_settled_b4_ok C  (fX11_settled_h4  n) (fX11_settled_h4_ok C  n) σ x1 x2 hf
def fX11_settled (σ : S0)  : Option (Int32 × S0) := fX11_settled_h4 400 σ 0 0
set_option maxHeartbeats 1000000 in
set_option maxRecDepth 100000 in
theorem fX11_settled_ok {p : Program} {l : Launch} {e : Env} {s : State} {m : MethodId} {args : Array Value} {below : List Frame} {meth : Method} {c : Code} {dC : Nat → ClassId} {dI : Nat → Nat → Nat} {ad : Nat → Nat} {cy : Nat → ClassId} {sz : Nat} (C : Cx p s m args meth c RX11 cX11_settled 3 (some .int) dC dI ad cy sz) {rr : Int32} {ρ : S0} (σ : S0)   (hf : fX11_settled σ = some (rr, ρ)) : Gw p l e rm_X11_settled s m args below meth c (MQ below (QcI dC dI ad cy sz rr ρ) args s 0 0 (AW ad sz)) dC dI ad cy 3 sz 0 0 0 [(0, .ref (ad 98))] [] σ := by
  unfold fX11_settled at hf
  refine g_iconst (v := 0) C dX11_settled_0 (by decide) ?_
  refine g_istore_n (lv2 := [(0, .ref (ad 98)), (1, .int 0)]) C dX11_settled_1 rfl (by decide) [1, 0] rfl ?_
  refine g_iconst (v := 0) C dX11_settled_2 (by decide) ?_
  refine g_istore_n (lv2 := [(0, .ref (ad 98)), (1, .int 0), (2, .int 0)]) C dX11_settled_3 rfl (by decide) [1, 2, 0] rfl ?_
  exact g_sub [0, 1, 2] rfl (fX11_settled_h4_ok C 400 σ 0 0 hf)
theorem c_X11_settled (l : Launch) (dC : Nat → ClassId) (dI : Nat → Nat → Nat) (ad : Nat → Nat) (cy : Nat → ClassId)  : ConI l yX11_settled cX11_settled 3 (some .int) rm_X11_settled dC dI ad cy [.ref (ad 98)] (fun σ => fX11_settled σ) := con_i (own := RX11) (by decide) rfl (Nat.le_of_ble_eq_true rfl) (fun _ _ _ _ _ _ _ _ σ _ _ C hf => fX11_settled_ok C σ  hf)
theorem cal_X11_settled : CalV yX11_settled RX11 cX11_settled 3 (some .int) 0 := ⟨hI_X11_settled, hS_X11_settled, hIni_X11, hC_X11_settled, by decide +kernel⟩
abbrev rm_X11_bitsOf : Room := { frames := 0, cells := 0, slots := 0, locals := 0 }
def fX11_bitsOf_b4 (sf_4 : S0 → Int32 → Int32 → Int32 → Option (Int32 × S0)) (σ : S0) (x0 : Int32) (x1 : Int32) (x2 : Int32) : Option (Int32 × S0) := if (12 : Int32) ≤ x2 then (some (x1, σ)) else (ol (x1 + ((x0 >>> (x2 &&& 31)) &&& 1)) (fun v2 => ol (x2 + 1) (fun v3 => sf_4 σ x0 v2 v3)))
set_option maxHeartbeats 1000000 in
set_option maxRecDepth 100000 in
theorem fX11_bitsOf_b4_ok {p : Program} {l : Launch} {e : Env} {s : State} {m : MethodId} {args : Array Value} {below : List Frame} {meth : Method} {c : Code} {dC : Nat → ClassId} {dI : Nat → Nat → Nat} {ad : Nat → Nat} {cy : Nat → ClassId} {sz : Nat} (C : Cx p s m args meth c RX11 cX11_bitsOf 3 (some .int) dC dI ad cy sz) {rr : Int32} {ρ : S0} (sf_4 : S0 → Int32 → Int32 → Int32 → Option (Int32 × S0)) (hs_4 : ∀ (σ : S0) (x0 : Int32) (x1 : Int32) (x2 : Int32) , sf_4 σ x0 x1 x2 = some (rr, ρ) → Gw p l e rm_X11_bitsOf s m args below meth c (MQ below (QcI dC dI ad cy sz rr ρ) args s 0 0 (AW ad sz)) dC dI ad cy 3 sz 0 0 4 [(0, .int x0), (1, .int x1), (2, .int x2)] [] σ) (σ : S0) (x0 : Int32) (x1 : Int32) (x2 : Int32)  (hf : fX11_bitsOf_b4 sf_4 σ x0 x1 x2 = some (rr, ρ)) : Gw p l e rm_X11_bitsOf s m args below meth c (MQ below (QcI dC dI ad cy sz rr ρ) args s 0 0 (AW ad sz)) dC dI ad cy 3 sz 0 0 4 [(0, .int x0), (1, .int x1), (2, .int x2)] [] σ := by
  unfold fX11_bitsOf_b4 at hf
  refine g_iload_n C dX11_bitsOf_4 rfl 2 rfl ?_
  refine g_bipush (v := 12) C dX11_bitsOf_5 (by decide) ?_
  rcases oi_e hf with ⟨c1, hf⟩ | ⟨c1, hf⟩
  · refine g_icmp_ge_t (tgt := 24) C dX11_bitsOf_7 (by decide) c1 ?_
    refine g_iload_n C dX11_bitsOf_24 rfl 1 rfl ?_
    obtain ⟨rfl, rfl⟩ := os_e hf
    exact g_iret C rfl dX11_bitsOf_25
  · refine g_icmp_ge_f (tgt := 24) C dX11_bitsOf_7 (by decide) c1 ?_
    refine g_iload_n C dX11_bitsOf_10 rfl 1 rfl ?_
    refine g_iload_n C dX11_bitsOf_11 rfl 0 rfl ?_
    refine g_iload_n C dX11_bitsOf_12 rfl 2 rfl ?_
    refine g_ishr C dX11_bitsOf_13 ?_
    refine g_iconst (v := 1) C dX11_bitsOf_14 (by decide) ?_
    refine g_iand C dX11_bitsOf_15 ?_
    refine g_iadd C dX11_bitsOf_16 ?_
    obtain ⟨v2, ev2, hf⟩ := ol_e hf
    refine g_nm ev2 ?_
    refine g_istore_n (lv2 := [(0, .int x0), (1, .int v2), (2, .int x2)]) C dX11_bitsOf_17 rfl (by decide) [1, 0, 2] rfl ?_
    obtain ⟨v3, ev3, hf⟩ := ol_e hf
    refine g_iinc (j := 2) (w := 1) (lv2 := [(0, .int x0), (1, .int v2), (2, .int v3)]) C dX11_bitsOf_18 rfl (by decide) ev3 (by decide) [1, 2, 0] rfl ?_
    refine g_goto (tgt := 4) C dX11_bitsOf_21 (by decide) ?_
    exact g_sub [0, 1, 2] rfl (hs_4 σ x0 v2 v3 hf)
def fX11_bitsOf_h4  : Nat → S0 → Int32 → Int32 → Int32 → Option (Int32 × S0)
  | 0 => fun _ _ _ _ => none
  | n + 1 => fun σ x0 x1 x2 => fX11_bitsOf_b4  (fX11_bitsOf_h4  n) σ x0 x1 x2
set_option maxHeartbeats 1000000 in
set_option maxRecDepth 100000 in
theorem fX11_bitsOf_h4_ok {p : Program} {l : Launch} {e : Env} {s : State} {m : MethodId} {args : Array Value} {below : List Frame} {meth : Method} {c : Code} {dC : Nat → ClassId} {dI : Nat → Nat → Nat} {ad : Nat → Nat} {cy : Nat → ClassId} {sz : Nat} (C : Cx p s m args meth c RX11 cX11_bitsOf 3 (some .int) dC dI ad cy sz) {rr : Int32} {ρ : S0}  : ∀ (n : Nat) (σ : S0) (x0 : Int32) (x1 : Int32) (x2 : Int32)  (_hf : fX11_bitsOf_h4  n σ x0 x1 x2 = some (rr, ρ)), Gw p l e rm_X11_bitsOf s m args below meth c (MQ below (QcI dC dI ad cy sz rr ρ) args s 0 0 (AW ad sz)) dC dI ad cy 3 sz 0 0 4 [(0, .int x0), (1, .int x1), (2, .int x2)] [] σ
  | 0, _, _, _, _, hf => by cases hf
  | n + 1, σ, x0, x1, x2, hf => fX11_bitsOf_b4_ok C  (fX11_bitsOf_h4  n) (fX11_bitsOf_h4_ok C  n) σ x0 x1 x2 hf
def fX11_bitsOf (σ : S0) (x0 : Int32) : Option (Int32 × S0) := fX11_bitsOf_h4 400 σ x0 0 0
set_option maxHeartbeats 1000000 in
set_option maxRecDepth 100000 in
theorem fX11_bitsOf_ok {p : Program} {l : Launch} {e : Env} {s : State} {m : MethodId} {args : Array Value} {below : List Frame} {meth : Method} {c : Code} {dC : Nat → ClassId} {dI : Nat → Nat → Nat} {ad : Nat → Nat} {cy : Nat → ClassId} {sz : Nat} (C : Cx p s m args meth c RX11 cX11_bitsOf 3 (some .int) dC dI ad cy sz) {rr : Int32} {ρ : S0} (σ : S0) (x0 : Int32)  (hf : fX11_bitsOf σ x0 = some (rr, ρ)) : Gw p l e rm_X11_bitsOf s m args below meth c (MQ below (QcI dC dI ad cy sz rr ρ) args s 0 0 (AW ad sz)) dC dI ad cy 3 sz 0 0 0 [(0, .int x0)] [] σ := by
  unfold fX11_bitsOf at hf
  refine g_iconst (v := 0) C dX11_bitsOf_0 (by decide) ?_
  refine g_istore_n (lv2 := [(0, .int x0), (1, .int 0)]) C dX11_bitsOf_1 rfl (by decide) [1, 0] rfl ?_
  refine g_iconst (v := 0) C dX11_bitsOf_2 (by decide) ?_
  refine g_istore_n (lv2 := [(0, .int x0), (1, .int 0), (2, .int 0)]) C dX11_bitsOf_3 rfl (by decide) [1, 2, 0] rfl ?_
  exact g_sub [0, 1, 2] rfl (fX11_bitsOf_h4_ok C 400 σ x0 0 0 hf)
theorem c_X11_bitsOf (l : Launch) (dC : Nat → ClassId) (dI : Nat → Nat → Nat) (ad : Nat → Nat) (cy : Nat → ClassId) (x0 : Int32) : ConI l yX11_bitsOf cX11_bitsOf 3 (some .int) rm_X11_bitsOf dC dI ad cy [.int x0] (fun σ => fX11_bitsOf σ x0) := con_i (own := RX11) (by decide) rfl (Nat.le_of_ble_eq_true rfl) (fun _ _ _ _ _ _ _ _ σ _ _ C hf => fX11_bitsOf_ok C σ x0 hf)
theorem cal_X11_bitsOf : CalS yX11_bitsOf cX11_bitsOf 3 (some .int) 1 := ⟨hSt_X11_bitsOf, hIni_X11, hC_X11_bitsOf, by decide +kernel⟩
abbrev rm_X11_isFair : Room := { frames := 2, cells := 0, slots := 0, locals := 47 }
def fX11_isFair_b46 (sf_11 : S0 → Int32 → Int32 → Int32 → Option (Int32 × S0)) (σ : S0) (x1 : Int32) (x2 : Int32) (x3 : Int32) : Option (Int32 × S0) := ol (x3 + 1) (fun v1 => sf_11 σ x1 x2 v1)
set_option maxHeartbeats 1000000 in
set_option maxRecDepth 100000 in
theorem fX11_isFair_b46_ok {p : Program} {l : Launch} {e : Env} {s : State} {m : MethodId} {args : Array Value} {below : List Frame} {meth : Method} {c : Code} {dC : Nat → ClassId} {dI : Nat → Nat → Nat} {ad : Nat → Nat} {cy : Nat → ClassId} {sz : Nat} (C : Cx p s m args meth c RX11 cX11_isFair 5 (some .boolean) dC dI ad cy sz) {rr : Int32} {ρ : S0} (sf_11 : S0 → Int32 → Int32 → Int32 → Option (Int32 × S0)) (hs_11 : ∀ (σ : S0) (x1 : Int32) (x2 : Int32) (x3 : Int32) , sf_11 σ x1 x2 x3 = some (rr, ρ) → Gw p l e rm_X11_isFair s m args below meth c (MQ below (QcI dC dI ad cy sz rr ρ) args s 0 0 (AW ad sz)) dC dI ad cy 5 sz 0 0 11 [(0, .ref (ad 98)), (1, .int x1), (2, .int x2), (3, .int x3)] [] σ) (σ : S0) (x1 : Int32) (x2 : Int32) (x3 : Int32)  (hf : fX11_isFair_b46 sf_11 σ x1 x2 x3 = some (rr, ρ)) : Gw p l e rm_X11_isFair s m args below meth c (MQ below (QcI dC dI ad cy sz rr ρ) args s 0 0 (AW ad sz)) dC dI ad cy 5 sz 0 0 46 [(0, .ref (ad 98)), (1, .int x1), (2, .int x2), (3, .int x3)] [] σ := by
  unfold fX11_isFair_b46 at hf
  obtain ⟨v1, ev1, hf⟩ := ol_e hf
  refine g_iinc (j := 3) (w := 1) (lv2 := [(0, .ref (ad 98)), (1, .int x1), (2, .int x2), (3, .int v1)]) C dX11_isFair_46 rfl (by decide) ev1 (by decide) [1, 2, 3, 0] rfl ?_
  refine g_goto (tgt := 11) C dX11_isFair_49 (by decide) ?_
  exact g_sub [0, 1, 2, 3] rfl (hs_11 σ x1 x2 v1 hf)
def fX11_isFair_b86 (sf_57 : S0 → Int32 → Int32 → Int32 → Option (Int32 × S0)) (σ : S0) (x2 : Int32) (x4 : Int32) (t0 : Int32) : Option (Int32 × S0) := ol (x4 + 1) (fun v1 => sf_57 σ x2 t0 v1)
set_option maxHeartbeats 1000000 in
set_option maxRecDepth 100000 in
theorem fX11_isFair_b86_ok {p : Program} {l : Launch} {e : Env} {s : State} {m : MethodId} {args : Array Value} {below : List Frame} {meth : Method} {c : Code} {dC : Nat → ClassId} {dI : Nat → Nat → Nat} {ad : Nat → Nat} {cy : Nat → ClassId} {sz : Nat} (C : Cx p s m args meth c RX11 cX11_isFair 5 (some .boolean) dC dI ad cy sz) {rr : Int32} {ρ : S0} (sf_57 : S0 → Int32 → Int32 → Int32 → Option (Int32 × S0)) (hs_57 : ∀ (σ : S0) (x2 : Int32) (x3 : Int32) (x4 : Int32) , sf_57 σ x2 x3 x4 = some (rr, ρ) → Gw p l e rm_X11_isFair s m args below meth c (MQ below (QcI dC dI ad cy sz rr ρ) args s 0 0 (AW ad sz)) dC dI ad cy 5 sz 0 0 57 [(0, .ref (ad 98)), (2, .int x2), (3, .int x3), (4, .int x4)] [] σ) (σ : S0) (x2 : Int32) (x4 : Int32) (t0 : Int32)  (hf : fX11_isFair_b86 sf_57 σ x2 x4 t0 = some (rr, ρ)) : Gw p l e rm_X11_isFair s m args below meth c (MQ below (QcI dC dI ad cy sz rr ρ) args s 0 0 (AW ad sz)) dC dI ad cy 5 sz 0 0 86 [(0, .ref (ad 98)), (2, .int x2), (4, .int x4)] [.int t0] σ := by
  unfold fX11_isFair_b86 at hf
  refine g_istore_n (lv2 := [(0, .ref (ad 98)), (2, .int x2), (3, .int t0), (4, .int x4)]) C dX11_isFair_86 rfl (by decide) [1, 2, 0, 3] rfl ?_
  obtain ⟨v1, ev1, hf⟩ := ol_e hf
  refine g_iinc (j := 3) (w := 1) (lv2 := [(0, .ref (ad 98)), (2, .int x2), (3, .int t0), (4, .int v1)]) C dX11_isFair_87 rfl (by decide) ev1 (by decide) [1, 2, 3, 0] rfl ?_
  refine g_goto (tgt := 57) C dX11_isFair_90 (by decide) ?_
  exact g_sub [0, 1, 2, 3] rfl (hs_57 σ x2 t0 v1 hf)
def fX11_isFair_b85 (sf_57 : S0 → Int32 → Int32 → Int32 → Option (Int32 × S0)) (σ : S0) (x2 : Int32) (x4 : Int32) : Option (Int32 × S0) := fX11_isFair_b86 sf_57 σ x2 x4 0
set_option maxHeartbeats 1000000 in
set_option maxRecDepth 100000 in
theorem fX11_isFair_b85_ok {p : Program} {l : Launch} {e : Env} {s : State} {m : MethodId} {args : Array Value} {below : List Frame} {meth : Method} {c : Code} {dC : Nat → ClassId} {dI : Nat → Nat → Nat} {ad : Nat → Nat} {cy : Nat → ClassId} {sz : Nat} (C : Cx p s m args meth c RX11 cX11_isFair 5 (some .boolean) dC dI ad cy sz) {rr : Int32} {ρ : S0} (sf_57 : S0 → Int32 → Int32 → Int32 → Option (Int32 × S0)) (hs_57 : ∀ (σ : S0) (x2 : Int32) (x3 : Int32) (x4 : Int32) , sf_57 σ x2 x3 x4 = some (rr, ρ) → Gw p l e rm_X11_isFair s m args below meth c (MQ below (QcI dC dI ad cy sz rr ρ) args s 0 0 (AW ad sz)) dC dI ad cy 5 sz 0 0 57 [(0, .ref (ad 98)), (2, .int x2), (3, .int x3), (4, .int x4)] [] σ) (σ : S0) (x2 : Int32) (x4 : Int32)  (hf : fX11_isFair_b85 sf_57 σ x2 x4 = some (rr, ρ)) : Gw p l e rm_X11_isFair s m args below meth c (MQ below (QcI dC dI ad cy sz rr ρ) args s 0 0 (AW ad sz)) dC dI ad cy 5 sz 0 0 85 [(0, .ref (ad 98)), (2, .int x2), (4, .int x4)] [] σ := by
  unfold fX11_isFair_b85 at hf
  refine g_iconst (v := 0) C dX11_isFair_85 (by decide) ?_
  exact g_sub [0, 1, 2] rfl (fX11_isFair_b86_ok C sf_57 hs_57 σ x2 x4 0 hf)
def fX11_isFair_b57 (sf_57 : S0 → Int32 → Int32 → Int32 → Option (Int32 × S0)) (σ : S0) (x2 : Int32) (x3 : Int32) (x4 : Int32) : Option (Int32 × S0) := if (σ 98 2) ≤ x4 then (og (x3 = 0 ∨ x3 = 1) (some (x3, σ))) else (if x3 = 0 then (fX11_isFair_b85 sf_57 σ x2 x4) else (og (¬ (x4 < 0 ∨ 6 ≤ x4.toNatClampNeg)) (ol (σ 105 x4.toNatClampNeg) (fun v5 => if x2 < v5 then (fX11_isFair_b85 sf_57 σ x2 x4) else (fX11_isFair_b86 sf_57 σ x2 x4 1)))))
set_option maxHeartbeats 1000000 in
set_option maxRecDepth 100000 in
theorem fX11_isFair_b57_ok {p : Program} {l : Launch} {e : Env} {s : State} {m : MethodId} {args : Array Value} {below : List Frame} {meth : Method} {c : Code} {dC : Nat → ClassId} {dI : Nat → Nat → Nat} {ad : Nat → Nat} {cy : Nat → ClassId} {sz : Nat} (C : Cx p s m args meth c RX11 cX11_isFair 5 (some .boolean) dC dI ad cy sz) {rr : Int32} {ρ : S0} (sf_57 : S0 → Int32 → Int32 → Int32 → Option (Int32 × S0)) (hs_57 : ∀ (σ : S0) (x2 : Int32) (x3 : Int32) (x4 : Int32) , sf_57 σ x2 x3 x4 = some (rr, ρ) → Gw p l e rm_X11_isFair s m args below meth c (MQ below (QcI dC dI ad cy sz rr ρ) args s 0 0 (AW ad sz)) dC dI ad cy 5 sz 0 0 57 [(0, .ref (ad 98)), (2, .int x2), (3, .int x3), (4, .int x4)] [] σ) (σ : S0) (x2 : Int32) (x3 : Int32) (x4 : Int32)  (hf : fX11_isFair_b57 sf_57 σ x2 x3 x4 = some (rr, ρ)) : Gw p l e rm_X11_isFair s m args below meth c (MQ below (QcI dC dI ad cy sz rr ρ) args s 0 0 (AW ad sz)) dC dI ad cy 5 sz 0 0 57 [(0, .ref (ad 98)), (2, .int x2), (3, .int x3), (4, .int x4)] [] σ := by
  unfold fX11_isFair_b57 at hf
  refine g_iload C dX11_isFair_57 3 rfl ?_
  refine g_aload_n C dX11_isFair_59 rfl 0 rfl ?_
  refine g_get C (a_98 ad cy _) rfl hin_X11 2 (by decide) hF_X11_75 rfl rfl dX11_isFair_60 ?_
  rcases oi_e hf with ⟨c1, hf⟩ | ⟨c1, hf⟩
  · refine g_icmp_ge_t (tgt := 93) C dX11_isFair_63 (by decide) c1 ?_
    refine g_iload_n C dX11_isFair_93 rfl 2 rfl ?_
    obtain ⟨h2, hf⟩ := og_e hf
    obtain ⟨rfl, rfl⟩ := os_e hf
    exact g_zret C rfl (zb_ok h2) dX11_isFair_94
  · refine g_icmp_ge_f (tgt := 93) C dX11_isFair_63 (by decide) c1 ?_
    refine g_iload_n C dX11_isFair_66 rfl 2 rfl ?_
    rcases oi_e hf with ⟨c3, hf⟩ | ⟨c3, hf⟩
    · refine g_if_eq_t (tgt := 85) C dX11_isFair_67 (by decide) c3 ?_
      exact g_sub [0, 1, 3] rfl (fX11_isFair_b85_ok C sf_57 hs_57 σ x2 x4 hf)
    · refine g_if_eq_f (tgt := 85) C dX11_isFair_67 (by decide) c3 ?_
      refine g_aload_n C dX11_isFair_70 rfl 0 rfl ?_
      refine g_get C (a_98 ad cy _) rfl hin_X11 28 (by decide) hF_X11_29 rfl rfl dX11_isFair_71 ?_
      refine g_iload C dX11_isFair_74 3 rfl ?_
      obtain ⟨h4, hf⟩ := og_e hf
      refine g_iald C (a_105 ad cy _) h4 dX11_isFair_76 ?_
      obtain ⟨v5, ev5, hf⟩ := ol_e hf
      refine g_nm ev5 ?_
      refine g_iload_n C dX11_isFair_77 rfl 1 rfl ?_
      rcases oi_e hf with ⟨c6, hf⟩ | ⟨c6, hf⟩
      · refine g_icmp_gt_t (tgt := 85) C dX11_isFair_78 (by decide) c6 ?_
        exact g_sub [0, 1, 3] rfl (fX11_isFair_b85_ok C sf_57 hs_57 σ x2 x4 hf)
      · refine g_icmp_gt_f (tgt := 85) C dX11_isFair_78 (by decide) c6 ?_
        refine g_iconst (v := 1) C dX11_isFair_81 (by decide) ?_
        refine g_goto (tgt := 86) C dX11_isFair_82 (by decide) ?_
        exact g_sub [0, 1, 3] rfl (fX11_isFair_b86_ok C sf_57 hs_57 σ x2 x4 1 hf)
def fX11_isFair_h57  : Nat → S0 → Int32 → Int32 → Int32 → Option (Int32 × S0)
  | 0 => fun _ _ _ _ => none
  | n + 1 => fun σ x2 x3 x4 => fX11_isFair_b57  (fX11_isFair_h57  n) σ x2 x3 x4
set_option maxHeartbeats 1000000 in
set_option maxRecDepth 100000 in
theorem fX11_isFair_h57_ok {p : Program} {l : Launch} {e : Env} {s : State} {m : MethodId} {args : Array Value} {below : List Frame} {meth : Method} {c : Code} {dC : Nat → ClassId} {dI : Nat → Nat → Nat} {ad : Nat → Nat} {cy : Nat → ClassId} {sz : Nat} (C : Cx p s m args meth c RX11 cX11_isFair 5 (some .boolean) dC dI ad cy sz) {rr : Int32} {ρ : S0}  : ∀ (n : Nat) (σ : S0) (x2 : Int32) (x3 : Int32) (x4 : Int32)  (_hf : fX11_isFair_h57  n σ x2 x3 x4 = some (rr, ρ)), Gw p l e rm_X11_isFair s m args below meth c (MQ below (QcI dC dI ad cy sz rr ρ) args s 0 0 (AW ad sz)) dC dI ad cy 5 sz 0 0 57 [(0, .ref (ad 98)), (2, .int x2), (3, .int x3), (4, .int x4)] [] σ
  | 0, _, _, _, _, hf => by cases hf
  | n + 1, σ, x2, x3, x4, hf => fX11_isFair_b57_ok C  (fX11_isFair_h57  n) (fX11_isFair_h57_ok C  n) σ x2 x3 x4 hf
def fX11_isFair_b11 (sf_11 : S0 → Int32 → Int32 → Int32 → Option (Int32 × S0)) (σ : S0) (x1 : Int32) (x2 : Int32) (x3 : Int32) : Option (Int32 × S0) := if (σ 98 5) ≤ x3 then (fX11_isFair_h57 400 σ x2 1 0) else (if ¬ ((x1 >>> (x3 &&& 31)) &&& 1) = 1 then (fX11_isFair_b46 sf_11 σ x1 x2 x3) else (obp (fX11_rings σ x3) (fun r3 σ4 => ol ((σ4 98 32) + (σ4 98 24)) (fun v6 => ol (su σ4 98 32 v6) (fun σ7 => fX11_isFair_b46 sf_11 σ7 x1 x2 x3)))))
set_option maxHeartbeats 1000000 in
set_option maxRecDepth 100000 in
theorem fX11_isFair_b11_ok {p : Program} {l : Launch} {e : Env} {s : State} {m : MethodId} {args : Array Value} {below : List Frame} {meth : Method} {c : Code} {dC : Nat → ClassId} {dI : Nat → Nat → Nat} {ad : Nat → Nat} {cy : Nat → ClassId} {sz : Nat} (C : Cx p s m args meth c RX11 cX11_isFair 5 (some .boolean) dC dI ad cy sz) {rr : Int32} {ρ : S0} (sf_11 : S0 → Int32 → Int32 → Int32 → Option (Int32 × S0)) (hs_11 : ∀ (σ : S0) (x1 : Int32) (x2 : Int32) (x3 : Int32) , sf_11 σ x1 x2 x3 = some (rr, ρ) → Gw p l e rm_X11_isFair s m args below meth c (MQ below (QcI dC dI ad cy sz rr ρ) args s 0 0 (AW ad sz)) dC dI ad cy 5 sz 0 0 11 [(0, .ref (ad 98)), (1, .int x1), (2, .int x2), (3, .int x3)] [] σ) (σ : S0) (x1 : Int32) (x2 : Int32) (x3 : Int32)  (hf : fX11_isFair_b11 sf_11 σ x1 x2 x3 = some (rr, ρ)) : Gw p l e rm_X11_isFair s m args below meth c (MQ below (QcI dC dI ad cy sz rr ρ) args s 0 0 (AW ad sz)) dC dI ad cy 5 sz 0 0 11 [(0, .ref (ad 98)), (1, .int x1), (2, .int x2), (3, .int x3)] [] σ := by
  unfold fX11_isFair_b11 at hf
  refine g_iload_n C dX11_isFair_11 rfl 3 rfl ?_
  refine g_aload_n C dX11_isFair_12 rfl 0 rfl ?_
  refine g_get C (a_98 ad cy _) rfl hin_X11 5 (by decide) hF_X11_84 rfl rfl dX11_isFair_13 ?_
  rcases oi_e hf with ⟨c1, hf⟩ | ⟨c1, hf⟩
  · refine g_icmp_ge_t (tgt := 52) C dX11_isFair_16 (by decide) c1 ?_
    refine g_iconst (v := 1) C dX11_isFair_52 (by decide) ?_
    refine g_istore_n (lv2 := [(0, .ref (ad 98)), (1, .int x1), (2, .int x2), (3, .int 1)]) C dX11_isFair_53 rfl (by decide) [1, 2, 3, 0] rfl ?_
    refine g_iconst (v := 0) C dX11_isFair_54 (by decide) ?_
    refine g_istore (lv2 := [(0, .ref (ad 98)), (1, .int x1), (2, .int x2), (3, .int 1), (4, .int 0)]) C dX11_isFair_55 (by decide) [1, 2, 3, 4, 0] rfl ?_
    exact g_sub [0, 2, 3, 4] rfl (fX11_isFair_h57_ok C 400 σ x2 1 0 hf)
  · refine g_icmp_ge_f (tgt := 52) C dX11_isFair_16 (by decide) c1 ?_
    refine g_iload_n C dX11_isFair_19 rfl 1 rfl ?_
    refine g_iload_n C dX11_isFair_20 rfl 3 rfl ?_
    refine g_ishr C dX11_isFair_21 ?_
    refine g_iconst (v := 1) C dX11_isFair_22 (by decide) ?_
    refine g_iand C dX11_isFair_23 ?_
    refine g_iconst (v := 1) C dX11_isFair_24 (by decide) ?_
    rcases oi_e hf with ⟨c2, hf⟩ | ⟨c2, hf⟩
    · refine g_icmp_ne_t (tgt := 46) C dX11_isFair_25 (by decide) c2 ?_
      exact g_sub [0, 1, 2, 3] rfl (fX11_isFair_b46_ok C sf_11 hs_11 σ x1 x2 x3 hf)
    · refine g_icmp_ne_f (tgt := 46) C dX11_isFair_25 (by decide) (Decidable.of_not_not c2) ?_
      refine g_aload_n C dX11_isFair_28 rfl 0 rfl ?_
      refine g_iload_n C dX11_isFair_29 rfl 3 rfl ?_
      obtain ⟨r3, σ4, h5, hf⟩ := obp_e hf
      refine g_callVv (As := [.int x3]) (rest := []) C (a_98 ad cy _) rfl (c_X11_rings l dC dI ad cy x3) h5 hM_X11_216 cal_X11_rings ⟨Nat.zero_le _, Nat.zero_le _⟩ ⟨rfl, rfl⟩ ⟨Nat.le_of_ble_eq_true rfl, Nat.le_of_ble_eq_true rfl⟩ rfl rfl (Nat.le_of_ble_eq_true rfl) dX11_isFair_30 ?_
      refine g_aload_n C dX11_isFair_33 rfl 0 rfl ?_
      refine g_dup C dX11_isFair_34 rfl ?_
      refine g_get C (a_98 ad cy _) rfl hin_X11 32 (by decide) hF_X11_259 rfl rfl dX11_isFair_35 ?_
      refine g_aload_n C dX11_isFair_38 rfl 0 rfl ?_
      refine g_get C (a_98 ad cy _) rfl hin_X11 24 (by decide) hF_X11_204 rfl rfl dX11_isFair_39 ?_
      refine g_iadd C dX11_isFair_42 ?_
      obtain ⟨v6, ev6, hf⟩ := ol_e hf
      refine g_nm ev6 ?_
      obtain ⟨σ7, eσ7, hf⟩ := ol_e hf
      refine g_put (ty := .int) C (a_98 ad cy _) rfl hin_X11 tyX11 tyX11_ok nmX11 32 (by decide) hF_X11_259 rfl rfl (by decide +kernel) rfl rfl (Nat.le_of_ble_eq_true rfl) (p_98_32 ad cy _ _) eσ7 dX11_isFair_43 ?_
      exact g_sub [0, 1, 2, 3] rfl (fX11_isFair_b46_ok C sf_11 hs_11 σ7 x1 x2 x3 hf)
def fX11_isFair_h11  : Nat → S0 → Int32 → Int32 → Int32 → Option (Int32 × S0)
  | 0 => fun _ _ _ _ => none
  | n + 1 => fun σ x1 x2 x3 => fX11_isFair_b11  (fX11_isFair_h11  n) σ x1 x2 x3
set_option maxHeartbeats 1000000 in
set_option maxRecDepth 100000 in
theorem fX11_isFair_h11_ok {p : Program} {l : Launch} {e : Env} {s : State} {m : MethodId} {args : Array Value} {below : List Frame} {meth : Method} {c : Code} {dC : Nat → ClassId} {dI : Nat → Nat → Nat} {ad : Nat → Nat} {cy : Nat → ClassId} {sz : Nat} (C : Cx p s m args meth c RX11 cX11_isFair 5 (some .boolean) dC dI ad cy sz) {rr : Int32} {ρ : S0}  : ∀ (n : Nat) (σ : S0) (x1 : Int32) (x2 : Int32) (x3 : Int32)  (_hf : fX11_isFair_h11  n σ x1 x2 x3 = some (rr, ρ)), Gw p l e rm_X11_isFair s m args below meth c (MQ below (QcI dC dI ad cy sz rr ρ) args s 0 0 (AW ad sz)) dC dI ad cy 5 sz 0 0 11 [(0, .ref (ad 98)), (1, .int x1), (2, .int x2), (3, .int x3)] [] σ
  | 0, _, _, _, _, hf => by cases hf
  | n + 1, σ, x1, x2, x3, hf => fX11_isFair_b11_ok C  (fX11_isFair_h11  n) (fX11_isFair_h11_ok C  n) σ x1 x2 x3 hf
def fX11_isFair (σ : S0) (x1 : Int32) (x2 : Int32) : Option (Int32 × S0) := obp (fX11_noRung σ) (fun r1 σ2 => ol (su σ2 98 32 0) (fun σ4 => fX11_isFair_h11 400 σ4 x1 x2 0))
set_option maxHeartbeats 1000000 in
set_option maxRecDepth 100000 in
theorem fX11_isFair_ok {p : Program} {l : Launch} {e : Env} {s : State} {m : MethodId} {args : Array Value} {below : List Frame} {meth : Method} {c : Code} {dC : Nat → ClassId} {dI : Nat → Nat → Nat} {ad : Nat → Nat} {cy : Nat → ClassId} {sz : Nat} (C : Cx p s m args meth c RX11 cX11_isFair 5 (some .boolean) dC dI ad cy sz) {rr : Int32} {ρ : S0} (σ : S0) (x1 : Int32) (x2 : Int32)  (hf : fX11_isFair σ x1 x2 = some (rr, ρ)) : Gw p l e rm_X11_isFair s m args below meth c (MQ below (QcI dC dI ad cy sz rr ρ) args s 0 0 (AW ad sz)) dC dI ad cy 5 sz 0 0 0 [(0, .ref (ad 98)), (1, .int x1), (2, .int x2)] [] σ := by
  unfold fX11_isFair at hf
  refine g_aload_n C dX11_isFair_0 rfl 0 rfl ?_
  obtain ⟨r1, σ2, h3, hf⟩ := obp_e hf
  refine g_callVv (As := []) (rest := []) C (a_98 ad cy _) rfl (c_X11_noRung l dC dI ad cy ) h3 hM_X11_256 cal_X11_noRung ⟨Nat.zero_le _, Nat.zero_le _⟩ ⟨rfl, rfl⟩ ⟨Nat.le_of_ble_eq_true rfl, Nat.le_of_ble_eq_true rfl⟩ rfl rfl (Nat.le_of_ble_eq_true rfl) dX11_isFair_1 ?_
  refine g_aload_n C dX11_isFair_4 rfl 0 rfl ?_
  refine g_iconst (v := 0) C dX11_isFair_5 (by decide) ?_
  obtain ⟨σ4, eσ4, hf⟩ := ol_e hf
  refine g_put (ty := .int) C (a_98 ad cy _) rfl hin_X11 tyX11 tyX11_ok nmX11 32 (by decide) hF_X11_259 rfl rfl (by decide +kernel) rfl rfl (Nat.le_of_ble_eq_true rfl) (p_98_32 ad cy _ _) eσ4 dX11_isFair_6 ?_
  refine g_iconst (v := 0) C dX11_isFair_9 (by decide) ?_
  refine g_istore_n (lv2 := [(0, .ref (ad 98)), (1, .int x1), (2, .int x2), (3, .int 0)]) C dX11_isFair_10 rfl (by decide) [1, 2, 3, 0] rfl ?_
  exact g_sub [0, 1, 2, 3] rfl (fX11_isFair_h11_ok C 400 σ4 x1 x2 0 hf)
theorem c_X11_isFair (l : Launch) (dC : Nat → ClassId) (dI : Nat → Nat → Nat) (ad : Nat → Nat) (cy : Nat → ClassId) (x1 : Int32) (x2 : Int32) : ConI l yX11_isFair cX11_isFair 5 (some .boolean) rm_X11_isFair dC dI ad cy [.ref (ad 98), .int x1, .int x2] (fun σ => fX11_isFair σ x1 x2) := con_i (own := RX11) (by decide) rfl (Nat.le_of_ble_eq_true rfl) (fun _ _ _ _ _ _ _ _ σ _ _ C hf => fX11_isFair_ok C σ x1 x2 hf)
theorem cal_X11_isFair : CalV yX11_isFair RX11 cX11_isFair 5 (some .boolean) 2 := ⟨hI_X11_isFair, hS_X11_isFair, hIni_X11, hC_X11_isFair, by decide +kernel⟩
end
