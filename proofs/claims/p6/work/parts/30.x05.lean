abbrev rm_X10_feuding : Room := { frames := 1, cells := 0, slots := 0, locals := 23 }
def fX10_feuding_b82 (sf_7 : S0 → Int32 → Int32 → Int32 → Option (Int32 × S0)) (sf_22 : S0 → Int32 → Int32 → Int32 → Int32 → Option (Int32 × S0)) (σ : S0) (x2 : Int32) (x4 : Int32) (x5 : Int32) (t0 : Int32) (t1 : Int32) : Option (Int32 × S0) := ol (t1 + t0) (fun v1 => ol (x5 + 1) (fun v2 => sf_22 σ x2 v1 x4 v2))
set_option maxHeartbeats 1000000 in
set_option maxRecDepth 100000 in
theorem fX10_feuding_b82_ok {p : Program} {l : Launch} {e : Env} {s : State} {m : MethodId} {args : Array Value} {below : List Frame} {meth : Method} {c : Code} {dC : Nat → ClassId} {dI : Nat → Nat → Nat} {ad : Nat → Nat} {cy : Nat → ClassId} {sz : Nat} (C : Cx p s m args meth c RX10 cX10_feuding 7 (some .int) dC dI ad cy sz) {rr : Int32} {ρ : S0} (sf_7 : S0 → Int32 → Int32 → Int32 → Option (Int32 × S0)) (hs_7 : ∀ (σ : S0) (x2 : Int32) (x3 : Int32) (x4 : Int32) , sf_7 σ x2 x3 x4 = some (rr, ρ) → Gw p l e rm_X10_feuding s m args below meth c (MQ below (QcI dC dI ad cy sz rr ρ) args s 0 0 (AW ad sz)) dC dI ad cy 7 sz 0 0 7 [(0, .ref (ad 0)), (2, .int x2), (3, .int x3), (4, .int x4)] [] σ) (sf_22 : S0 → Int32 → Int32 → Int32 → Int32 → Option (Int32 × S0)) (hs_22 : ∀ (σ : S0) (x2 : Int32) (x3 : Int32) (x4 : Int32) (x5 : Int32) , sf_22 σ x2 x3 x4 x5 = some (rr, ρ) → Gw p l e rm_X10_feuding s m args below meth c (MQ below (QcI dC dI ad cy sz rr ρ) args s 0 0 (AW ad sz)) dC dI ad cy 7 sz 0 0 22 [(0, .ref (ad 0)), (2, .int x2), (3, .int x3), (4, .int x4), (5, .int x5)] [] σ) (σ : S0) (x2 : Int32) (x4 : Int32) (x5 : Int32) (t0 : Int32) (t1 : Int32)  (hf : fX10_feuding_b82 sf_7 sf_22 σ x2 x4 x5 t0 t1 = some (rr, ρ)) : Gw p l e rm_X10_feuding s m args below meth c (MQ below (QcI dC dI ad cy sz rr ρ) args s 0 0 (AW ad sz)) dC dI ad cy 7 sz 0 0 82 [(0, .ref (ad 0)), (2, .int x2), (4, .int x4), (5, .int x5)] [.int t0, .int t1] σ := by
  unfold fX10_feuding_b82 at hf
  refine g_iadd C dX10_feuding_82 ?_
  obtain ⟨v1, ev1, hf⟩ := ol_e hf
  refine g_nm ev1 ?_
  refine g_istore_n (lv2 := [(0, .ref (ad 0)), (2, .int x2), (3, .int v1), (4, .int x4), (5, .int x5)]) C dX10_feuding_83 rfl (by decide) [1, 2, 0, 3, 4] rfl ?_
  obtain ⟨v2, ev2, hf⟩ := ol_e hf
  refine g_iinc (j := 4) (w := 1) (lv2 := [(0, .ref (ad 0)), (2, .int x2), (3, .int v1), (4, .int x4), (5, .int v2)]) C dX10_feuding_84 rfl (by decide) ev2 (by decide) [1, 2, 3, 4, 0] rfl ?_
  refine g_goto (tgt := 22) C dX10_feuding_87 (by decide) ?_
  exact g_sub [0, 1, 2, 3, 4] rfl (hs_22 σ x2 v1 x4 v2 hf)
def fX10_feuding_b56 (sf_7 : S0 → Int32 → Int32 → Int32 → Option (Int32 × S0)) (sf_22 : S0 → Int32 → Int32 → Int32 → Int32 → Option (Int32 × S0)) (σ : S0) (x2 : Int32) (x3 : Int32) (x4 : Int32) (x5 : Int32) (t0 : Int32) : Option (Int32 × S0) := obp (fX1_setFoes σ 32 x4 x5 t0) (fun r1 σ2 => if t0 = 0 then (fX10_feuding_b82 sf_7 sf_22 σ2 x2 x4 x5 0 x3) else (fX10_feuding_b82 sf_7 sf_22 σ2 x2 x4 x5 1 x3))
set_option maxHeartbeats 1000000 in
set_option maxRecDepth 100000 in
theorem fX10_feuding_b56_ok {p : Program} {l : Launch} {e : Env} {s : State} {m : MethodId} {args : Array Value} {below : List Frame} {meth : Method} {c : Code} {dC : Nat → ClassId} {dI : Nat → Nat → Nat} {ad : Nat → Nat} {cy : Nat → ClassId} {sz : Nat} (C : Cx p s m args meth c RX10 cX10_feuding 7 (some .int) dC dI ad cy sz) {rr : Int32} {ρ : S0} (sf_7 : S0 → Int32 → Int32 → Int32 → Option (Int32 × S0)) (hs_7 : ∀ (σ : S0) (x2 : Int32) (x3 : Int32) (x4 : Int32) , sf_7 σ x2 x3 x4 = some (rr, ρ) → Gw p l e rm_X10_feuding s m args below meth c (MQ below (QcI dC dI ad cy sz rr ρ) args s 0 0 (AW ad sz)) dC dI ad cy 7 sz 0 0 7 [(0, .ref (ad 0)), (2, .int x2), (3, .int x3), (4, .int x4)] [] σ) (sf_22 : S0 → Int32 → Int32 → Int32 → Int32 → Option (Int32 × S0)) (hs_22 : ∀ (σ : S0) (x2 : Int32) (x3 : Int32) (x4 : Int32) (x5 : Int32) , sf_22 σ x2 x3 x4 x5 = some (rr, ρ) → Gw p l e rm_X10_feuding s m args below meth c (MQ below (QcI dC dI ad cy sz rr ρ) args s 0 0 (AW ad sz)) dC dI ad cy 7 sz 0 0 22 [(0, .ref (ad 0)), (2, .int x2), (3, .int x3), (4, .int x4), (5, .int x5)] [] σ) (σ : S0) (x2 : Int32) (x3 : Int32) (x4 : Int32) (x5 : Int32) (t0 : Int32)  (hf : fX10_feuding_b56 sf_7 sf_22 σ x2 x3 x4 x5 t0 = some (rr, ρ)) : Gw p l e rm_X10_feuding s m args below meth c (MQ below (QcI dC dI ad cy sz rr ρ) args s 0 0 (AW ad sz)) dC dI ad cy 7 sz 0 0 56 [(0, .ref (ad 0)), (2, .int x2), (3, .int x3), (4, .int x4), (5, .int x5)] [.int t0] σ := by
  unfold fX10_feuding_b56 at hf
  refine g_istore (lv2 := [(0, .ref (ad 0)), (2, .int x2), (3, .int x3), (4, .int x4), (5, .int x5), (6, .int t0)]) C dX10_feuding_56 (by decide) [1, 2, 3, 4, 5, 0] rfl ?_
  refine g_aload_n C dX10_feuding_58 rfl 0 rfl ?_
  refine g_get C (a_0 ad cy _) rfl hin_X10 3 (by decide) hF_X10_36 rfl rfl dX10_feuding_59 ?_
  refine g_iload C dX10_feuding_62 3 rfl ?_
  refine g_iload C dX10_feuding_64 4 rfl ?_
  refine g_iload C dX10_feuding_66 5 rfl ?_
  obtain ⟨r1, σ2, h3, hf⟩ := obp_e hf
  refine g_callVv (As := [.int x4, .int x5, .int t0]) (rest := []) C (a_32 ad cy _) rfl (c_X1_setFoes l dC dI ad cy 32 k_isChimes_32 x4 x5 t0) h3 hM_X10_175 cal_X1_setFoes ⟨Nat.zero_le _, Nat.zero_le _⟩ ⟨rfl, rfl⟩ ⟨Nat.le_of_ble_eq_true rfl, Nat.le_of_ble_eq_true rfl⟩ rfl rfl (Nat.le_of_ble_eq_true rfl) dX10_feuding_68 ?_
  refine g_iload_n C dX10_feuding_71 rfl 2 rfl ?_
  refine g_iload C dX10_feuding_72 5 rfl ?_
  rcases oi_e hf with ⟨c4, hf⟩ | ⟨c4, hf⟩
  · refine g_if_eq_t (tgt := 81) C dX10_feuding_74 (by decide) c4 ?_
    refine g_iconst (v := 0) C dX10_feuding_81 (by decide) ?_
    exact g_sub [0, 1, 3, 4] rfl (fX10_feuding_b82_ok C sf_7 hs_7 sf_22 hs_22 σ2 x2 x4 x5 0 x3 hf)
  · refine g_if_eq_f (tgt := 81) C dX10_feuding_74 (by decide) c4 ?_
    refine g_iconst (v := 1) C dX10_feuding_77 (by decide) ?_
    refine g_goto (tgt := 82) C dX10_feuding_78 (by decide) ?_
    exact g_sub [0, 1, 3, 4] rfl (fX10_feuding_b82_ok C sf_7 hs_7 sf_22 hs_22 σ2 x2 x4 x5 1 x3 hf)
def fX10_feuding_b22 (sf_7 : S0 → Int32 → Int32 → Int32 → Option (Int32 × S0)) (sf_22 : S0 → Int32 → Int32 → Int32 → Int32 → Option (Int32 × S0)) (σ : S0) (x2 : Int32) (x3 : Int32) (x4 : Int32) (x5 : Int32) : Option (Int32 × S0) := if x4 ≤ x5 then (ol (x4 + 1) (fun v2 => sf_7 σ x2 x3 v2)) else (ol ((x2 * 1103515245) + 12345) (fun v3 => og (¬ ((4 : Int32)) = 0) (ol ((((v3.toUInt32 >>> ((16 : Int32).toUInt32 &&& Int32.toUInt32 31)).toInt32) &&& 32767) - (((v3.toUInt32 >>> ((16 : Int32).toUInt32 &&& Int32.toUInt32 31)).toInt32) &&& 32767) / 4 * 4) (fun v5 => if ¬ v5 = 0 then (fX10_feuding_b56 sf_7 sf_22 σ v3 x3 x4 x5 0) else (fX10_feuding_b56 sf_7 sf_22 σ v3 x3 x4 x5 1)))))
set_option maxHeartbeats 1000000 in
set_option maxRecDepth 100000 in
theorem fX10_feuding_b22_ok {p : Program} {l : Launch} {e : Env} {s : State} {m : MethodId} {args : Array Value} {below : List Frame} {meth : Method} {c : Code} {dC : Nat → ClassId} {dI : Nat → Nat → Nat} {ad : Nat → Nat} {cy : Nat → ClassId} {sz : Nat} (C : Cx p s m args meth c RX10 cX10_feuding 7 (some .int) dC dI ad cy sz) {rr : Int32} {ρ : S0} (sf_7 : S0 → Int32 → Int32 → Int32 → Option (Int32 × S0)) (hs_7 : ∀ (σ : S0) (x2 : Int32) (x3 : Int32) (x4 : Int32) , sf_7 σ x2 x3 x4 = some (rr, ρ) → Gw p l e rm_X10_feuding s m args below meth c (MQ below (QcI dC dI ad cy sz rr ρ) args s 0 0 (AW ad sz)) dC dI ad cy 7 sz 0 0 7 [(0, .ref (ad 0)), (2, .int x2), (3, .int x3), (4, .int x4)] [] σ) (sf_22 : S0 → Int32 → Int32 → Int32 → Int32 → Option (Int32 × S0)) (hs_22 : ∀ (σ : S0) (x2 : Int32) (x3 : Int32) (x4 : Int32) (x5 : Int32) , sf_22 σ x2 x3 x4 x5 = some (rr, ρ) → Gw p l e rm_X10_feuding s m args below meth c (MQ below (QcI dC dI ad cy sz rr ρ) args s 0 0 (AW ad sz)) dC dI ad cy 7 sz 0 0 22 [(0, .ref (ad 0)), (2, .int x2), (3, .int x3), (4, .int x4), (5, .int x5)] [] σ) (σ : S0) (x2 : Int32) (x3 : Int32) (x4 : Int32) (x5 : Int32)  (hf : fX10_feuding_b22 sf_7 sf_22 σ x2 x3 x4 x5 = some (rr, ρ)) : Gw p l e rm_X10_feuding s m args below meth c (MQ below (QcI dC dI ad cy sz rr ρ) args s 0 0 (AW ad sz)) dC dI ad cy 7 sz 0 0 22 [(0, .ref (ad 0)), (2, .int x2), (3, .int x3), (4, .int x4), (5, .int x5)] [] σ := by
  unfold fX10_feuding_b22 at hf
  refine g_iload C dX10_feuding_22 4 rfl ?_
  refine g_iload C dX10_feuding_24 3 rfl ?_
  rcases oi_e hf with ⟨c1, hf⟩ | ⟨c1, hf⟩
  · refine g_icmp_ge_t (tgt := 90) C dX10_feuding_26 (by decide) c1 ?_
    obtain ⟨v2, ev2, hf⟩ := ol_e hf
    refine g_iinc (j := 3) (w := 1) (lv2 := [(0, .ref (ad 0)), (2, .int x2), (3, .int x3), (4, .int v2), (5, .int x5)]) C dX10_feuding_90 rfl (by decide) ev2 (by decide) [1, 2, 3, 0, 4] rfl ?_
    refine g_goto (tgt := 7) C dX10_feuding_93 (by decide) ?_
    exact g_sub [0, 1, 2, 3] rfl (hs_7 σ x2 x3 v2 hf)
  · refine g_icmp_ge_f (tgt := 90) C dX10_feuding_26 (by decide) c1 ?_
    refine g_iload_n C dX10_feuding_29 rfl 1 rfl ?_
    refine g_ldc (v := 1103515245) C dX10_feuding_30 hK_X10_179 ?_
    refine g_imul C dX10_feuding_32 ?_
    refine g_sipush (v := 12345) C dX10_feuding_33 (by decide) ?_
    refine g_iadd C dX10_feuding_36 ?_
    obtain ⟨v3, ev3, hf⟩ := ol_e hf
    refine g_nm ev3 ?_
    refine g_istore_n (lv2 := [(0, .ref (ad 0)), (2, .int v3), (3, .int x3), (4, .int x4), (5, .int x5)]) C dX10_feuding_37 rfl (by decide) [1, 0, 2, 3, 4] rfl ?_
    refine g_iload_n C dX10_feuding_38 rfl 1 rfl ?_
    refine g_bipush (v := 16) C dX10_feuding_39 (by decide) ?_
    refine g_iushr C dX10_feuding_41 ?_
    refine g_sipush (v := 32767) C dX10_feuding_42 (by decide) ?_
    refine g_iand C dX10_feuding_45 ?_
    refine g_iconst (v := 4) C dX10_feuding_46 (by decide) ?_
    obtain ⟨h4, hf⟩ := og_e hf
    refine g_irem C dX10_feuding_47 h4 ?_
    obtain ⟨v5, ev5, hf⟩ := ol_e hf
    refine g_nm ev5 ?_
    rcases oi_e hf with ⟨c6, hf⟩ | ⟨c6, hf⟩
    · refine g_if_ne_t (tgt := 55) C dX10_feuding_48 (by decide) c6 ?_
      refine g_iconst (v := 0) C dX10_feuding_55 (by decide) ?_
      exact g_sub [0, 1, 2, 3, 4] rfl (fX10_feuding_b56_ok C sf_7 hs_7 sf_22 hs_22 σ v3 x3 x4 x5 0 hf)
    · refine g_if_ne_f (tgt := 55) C dX10_feuding_48 (by decide) (Decidable.of_not_not c6) ?_
      refine g_iconst (v := 1) C dX10_feuding_51 (by decide) ?_
      refine g_goto (tgt := 56) C dX10_feuding_52 (by decide) ?_
      exact g_sub [0, 1, 2, 3, 4] rfl (fX10_feuding_b56_ok C sf_7 hs_7 sf_22 hs_22 σ v3 x3 x4 x5 1 hf)
def fX10_feuding_h22 (sf_7 : S0 → Int32 → Int32 → Int32 → Option (Int32 × S0)) : Nat → S0 → Int32 → Int32 → Int32 → Int32 → Option (Int32 × S0)
  | 0 => fun _ _ _ _ _ => none
  | n + 1 => fun σ x2 x3 x4 x5 => fX10_feuding_b22 sf_7 (fX10_feuding_h22 sf_7 n) σ x2 x3 x4 x5
set_option maxHeartbeats 1000000 in
set_option maxRecDepth 100000 in
theorem fX10_feuding_h22_ok {p : Program} {l : Launch} {e : Env} {s : State} {m : MethodId} {args : Array Value} {below : List Frame} {meth : Method} {c : Code} {dC : Nat → ClassId} {dI : Nat → Nat → Nat} {ad : Nat → Nat} {cy : Nat → ClassId} {sz : Nat} (C : Cx p s m args meth c RX10 cX10_feuding 7 (some .int) dC dI ad cy sz) {rr : Int32} {ρ : S0} (sf_7 : S0 → Int32 → Int32 → Int32 → Option (Int32 × S0)) (hs_7 : ∀ (σ : S0) (x2 : Int32) (x3 : Int32) (x4 : Int32) , sf_7 σ x2 x3 x4 = some (rr, ρ) → Gw p l e rm_X10_feuding s m args below meth c (MQ below (QcI dC dI ad cy sz rr ρ) args s 0 0 (AW ad sz)) dC dI ad cy 7 sz 0 0 7 [(0, .ref (ad 0)), (2, .int x2), (3, .int x3), (4, .int x4)] [] σ) : ∀ (n : Nat) (σ : S0) (x2 : Int32) (x3 : Int32) (x4 : Int32) (x5 : Int32)  (_hf : fX10_feuding_h22 sf_7 n σ x2 x3 x4 x5 = some (rr, ρ)), Gw p l e rm_X10_feuding s m args below meth c (MQ below (QcI dC dI ad cy sz rr ρ) args s 0 0 (AW ad sz)) dC dI ad cy 7 sz 0 0 22 [(0, .ref (ad 0)), (2, .int x2), (3, .int x3), (4, .int x4), (5, .int x5)] [] σ
  | 0, _, _, _, _, _, hf => by cases hf
  | n + 1, σ, x2, x3, x4, x5, hf => fX10_feuding_b22_ok C sf_7 hs_7 (fX10_feuding_h22 sf_7 n) (fX10_feuding_h22_ok C sf_7 hs_7 n) σ x2 x3 x4 x5 hf
def fX10_feuding_b7 (sf_7 : S0 → Int32 → Int32 → Int32 → Option (Int32 × S0)) (σ : S0) (x2 : Int32) (x3 : Int32) (x4 : Int32) : Option (Int32 × S0) := if (σ 22 0) ≤ x4 then (some (x3, σ)) else (fX10_feuding_h22 sf_7 400 σ x2 x3 x4 0)
set_option maxHeartbeats 1000000 in
set_option maxRecDepth 100000 in
theorem fX10_feuding_b7_ok {p : Program} {l : Launch} {e : Env} {s : State} {m : MethodId} {args : Array Value} {below : List Frame} {meth : Method} {c : Code} {dC : Nat → ClassId} {dI : Nat → Nat → Nat} {ad : Nat → Nat} {cy : Nat → ClassId} {sz : Nat} (C : Cx p s m args meth c RX10 cX10_feuding 7 (some .int) dC dI ad cy sz) {rr : Int32} {ρ : S0} (sf_7 : S0 → Int32 → Int32 → Int32 → Option (Int32 × S0)) (hs_7 : ∀ (σ : S0) (x2 : Int32) (x3 : Int32) (x4 : Int32) , sf_7 σ x2 x3 x4 = some (rr, ρ) → Gw p l e rm_X10_feuding s m args below meth c (MQ below (QcI dC dI ad cy sz rr ρ) args s 0 0 (AW ad sz)) dC dI ad cy 7 sz 0 0 7 [(0, .ref (ad 0)), (2, .int x2), (3, .int x3), (4, .int x4)] [] σ) (σ : S0) (x2 : Int32) (x3 : Int32) (x4 : Int32)  (hf : fX10_feuding_b7 sf_7 σ x2 x3 x4 = some (rr, ρ)) : Gw p l e rm_X10_feuding s m args below meth c (MQ below (QcI dC dI ad cy sz rr ρ) args s 0 0 (AW ad sz)) dC dI ad cy 7 sz 0 0 7 [(0, .ref (ad 0)), (2, .int x2), (3, .int x3), (4, .int x4)] [] σ := by
  unfold fX10_feuding_b7 at hf
  refine g_iload C dX10_feuding_7 3 rfl ?_
  refine g_aload_n C dX10_feuding_9 rfl 0 rfl ?_
  refine g_get C (a_0 ad cy _) rfl hin_X10 2 (by decide) hF_X10_28 rfl rfl dX10_feuding_10 ?_
  refine g_get C (a_22 ad cy _) rfl hin_X9 0 (by decide) hF_X10_121 rfl rfl dX10_feuding_13 ?_
  rcases oi_e hf with ⟨c1, hf⟩ | ⟨c1, hf⟩
  · refine g_icmp_ge_t (tgt := 96) C dX10_feuding_16 (by decide) c1 ?_
    refine g_iload_n C dX10_feuding_96 rfl 2 rfl ?_
    obtain ⟨rfl, rfl⟩ := os_e hf
    exact g_iret C rfl dX10_feuding_97
  · refine g_icmp_ge_f (tgt := 96) C dX10_feuding_16 (by decide) c1 ?_
    refine g_iconst (v := 0) C dX10_feuding_19 (by decide) ?_
    refine g_istore (lv2 := [(0, .ref (ad 0)), (2, .int x2), (3, .int x3), (4, .int x4), (5, .int 0)]) C dX10_feuding_20 (by decide) [1, 2, 3, 4, 0] rfl ?_
    exact g_sub [0, 1, 2, 3, 4] rfl (fX10_feuding_h22_ok C sf_7 hs_7 400 σ x2 x3 x4 0 hf)
def fX10_feuding_h7  : Nat → S0 → Int32 → Int32 → Int32 → Option (Int32 × S0)
  | 0 => fun _ _ _ _ => none
  | n + 1 => fun σ x2 x3 x4 => fX10_feuding_b7  (fX10_feuding_h7  n) σ x2 x3 x4
set_option maxHeartbeats 1000000 in
set_option maxRecDepth 100000 in
theorem fX10_feuding_h7_ok {p : Program} {l : Launch} {e : Env} {s : State} {m : MethodId} {args : Array Value} {below : List Frame} {meth : Method} {c : Code} {dC : Nat → ClassId} {dI : Nat → Nat → Nat} {ad : Nat → Nat} {cy : Nat → ClassId} {sz : Nat} (C : Cx p s m args meth c RX10 cX10_feuding 7 (some .int) dC dI ad cy sz) {rr : Int32} {ρ : S0}  : ∀ (n : Nat) (σ : S0) (x2 : Int32) (x3 : Int32) (x4 : Int32)  (_hf : fX10_feuding_h7  n σ x2 x3 x4 = some (rr, ρ)), Gw p l e rm_X10_feuding s m args below meth c (MQ below (QcI dC dI ad cy sz rr ρ) args s 0 0 (AW ad sz)) dC dI ad cy 7 sz 0 0 7 [(0, .ref (ad 0)), (2, .int x2), (3, .int x3), (4, .int x4)] [] σ
  | 0, _, _, _, _, hf => by cases hf
  | n + 1, σ, x2, x3, x4, hf => fX10_feuding_b7_ok C  (fX10_feuding_h7  n) (fX10_feuding_h7_ok C  n) σ x2 x3 x4 hf
def fX10_feuding (σ : S0) (x1 : Int32) : Option (Int32 × S0) := fX10_feuding_h7 400 σ x1 0 1
set_option maxHeartbeats 1000000 in
set_option maxRecDepth 100000 in
theorem fX10_feuding_ok {p : Program} {l : Launch} {e : Env} {s : State} {m : MethodId} {args : Array Value} {below : List Frame} {meth : Method} {c : Code} {dC : Nat → ClassId} {dI : Nat → Nat → Nat} {ad : Nat → Nat} {cy : Nat → ClassId} {sz : Nat} (C : Cx p s m args meth c RX10 cX10_feuding 7 (some .int) dC dI ad cy sz) {rr : Int32} {ρ : S0} (σ : S0) (x1 : Int32)  (hf : fX10_feuding σ x1 = some (rr, ρ)) : Gw p l e rm_X10_feuding s m args below meth c (MQ below (QcI dC dI ad cy sz rr ρ) args s 0 0 (AW ad sz)) dC dI ad cy 7 sz 0 0 0 [(0, .ref (ad 0)), (1, .int x1)] [] σ := by
  unfold fX10_feuding at hf
  refine g_iload_n C dX10_feuding_0 rfl 1 rfl ?_
  refine g_istore_n (lv2 := [(0, .ref (ad 0)), (1, .int x1), (2, .int x1)]) C dX10_feuding_1 rfl (by decide) [1, 2, 0] rfl ?_
  refine g_iconst (v := 0) C dX10_feuding_2 (by decide) ?_
  refine g_istore_n (lv2 := [(0, .ref (ad 0)), (1, .int x1), (2, .int x1), (3, .int 0)]) C dX10_feuding_3 rfl (by decide) [1, 2, 3, 0] rfl ?_
  refine g_iconst (v := 1) C dX10_feuding_4 (by decide) ?_
  refine g_istore (lv2 := [(0, .ref (ad 0)), (1, .int x1), (2, .int x1), (3, .int 0), (4, .int 1)]) C dX10_feuding_5 (by decide) [1, 2, 3, 4, 0] rfl ?_
  exact g_sub [0, 2, 3, 4] rfl (fX10_feuding_h7_ok C 400 σ x1 0 1 hf)
theorem c_X10_feuding (l : Launch) (dC : Nat → ClassId) (dI : Nat → Nat → Nat) (ad : Nat → Nat) (cy : Nat → ClassId) (x1 : Int32) : ConI l yX10_feuding cX10_feuding 7 (some .int) rm_X10_feuding dC dI ad cy [.ref (ad 0), .int x1] (fun σ => fX10_feuding σ x1) := con_i (own := RX10) (by decide) rfl (Nat.le_of_ble_eq_true rfl) (fun _ _ _ _ _ _ _ _ σ _ _ C hf => fX10_feuding_ok C σ x1 hf)
theorem cal_X10_feuding : CalV yX10_feuding RX10 cX10_feuding 7 (some .int) 1 := ⟨hI_X10_feuding, hS_X10_feuding, hIni_X10, hC_X10_feuding, by decide +kernel⟩
abbrev rm_X10_ring : Room := { frames := 1, cells := 0, slots := 0, locals := 26 }
def fX10_ring (σ : S0) (x1 : Int32) (x2 : Int32) : Option (Int32 × S0) := obp (fX9_hasTune σ 22 x1) (fun r1 σ2 => if ¬ r1 = 0 then (obp (fX6_play σ2 x1) (fun r5 σ6 => if x2.toInt < 0 ∨ 3 < x2.toInt then (some ((-1), σ6)) else if x2 = 0 then (some (σ6 40 2, σ6)) else if x2 = 1 then (some (σ6 40 4, σ6)) else if x2 = 2 then (some (σ6 40 3, σ6)) else if x2 = 3 then (some ((σ6 40 5) + 1000, σ6)) else none)) else (some ((-1), σ2)))
set_option maxHeartbeats 1000000 in
set_option maxRecDepth 100000 in
theorem fX10_ring_ok {p : Program} {l : Launch} {e : Env} {s : State} {m : MethodId} {args : Array Value} {below : List Frame} {meth : Method} {c : Code} {dC : Nat → ClassId} {dI : Nat → Nat → Nat} {ad : Nat → Nat} {cy : Nat → ClassId} {sz : Nat} (C : Cx p s m args meth c RX10 cX10_ring 3 (some .int) dC dI ad cy sz) {rr : Int32} {ρ : S0} (σ : S0) (x1 : Int32) (x2 : Int32)  (hf : fX10_ring σ x1 x2 = some (rr, ρ)) : Gw p l e rm_X10_ring s m args below meth c (MQ below (QcI dC dI ad cy sz rr ρ) args s 0 0 (AW ad sz)) dC dI ad cy 3 sz 0 0 0 [(0, .ref (ad 0)), (1, .int x1), (2, .int x2)] [] σ := by
  unfold fX10_ring at hf
  refine g_aload_n C dX10_ring_0 rfl 0 rfl ?_
  refine g_get C (a_0 ad cy _) rfl hin_X10 2 (by decide) hF_X10_28 rfl rfl dX10_ring_1 ?_
  refine g_iload_n C dX10_ring_4 rfl 1 rfl ?_
  obtain ⟨r1, σ2, h3, hf⟩ := obp_e hf
  refine g_callVi (As := [.int x1]) (rest := []) C (a_22 ad cy _) rfl (c_X9_hasTune l dC dI ad cy 22 k_isTown_22 x1) h3 hM_X10_147 cal_X9_hasTune ⟨Nat.zero_le _, Nat.zero_le _⟩ ⟨rfl, rfl⟩ ⟨Nat.le_of_ble_eq_true rfl, Nat.le_of_ble_eq_true rfl⟩ rfl rfl (Nat.le_of_ble_eq_true rfl) dX10_ring_5 ?_
  rcases oi_e hf with ⟨c4, hf⟩ | ⟨c4, hf⟩
  · refine g_if_ne_t (tgt := 13) C dX10_ring_8 (by decide) c4 ?_
    refine g_aload_n C dX10_ring_13 rfl 0 rfl ?_
    refine g_get C (a_0 ad cy _) rfl hin_X10 4 (by decide) hF_X10_42 rfl rfl dX10_ring_14 ?_
    refine g_iload_n C dX10_ring_17 rfl 1 rfl ?_
    obtain ⟨r5, σ6, h7, hf⟩ := obp_e hf
    refine g_callVv (As := [.int x1]) (rest := []) C (a_40 ad cy _) rfl (c_X6_play l dC dI ad cy x1) h7 hM_X10_180 cal_X6_play ⟨Nat.zero_le _, Nat.zero_le _⟩ ⟨rfl, rfl⟩ ⟨Nat.le_of_ble_eq_true rfl, Nat.le_of_ble_eq_true rfl⟩ rfl rfl (Nat.le_of_ble_eq_true rfl) dX10_ring_18 ?_
    refine g_iload_n C dX10_ring_21 rfl 2 rfl ?_
    rcases oi_e hf with ⟨c8, hf⟩ | ⟨c8, hf⟩
    · refine g_tout (tgt := 88) C dX10_ring_22 c8 (by decide) ?_
      refine g_iconst (v := (-1)) C dX10_ring_88 (by decide) ?_
      obtain ⟨rfl, rfl⟩ := os_e hf
      exact g_iret C rfl dX10_ring_89
    · skip
      rcases oi_e hf with ⟨c9, hf⟩ | ⟨c9, hf⟩
      · refine g_tin (tgt := 52) C dX10_ring_22 (by rw [c9]; decide) (by rw [c9]; decide) (by rw [c9]; rfl) (by decide) ?_
        refine g_aload_n C dX10_ring_52 rfl 0 rfl ?_
        refine g_get C (a_0 ad cy _) rfl hin_X10 4 (by decide) hF_X10_42 rfl rfl dX10_ring_53 ?_
        refine g_get C (a_40 ad cy _) rfl hin_X6 2 (by decide) hF_X10_184 rfl rfl dX10_ring_56 ?_
        obtain ⟨rfl, rfl⟩ := os_e hf
        exact g_iret C rfl dX10_ring_59
      · skip
        rcases oi_e hf with ⟨c10, hf⟩ | ⟨c10, hf⟩
        · refine g_tin (tgt := 60) C dX10_ring_22 (by rw [c10]; decide) (by rw [c10]; decide) (by rw [c10]; rfl) (by decide) ?_
          refine g_aload_n C dX10_ring_60 rfl 0 rfl ?_
          refine g_get C (a_0 ad cy _) rfl hin_X10 4 (by decide) hF_X10_42 rfl rfl dX10_ring_61 ?_
          refine g_get C (a_40 ad cy _) rfl hin_X6 4 (by decide) hF_X10_187 rfl rfl dX10_ring_64 ?_
          obtain ⟨rfl, rfl⟩ := os_e hf
          exact g_iret C rfl dX10_ring_67
        · skip
          rcases oi_e hf with ⟨c11, hf⟩ | ⟨c11, hf⟩
          · refine g_tin (tgt := 68) C dX10_ring_22 (by rw [c11]; decide) (by rw [c11]; decide) (by rw [c11]; rfl) (by decide) ?_
            refine g_aload_n C dX10_ring_68 rfl 0 rfl ?_
            refine g_get C (a_0 ad cy _) rfl hin_X10 4 (by decide) hF_X10_42 rfl rfl dX10_ring_69 ?_
            refine g_get C (a_40 ad cy _) rfl hin_X6 3 (by decide) hF_X10_190 rfl rfl dX10_ring_72 ?_
            obtain ⟨rfl, rfl⟩ := os_e hf
            exact g_iret C rfl dX10_ring_75
          · skip
            rcases oi_e hf with ⟨c12, hf⟩ | ⟨c12, hf⟩
            · refine g_tin (tgt := 76) C dX10_ring_22 (by rw [c12]; decide) (by rw [c12]; decide) (by rw [c12]; rfl) (by decide) ?_
              refine g_aload_n C dX10_ring_76 rfl 0 rfl ?_
              refine g_get C (a_0 ad cy _) rfl hin_X10 4 (by decide) hF_X10_42 rfl rfl dX10_ring_77 ?_
              refine g_get C (a_40 ad cy _) rfl hin_X6 5 (by decide) hF_X10_193 rfl rfl dX10_ring_80 ?_
              refine g_sipush (v := 1000) C dX10_ring_83 (by decide) ?_
              refine g_iadd C dX10_ring_86 ?_
              obtain ⟨rfl, rfl⟩ := os_e hf
              exact g_iret C rfl dX10_ring_87
            · skip
              cases hf
  · refine g_if_ne_f (tgt := 13) C dX10_ring_8 (by decide) (Decidable.of_not_not c4) ?_
    refine g_iconst (v := (-1)) C dX10_ring_11 (by decide) ?_
    obtain ⟨rfl, rfl⟩ := os_e hf
    exact g_iret C rfl dX10_ring_12
theorem c_X10_ring (l : Launch) (dC : Nat → ClassId) (dI : Nat → Nat → Nat) (ad : Nat → Nat) (cy : Nat → ClassId) (x1 : Int32) (x2 : Int32) : ConI l yX10_ring cX10_ring 3 (some .int) rm_X10_ring dC dI ad cy [.ref (ad 0), .int x1, .int x2] (fun σ => fX10_ring σ x1 x2) := con_i (own := RX10) (by decide) rfl (Nat.le_of_ble_eq_true rfl) (fun _ _ _ _ _ _ _ _ σ _ _ C hf => fX10_ring_ok C σ x1 x2 hf)
theorem cal_X10_ring : CalV yX10_ring RX10 cX10_ring 3 (some .int) 2 := ⟨hI_X10_ring, hS_X10_ring, hIni_X10, hC_X10_ring, by decide +kernel⟩
abbrev rm_X10_taken : Room := { frames := 2, cells := 0, slots := 0, locals := 49 }
def fX10_taken (σ : S0)  : Option (Int32 × S0) := obp (fX6_tuneTaken σ) (fun r1 σ2 => some (r1, σ2))
set_option maxHeartbeats 1000000 in
set_option maxRecDepth 100000 in
theorem fX10_taken_ok {p : Program} {l : Launch} {e : Env} {s : State} {m : MethodId} {args : Array Value} {below : List Frame} {meth : Method} {c : Code} {dC : Nat → ClassId} {dI : Nat → Nat → Nat} {ad : Nat → Nat} {cy : Nat → ClassId} {sz : Nat} (C : Cx p s m args meth c RX10 cX10_taken 1 (some .int) dC dI ad cy sz) {rr : Int32} {ρ : S0} (σ : S0)   (hf : fX10_taken σ = some (rr, ρ)) : Gw p l e rm_X10_taken s m args below meth c (MQ below (QcI dC dI ad cy sz rr ρ) args s 0 0 (AW ad sz)) dC dI ad cy 1 sz 0 0 0 [(0, .ref (ad 0))] [] σ := by
  unfold fX10_taken at hf
  refine g_aload_n C dX10_taken_0 rfl 0 rfl ?_
  refine g_get C (a_0 ad cy _) rfl hin_X10 4 (by decide) hF_X10_42 rfl rfl dX10_taken_1 ?_
  obtain ⟨r1, σ2, h3, hf⟩ := obp_e hf
  refine g_callVi (As := []) (rest := []) C (a_40 ad cy _) rfl (c_X6_tuneTaken l dC dI ad cy ) h3 hM_X10_196 cal_X6_tuneTaken ⟨Nat.zero_le _, Nat.zero_le _⟩ ⟨rfl, rfl⟩ ⟨Nat.le_of_ble_eq_true rfl, Nat.le_of_ble_eq_true rfl⟩ rfl rfl (Nat.le_of_ble_eq_true rfl) dX10_taken_4 ?_
  obtain ⟨rfl, rfl⟩ := os_e hf
  exact g_iret C rfl dX10_taken_7
theorem c_X10_taken (l : Launch) (dC : Nat → ClassId) (dI : Nat → Nat → Nat) (ad : Nat → Nat) (cy : Nat → ClassId)  : ConI l yX10_taken cX10_taken 1 (some .int) rm_X10_taken dC dI ad cy [.ref (ad 0)] (fun σ => fX10_taken σ) := con_i (own := RX10) (by decide) rfl (Nat.le_of_ble_eq_true rfl) (fun _ _ _ _ _ _ _ _ σ _ _ C hf => fX10_taken_ok C σ  hf)
theorem cal_X10_taken : CalV yX10_taken RX10 cX10_taken 1 (some .int) 0 := ⟨hI_X10_taken, hS_X10_taken, hIni_X10, hC_X10_taken, by decide +kernel⟩
abbrev rm_X10_gets : Room := { frames := 3, cells := 0, slots := 0, locals := 68 }
def fX10_gets (σ : S0) (x1 : Int32) (x2 : Int32) : Option (Int32 × S0) := obp (fX9_hasHouse σ 22 x1) (fun r1 σ2 => if r1 = 0 then (some ((-1), σ2)) else (obp (fX9_hasTune σ2 22 x2) (fun r5 σ6 => if r5 = 0 then (some ((-1), σ6)) else (obp (fX6_shareOf σ6 x1 x2) (fun r9 σ10 => some (r9, σ10))))))
set_option maxHeartbeats 1000000 in
set_option maxRecDepth 100000 in
theorem fX10_gets_ok {p : Program} {l : Launch} {e : Env} {s : State} {m : MethodId} {args : Array Value} {below : List Frame} {meth : Method} {c : Code} {dC : Nat → ClassId} {dI : Nat → Nat → Nat} {ad : Nat → Nat} {cy : Nat → ClassId} {sz : Nat} (C : Cx p s m args meth c RX10 cX10_gets 3 (some .int) dC dI ad cy sz) {rr : Int32} {ρ : S0} (σ : S0) (x1 : Int32) (x2 : Int32)  (hf : fX10_gets σ x1 x2 = some (rr, ρ)) : Gw p l e rm_X10_gets s m args below meth c (MQ below (QcI dC dI ad cy sz rr ρ) args s 0 0 (AW ad sz)) dC dI ad cy 3 sz 0 0 0 [(0, .ref (ad 0)), (1, .int x1), (2, .int x2)] [] σ := by
  unfold fX10_gets at hf
  refine g_aload_n C dX10_gets_0 rfl 0 rfl ?_
  refine g_get C (a_0 ad cy _) rfl hin_X10 2 (by decide) hF_X10_28 rfl rfl dX10_gets_1 ?_
  refine g_iload_n C dX10_gets_4 rfl 1 rfl ?_
  obtain ⟨r1, σ2, h3, hf⟩ := obp_e hf
  refine g_callVi (As := [.int x1]) (rest := []) C (a_22 ad cy _) rfl (c_X9_hasHouse l dC dI ad cy 22 k_isTown_22 x1) h3 hM_X10_163 cal_X9_hasHouse ⟨Nat.zero_le _, Nat.zero_le _⟩ ⟨rfl, rfl⟩ ⟨Nat.le_of_ble_eq_true rfl, Nat.le_of_ble_eq_true rfl⟩ rfl rfl (Nat.le_of_ble_eq_true rfl) dX10_gets_5 ?_
  rcases oi_e hf with ⟨c4, hf⟩ | ⟨c4, hf⟩
  · refine g_if_eq_t (tgt := 34) C dX10_gets_8 (by decide) c4 ?_
    refine g_iconst (v := (-1)) C dX10_gets_34 (by decide) ?_
    obtain ⟨rfl, rfl⟩ := os_e hf
    exact g_iret C rfl dX10_gets_35
  · refine g_if_eq_f (tgt := 34) C dX10_gets_8 (by decide) c4 ?_
    refine g_aload_n C dX10_gets_11 rfl 0 rfl ?_
    refine g_get C (a_0 ad cy _) rfl hin_X10 2 (by decide) hF_X10_28 rfl rfl dX10_gets_12 ?_
    refine g_iload_n C dX10_gets_15 rfl 2 rfl ?_
    obtain ⟨r5, σ6, h7, hf⟩ := obp_e hf
    refine g_callVi (As := [.int x2]) (rest := []) C (a_22 ad cy _) rfl (c_X9_hasTune l dC dI ad cy 22 k_isTown_22 x2) h7 hM_X10_147 cal_X9_hasTune ⟨Nat.zero_le _, Nat.zero_le _⟩ ⟨rfl, rfl⟩ ⟨Nat.le_of_ble_eq_true rfl, Nat.le_of_ble_eq_true rfl⟩ rfl rfl (Nat.le_of_ble_eq_true rfl) dX10_gets_16 ?_
    rcases oi_e hf with ⟨c8, hf⟩ | ⟨c8, hf⟩
    · refine g_if_eq_t (tgt := 34) C dX10_gets_19 (by decide) c8 ?_
      refine g_iconst (v := (-1)) C dX10_gets_34 (by decide) ?_
      obtain ⟨rfl, rfl⟩ := os_e hf
      exact g_iret C rfl dX10_gets_35
    · refine g_if_eq_f (tgt := 34) C dX10_gets_19 (by decide) c8 ?_
      refine g_aload_n C dX10_gets_22 rfl 0 rfl ?_
      refine g_get C (a_0 ad cy _) rfl hin_X10 4 (by decide) hF_X10_42 rfl rfl dX10_gets_23 ?_
      refine g_iload_n C dX10_gets_26 rfl 1 rfl ?_
      refine g_iload_n C dX10_gets_27 rfl 2 rfl ?_
      obtain ⟨r9, σ10, h11, hf⟩ := obp_e hf
      refine g_callVi (As := [.int x1, .int x2]) (rest := []) C (a_40 ad cy _) rfl (c_X6_shareOf l dC dI ad cy x1 x2) h11 hM_X10_200 cal_X6_shareOf ⟨Nat.zero_le _, Nat.zero_le _⟩ ⟨rfl, rfl⟩ ⟨Nat.le_of_ble_eq_true rfl, Nat.le_of_ble_eq_true rfl⟩ rfl rfl (Nat.le_of_ble_eq_true rfl) dX10_gets_28 ?_
      refine g_goto (tgt := 35) C dX10_gets_31 (by decide) ?_
      obtain ⟨rfl, rfl⟩ := os_e hf
      exact g_iret C rfl dX10_gets_35
theorem c_X10_gets (l : Launch) (dC : Nat → ClassId) (dI : Nat → Nat → Nat) (ad : Nat → Nat) (cy : Nat → ClassId) (x1 : Int32) (x2 : Int32) : ConI l yX10_gets cX10_gets 3 (some .int) rm_X10_gets dC dI ad cy [.ref (ad 0), .int x1, .int x2] (fun σ => fX10_gets σ x1 x2) := con_i (own := RX10) (by decide) rfl (Nat.le_of_ble_eq_true rfl) (fun _ _ _ _ _ _ _ _ σ _ _ C hf => fX10_gets_ok C σ x1 x2 hf)
theorem cal_X10_gets : CalV yX10_gets RX10 cX10_gets 3 (some .int) 2 := ⟨hI_X10_gets, hS_X10_gets, hIni_X10, hC_X10_gets, by decide +kernel⟩
abbrev rm_X10_wage : Room := { frames := 4, cells := 0, slots := 0, locals := 90 }
def fX10_wage (σ : S0) (x1 : Int32) : Option (Int32 × S0) := obp (fX9_hasHouse σ 22 x1) (fun r1 σ2 => if r1 = 0 then (some ((-1), σ2)) else (obp (fX6_wageOf σ2 x1) (fun r5 σ6 => some (r5, σ6))))
set_option maxHeartbeats 1000000 in
set_option maxRecDepth 100000 in
theorem fX10_wage_ok {p : Program} {l : Launch} {e : Env} {s : State} {m : MethodId} {args : Array Value} {below : List Frame} {meth : Method} {c : Code} {dC : Nat → ClassId} {dI : Nat → Nat → Nat} {ad : Nat → Nat} {cy : Nat → ClassId} {sz : Nat} (C : Cx p s m args meth c RX10 cX10_wage 2 (some .int) dC dI ad cy sz) {rr : Int32} {ρ : S0} (σ : S0) (x1 : Int32)  (hf : fX10_wage σ x1 = some (rr, ρ)) : Gw p l e rm_X10_wage s m args below meth c (MQ below (QcI dC dI ad cy sz rr ρ) args s 0 0 (AW ad sz)) dC dI ad cy 2 sz 0 0 0 [(0, .ref (ad 0)), (1, .int x1)] [] σ := by
  unfold fX10_wage at hf
  refine g_aload_n C dX10_wage_0 rfl 0 rfl ?_
  refine g_get C (a_0 ad cy _) rfl hin_X10 2 (by decide) hF_X10_28 rfl rfl dX10_wage_1 ?_
  refine g_iload_n C dX10_wage_4 rfl 1 rfl ?_
  obtain ⟨r1, σ2, h3, hf⟩ := obp_e hf
  refine g_callVi (As := [.int x1]) (rest := []) C (a_22 ad cy _) rfl (c_X9_hasHouse l dC dI ad cy 22 k_isTown_22 x1) h3 hM_X10_163 cal_X9_hasHouse ⟨Nat.zero_le _, Nat.zero_le _⟩ ⟨rfl, rfl⟩ ⟨Nat.le_of_ble_eq_true rfl, Nat.le_of_ble_eq_true rfl⟩ rfl rfl (Nat.le_of_ble_eq_true rfl) dX10_wage_5 ?_
  rcases oi_e hf with ⟨c4, hf⟩ | ⟨c4, hf⟩
  · refine g_if_eq_t (tgt := 22) C dX10_wage_8 (by decide) c4 ?_
    refine g_iconst (v := (-1)) C dX10_wage_22 (by decide) ?_
    obtain ⟨rfl, rfl⟩ := os_e hf
    exact g_iret C rfl dX10_wage_23
  · refine g_if_eq_f (tgt := 22) C dX10_wage_8 (by decide) c4 ?_
    refine g_aload_n C dX10_wage_11 rfl 0 rfl ?_
    refine g_get C (a_0 ad cy _) rfl hin_X10 4 (by decide) hF_X10_42 rfl rfl dX10_wage_12 ?_
    refine g_iload_n C dX10_wage_15 rfl 1 rfl ?_
    obtain ⟨r5, σ6, h7, hf⟩ := obp_e hf
    refine g_callVi (As := [.int x1]) (rest := []) C (a_40 ad cy _) rfl (c_X6_wageOf l dC dI ad cy x1) h7 hM_X10_204 cal_X6_wageOf ⟨Nat.zero_le _, Nat.zero_le _⟩ ⟨rfl, rfl⟩ ⟨Nat.le_of_ble_eq_true rfl, Nat.le_of_ble_eq_true rfl⟩ rfl rfl (Nat.le_of_ble_eq_true rfl) dX10_wage_16 ?_
    refine g_goto (tgt := 23) C dX10_wage_19 (by decide) ?_
    obtain ⟨rfl, rfl⟩ := os_e hf
    exact g_iret C rfl dX10_wage_23
theorem c_X10_wage (l : Launch) (dC : Nat → ClassId) (dI : Nat → Nat → Nat) (ad : Nat → Nat) (cy : Nat → ClassId) (x1 : Int32) : ConI l yX10_wage cX10_wage 2 (some .int) rm_X10_wage dC dI ad cy [.ref (ad 0), .int x1] (fun σ => fX10_wage σ x1) := con_i (own := RX10) (by decide) rfl (Nat.le_of_ble_eq_true rfl) (fun _ _ _ _ _ _ _ _ σ _ _ C hf => fX10_wage_ok C σ x1 hf)
theorem cal_X10_wage : CalV yX10_wage RX10 cX10_wage 2 (some .int) 1 := ⟨hI_X10_wage, hS_X10_wage, hIni_X10, hC_X10_wage, by decide +kernel⟩
abbrev rm_X10_ask : Room := { frames := 3, cells := 0, slots := 0, locals := 73 }
def fX10_ask (σ : S0) (x1 : Int32) (x2 : Int32) : Option (Int32 × S0) := obp (fX9_hasHouse σ 22 x1) (fun r1 σ2 => if r1 = 0 then (some ((-1), σ2)) else (obp (fX10_isFee σ2 x2) (fun r5 σ6 => if ¬ r5 = 0 then (obp (fX0_weigh σ6 x1) (fun r9 σ10 => obp (fX0_bringsAt σ10 x2) (fun r12 σ13 => some (r12, σ13)))) else (some ((-1), σ6)))))
set_option maxHeartbeats 1000000 in
set_option maxRecDepth 100000 in
theorem fX10_ask_ok {p : Program} {l : Launch} {e : Env} {s : State} {m : MethodId} {args : Array Value} {below : List Frame} {meth : Method} {c : Code} {dC : Nat → ClassId} {dI : Nat → Nat → Nat} {ad : Nat → Nat} {cy : Nat → ClassId} {sz : Nat} (C : Cx p s m args meth c RX10 cX10_ask 3 (some .int) dC dI ad cy sz) {rr : Int32} {ρ : S0} (σ : S0) (x1 : Int32) (x2 : Int32)  (hf : fX10_ask σ x1 x2 = some (rr, ρ)) : Gw p l e rm_X10_ask s m args below meth c (MQ below (QcI dC dI ad cy sz rr ρ) args s 0 0 (AW ad sz)) dC dI ad cy 3 sz 0 0 0 [(0, .ref (ad 0)), (1, .int x1), (2, .int x2)] [] σ := by
  unfold fX10_ask at hf
  refine g_aload_n C dX10_ask_0 rfl 0 rfl ?_
  refine g_get C (a_0 ad cy _) rfl hin_X10 2 (by decide) hF_X10_28 rfl rfl dX10_ask_1 ?_
  refine g_iload_n C dX10_ask_4 rfl 1 rfl ?_
  obtain ⟨r1, σ2, h3, hf⟩ := obp_e hf
  refine g_callVi (As := [.int x1]) (rest := []) C (a_22 ad cy _) rfl (c_X9_hasHouse l dC dI ad cy 22 k_isTown_22 x1) h3 hM_X10_163 cal_X9_hasHouse ⟨Nat.zero_le _, Nat.zero_le _⟩ ⟨rfl, rfl⟩ ⟨Nat.le_of_ble_eq_true rfl, Nat.le_of_ble_eq_true rfl⟩ rfl rfl (Nat.le_of_ble_eq_true rfl) dX10_ask_5 ?_
  rcases oi_e hf with ⟨c4, hf⟩ | ⟨c4, hf⟩
  · refine g_if_eq_t (tgt := 18) C dX10_ask_8 (by decide) c4 ?_
    refine g_iconst (v := (-1)) C dX10_ask_18 (by decide) ?_
    obtain ⟨rfl, rfl⟩ := os_e hf
    exact g_iret C rfl dX10_ask_19
  · refine g_if_eq_f (tgt := 18) C dX10_ask_8 (by decide) c4 ?_
    refine g_iload_n C dX10_ask_11 rfl 2 rfl ?_
    obtain ⟨r5, σ6, h7, hf⟩ := obp_e hf
    refine g_callSi (As := [.int x2]) (rest := []) C (c_X10_isFee l dC dI ad cy x2) h7 hM_X10_169 cal_X10_isFee ⟨Nat.zero_le _, Nat.zero_le _⟩ ⟨rfl, rfl⟩ ⟨Nat.le_of_ble_eq_true rfl, Nat.le_of_ble_eq_true rfl⟩ rfl rfl (Nat.le_of_ble_eq_true rfl) dX10_ask_12 ?_
    rcases oi_e hf with ⟨c8, hf⟩ | ⟨c8, hf⟩
    · refine g_if_ne_t (tgt := 20) C dX10_ask_15 (by decide) c8 ?_
      refine g_aload_n C dX10_ask_20 rfl 0 rfl ?_
      refine g_get C (a_0 ad cy _) rfl hin_X10 5 (by decide) hF_X10_51 rfl rfl dX10_ask_21 ?_
      refine g_iload_n C dX10_ask_24 rfl 1 rfl ?_
      obtain ⟨r9, σ10, h11, hf⟩ := obp_e hf
      refine g_callVv (As := [.int x1]) (rest := []) C (a_41 ad cy _) rfl (c_X0_weigh l dC dI ad cy x1) h11 hM_X10_208 cal_X0_weigh ⟨Nat.zero_le _, Nat.zero_le _⟩ ⟨rfl, rfl⟩ ⟨Nat.le_of_ble_eq_true rfl, Nat.le_of_ble_eq_true rfl⟩ rfl rfl (Nat.le_of_ble_eq_true rfl) dX10_ask_25 ?_
      refine g_aload_n C dX10_ask_28 rfl 0 rfl ?_
      refine g_get C (a_0 ad cy _) rfl hin_X10 5 (by decide) hF_X10_51 rfl rfl dX10_ask_29 ?_
      refine g_iload_n C dX10_ask_32 rfl 2 rfl ?_
      obtain ⟨r12, σ13, h14, hf⟩ := obp_e hf
      refine g_callVi (As := [.int x2]) (rest := []) C (a_41 ad cy _) rfl (c_X0_bringsAt l dC dI ad cy x2) h14 hM_X10_211 cal_X0_bringsAt ⟨Nat.zero_le _, Nat.zero_le _⟩ ⟨rfl, rfl⟩ ⟨Nat.le_of_ble_eq_true rfl, Nat.le_of_ble_eq_true rfl⟩ rfl rfl (Nat.le_of_ble_eq_true rfl) dX10_ask_33 ?_
      obtain ⟨rfl, rfl⟩ := os_e hf
      exact g_iret C rfl dX10_ask_36
    · refine g_if_ne_f (tgt := 20) C dX10_ask_15 (by decide) (Decidable.of_not_not c8) ?_
      refine g_iconst (v := (-1)) C dX10_ask_18 (by decide) ?_
      obtain ⟨rfl, rfl⟩ := os_e hf
      exact g_iret C rfl dX10_ask_19
theorem c_X10_ask (l : Launch) (dC : Nat → ClassId) (dI : Nat → Nat → Nat) (ad : Nat → Nat) (cy : Nat → ClassId) (x1 : Int32) (x2 : Int32) : ConI l yX10_ask cX10_ask 3 (some .int) rm_X10_ask dC dI ad cy [.ref (ad 0), .int x1, .int x2] (fun σ => fX10_ask σ x1 x2) := con_i (own := RX10) (by decide) rfl (Nat.le_of_ble_eq_true rfl) (fun _ _ _ _ _ _ _ _ σ _ _ C hf => fX10_ask_ok C σ x1 x2 hf)
theorem cal_X10_ask : CalV yX10_ask RX10 cX10_ask 3 (some .int) 2 := ⟨hI_X10_ask, hS_X10_ask, hIni_X10, hC_X10_ask, by decide +kernel⟩
abbrev rm_X10_best : Room := { frames := 4, cells := 0, slots := 0, locals := 96 }
def fX10_best (σ : S0) (x1 : Int32) (x2 : Int32) : Option (Int32 × S0) := obp (fX9_hasHouse σ 22 x1) (fun r1 σ2 => if r1 = 0 then (some ((-1), σ2)) else (if x2 < 0 then (some ((-1), σ2)) else (if x2 ≤ 1 then (obp (fX0_choose σ2 x1) (fun r7 σ8 => if ¬ x2 = 0 then (some (σ8 41 8, σ8)) else (some (σ8 41 7, σ8)))) else (some ((-1), σ2)))))
set_option maxHeartbeats 1000000 in
set_option maxRecDepth 100000 in
theorem fX10_best_ok {p : Program} {l : Launch} {e : Env} {s : State} {m : MethodId} {args : Array Value} {below : List Frame} {meth : Method} {c : Code} {dC : Nat → ClassId} {dI : Nat → Nat → Nat} {ad : Nat → Nat} {cy : Nat → ClassId} {sz : Nat} (C : Cx p s m args meth c RX10 cX10_best 3 (some .int) dC dI ad cy sz) {rr : Int32} {ρ : S0} (σ : S0) (x1 : Int32) (x2 : Int32)  (hf : fX10_best σ x1 x2 = some (rr, ρ)) : Gw p l e rm_X10_best s m args below meth c (MQ below (QcI dC dI ad cy sz rr ρ) args s 0 0 (AW ad sz)) dC dI ad cy 3 sz 0 0 0 [(0, .ref (ad 0)), (1, .int x1), (2, .int x2)] [] σ := by
  unfold fX10_best at hf
  refine g_aload_n C dX10_best_0 rfl 0 rfl ?_
  refine g_get C (a_0 ad cy _) rfl hin_X10 2 (by decide) hF_X10_28 rfl rfl dX10_best_1 ?_
  refine g_iload_n C dX10_best_4 rfl 1 rfl ?_
  obtain ⟨r1, σ2, h3, hf⟩ := obp_e hf
  refine g_callVi (As := [.int x1]) (rest := []) C (a_22 ad cy _) rfl (c_X9_hasHouse l dC dI ad cy 22 k_isTown_22 x1) h3 hM_X10_163 cal_X9_hasHouse ⟨Nat.zero_le _, Nat.zero_le _⟩ ⟨rfl, rfl⟩ ⟨Nat.le_of_ble_eq_true rfl, Nat.le_of_ble_eq_true rfl⟩ rfl rfl (Nat.le_of_ble_eq_true rfl) dX10_best_5 ?_
  rcases oi_e hf with ⟨c4, hf⟩ | ⟨c4, hf⟩
  · refine g_if_eq_t (tgt := 20) C dX10_best_8 (by decide) c4 ?_
    refine g_iconst (v := (-1)) C dX10_best_20 (by decide) ?_
    obtain ⟨rfl, rfl⟩ := os_e hf
    exact g_iret C rfl dX10_best_21
  · refine g_if_eq_f (tgt := 20) C dX10_best_8 (by decide) c4 ?_
    refine g_iload_n C dX10_best_11 rfl 2 rfl ?_
    rcases oi_e hf with ⟨c5, hf⟩ | ⟨c5, hf⟩
    · refine g_if_lt_t (tgt := 20) C dX10_best_12 (by decide) c5 ?_
      refine g_iconst (v := (-1)) C dX10_best_20 (by decide) ?_
      obtain ⟨rfl, rfl⟩ := os_e hf
      exact g_iret C rfl dX10_best_21
    · refine g_if_lt_f (tgt := 20) C dX10_best_12 (by decide) c5 ?_
      refine g_iload_n C dX10_best_15 rfl 2 rfl ?_
      refine g_iconst (v := 1) C dX10_best_16 (by decide) ?_
      rcases oi_e hf with ⟨c6, hf⟩ | ⟨c6, hf⟩
      · refine g_icmp_le_t (tgt := 22) C dX10_best_17 (by decide) c6 ?_
        refine g_aload_n C dX10_best_22 rfl 0 rfl ?_
        refine g_get C (a_0 ad cy _) rfl hin_X10 5 (by decide) hF_X10_51 rfl rfl dX10_best_23 ?_
        refine g_iload_n C dX10_best_26 rfl 1 rfl ?_
        obtain ⟨r7, σ8, h9, hf⟩ := obp_e hf
        refine g_callVv (As := [.int x1]) (rest := []) C (a_41 ad cy _) rfl (c_X0_choose l dC dI ad cy x1) h9 hM_X10_214 cal_X0_choose ⟨Nat.zero_le _, Nat.zero_le _⟩ ⟨rfl, rfl⟩ ⟨Nat.le_of_ble_eq_true rfl, Nat.le_of_ble_eq_true rfl⟩ rfl rfl (Nat.le_of_ble_eq_true rfl) dX10_best_27 ?_
        refine g_iload_n C dX10_best_30 rfl 2 rfl ?_
        rcases oi_e hf with ⟨c10, hf⟩ | ⟨c10, hf⟩
        · refine g_if_ne_t (tgt := 44) C dX10_best_31 (by decide) c10 ?_
          refine g_aload_n C dX10_best_44 rfl 0 rfl ?_
          refine g_get C (a_0 ad cy _) rfl hin_X10 5 (by decide) hF_X10_51 rfl rfl dX10_best_45 ?_
          refine g_get C (a_41 ad cy _) rfl hin_X0 8 (by decide) hF_X10_220 rfl rfl dX10_best_48 ?_
          obtain ⟨rfl, rfl⟩ := os_e hf
          exact g_iret C rfl dX10_best_51
        · refine g_if_ne_f (tgt := 44) C dX10_best_31 (by decide) (Decidable.of_not_not c10) ?_
          refine g_aload_n C dX10_best_34 rfl 0 rfl ?_
          refine g_get C (a_0 ad cy _) rfl hin_X10 5 (by decide) hF_X10_51 rfl rfl dX10_best_35 ?_
          refine g_get C (a_41 ad cy _) rfl hin_X0 7 (by decide) hF_X10_217 rfl rfl dX10_best_38 ?_
          refine g_goto (tgt := 51) C dX10_best_41 (by decide) ?_
          obtain ⟨rfl, rfl⟩ := os_e hf
          exact g_iret C rfl dX10_best_51
      · refine g_icmp_le_f (tgt := 22) C dX10_best_17 (by decide) c6 ?_
        refine g_iconst (v := (-1)) C dX10_best_20 (by decide) ?_
        obtain ⟨rfl, rfl⟩ := os_e hf
        exact g_iret C rfl dX10_best_21
theorem c_X10_best (l : Launch) (dC : Nat → ClassId) (dI : Nat → Nat → Nat) (ad : Nat → Nat) (cy : Nat → ClassId) (x1 : Int32) (x2 : Int32) : ConI l yX10_best cX10_best 3 (some .int) rm_X10_best dC dI ad cy [.ref (ad 0), .int x1, .int x2] (fun σ => fX10_best σ x1 x2) := con_i (own := RX10) (by decide) rfl (Nat.le_of_ble_eq_true rfl) (fun _ _ _ _ _ _ _ _ σ _ _ C hf => fX10_best_ok C σ x1 x2 hf)
theorem cal_X10_best : CalV yX10_best RX10 cX10_best 3 (some .int) 2 := ⟨hI_X10_best, hS_X10_best, hIni_X10, hC_X10_best, by decide +kernel⟩
abbrev rm_X10_settle : Room := { frames := 6, cells := 0, slots := 0, locals := 139 }
def fX10_settle_b15 (sf_15 : S0 → Int32 → Int32 → Option (Int32 × S0)) (σ : S0) (x1 : Int32) (x2 : Int32) : Option (Int32 × S0) := if x1 ≤ x2 then (some ((-4), σ)) else (obp (fX0_changeInRound σ) (fun r2 σ3 => if ¬ r2 = 0 then (ol (x2 + 1) (fun v6 => sf_15 σ3 x1 v6)) else (some (x2, σ3))))
set_option maxHeartbeats 1000000 in
set_option maxRecDepth 100000 in
theorem fX10_settle_b15_ok {p : Program} {l : Launch} {e : Env} {s : State} {m : MethodId} {args : Array Value} {below : List Frame} {meth : Method} {c : Code} {dC : Nat → ClassId} {dI : Nat → Nat → Nat} {ad : Nat → Nat} {cy : Nat → ClassId} {sz : Nat} (C : Cx p s m args meth c RX10 cX10_settle 3 (some .int) dC dI ad cy sz) {rr : Int32} {ρ : S0} (sf_15 : S0 → Int32 → Int32 → Option (Int32 × S0)) (hs_15 : ∀ (σ : S0) (x1 : Int32) (x2 : Int32) , sf_15 σ x1 x2 = some (rr, ρ) → Gw p l e rm_X10_settle s m args below meth c (MQ below (QcI dC dI ad cy sz rr ρ) args s 0 0 (AW ad sz)) dC dI ad cy 3 sz 0 0 15 [(0, .ref (ad 0)), (1, .int x1), (2, .int x2)] [] σ) (σ : S0) (x1 : Int32) (x2 : Int32)  (hf : fX10_settle_b15 sf_15 σ x1 x2 = some (rr, ρ)) : Gw p l e rm_X10_settle s m args below meth c (MQ below (QcI dC dI ad cy sz rr ρ) args s 0 0 (AW ad sz)) dC dI ad cy 3 sz 0 0 15 [(0, .ref (ad 0)), (1, .int x1), (2, .int x2)] [] σ := by
  unfold fX10_settle_b15 at hf
  refine g_iload_n C dX10_settle_15 rfl 2 rfl ?_
  refine g_iload_n C dX10_settle_16 rfl 1 rfl ?_
  rcases oi_e hf with ⟨c1, hf⟩ | ⟨c1, hf⟩
  · refine g_icmp_ge_t (tgt := 38) C dX10_settle_17 (by decide) c1 ?_
    refine g_bipush (v := (-4)) C dX10_settle_38 (by decide) ?_
    obtain ⟨rfl, rfl⟩ := os_e hf
    exact g_iret C rfl dX10_settle_40
  · refine g_icmp_ge_f (tgt := 38) C dX10_settle_17 (by decide) c1 ?_
    refine g_aload_n C dX10_settle_20 rfl 0 rfl ?_
    refine g_get C (a_0 ad cy _) rfl hin_X10 5 (by decide) hF_X10_51 rfl rfl dX10_settle_21 ?_
    obtain ⟨r2, σ3, h4, hf⟩ := obp_e hf
    refine g_callVi (As := []) (rest := []) C (a_41 ad cy _) rfl (c_X0_changeInRound l dC dI ad cy ) h4 hM_X10_223 cal_X0_changeInRound ⟨Nat.zero_le _, Nat.zero_le _⟩ ⟨rfl, rfl⟩ ⟨Nat.le_of_ble_eq_true rfl, Nat.le_of_ble_eq_true rfl⟩ rfl rfl (Nat.le_of_ble_eq_true rfl) dX10_settle_24 ?_
    rcases oi_e hf with ⟨c5, hf⟩ | ⟨c5, hf⟩
    · refine g_if_ne_t (tgt := 32) C dX10_settle_27 (by decide) c5 ?_
      obtain ⟨v6, ev6, hf⟩ := ol_e hf
      refine g_iinc (j := 2) (w := 1) (lv2 := [(0, .ref (ad 0)), (1, .int x1), (2, .int v6)]) C dX10_settle_32 rfl (by decide) ev6 (by decide) [1, 2, 0] rfl ?_
      refine g_goto (tgt := 15) C dX10_settle_35 (by decide) ?_
      exact g_sub [0, 1, 2] rfl (hs_15 σ3 x1 v6 hf)
    · refine g_if_ne_f (tgt := 32) C dX10_settle_27 (by decide) (Decidable.of_not_not c5) ?_
      refine g_iload_n C dX10_settle_30 rfl 2 rfl ?_
      obtain ⟨rfl, rfl⟩ := os_e hf
      exact g_iret C rfl dX10_settle_31
def fX10_settle_h15  : Nat → S0 → Int32 → Int32 → Option (Int32 × S0)
  | 0 => fun _ _ _ => none
  | n + 1 => fun σ x1 x2 => fX10_settle_b15  (fX10_settle_h15  n) σ x1 x2
set_option maxHeartbeats 1000000 in
set_option maxRecDepth 100000 in
theorem fX10_settle_h15_ok {p : Program} {l : Launch} {e : Env} {s : State} {m : MethodId} {args : Array Value} {below : List Frame} {meth : Method} {c : Code} {dC : Nat → ClassId} {dI : Nat → Nat → Nat} {ad : Nat → Nat} {cy : Nat → ClassId} {sz : Nat} (C : Cx p s m args meth c RX10 cX10_settle 3 (some .int) dC dI ad cy sz) {rr : Int32} {ρ : S0}  : ∀ (n : Nat) (σ : S0) (x1 : Int32) (x2 : Int32)  (_hf : fX10_settle_h15  n σ x1 x2 = some (rr, ρ)), Gw p l e rm_X10_settle s m args below meth c (MQ below (QcI dC dI ad cy sz rr ρ) args s 0 0 (AW ad sz)) dC dI ad cy 3 sz 0 0 15 [(0, .ref (ad 0)), (1, .int x1), (2, .int x2)] [] σ
  | 0, _, _, _, hf => by cases hf
  | n + 1, σ, x1, x2, hf => fX10_settle_b15_ok C  (fX10_settle_h15  n) (fX10_settle_h15_ok C  n) σ x1 x2 hf
def fX10_settle (σ : S0) (x1 : Int32) : Option (Int32 × S0) := if x1 < 1 then (some ((-1), σ)) else (if x1 ≤ 30 then (fX10_settle_h15 400 σ x1 0) else (some ((-1), σ)))
set_option maxHeartbeats 1000000 in
set_option maxRecDepth 100000 in
theorem fX10_settle_ok {p : Program} {l : Launch} {e : Env} {s : State} {m : MethodId} {args : Array Value} {below : List Frame} {meth : Method} {c : Code} {dC : Nat → ClassId} {dI : Nat → Nat → Nat} {ad : Nat → Nat} {cy : Nat → ClassId} {sz : Nat} (C : Cx p s m args meth c RX10 cX10_settle 3 (some .int) dC dI ad cy sz) {rr : Int32} {ρ : S0} (σ : S0) (x1 : Int32)  (hf : fX10_settle σ x1 = some (rr, ρ)) : Gw p l e rm_X10_settle s m args below meth c (MQ below (QcI dC dI ad cy sz rr ρ) args s 0 0 (AW ad sz)) dC dI ad cy 3 sz 0 0 0 [(0, .ref (ad 0)), (1, .int x1)] [] σ := by
  unfold fX10_settle at hf
  refine g_iload_n C dX10_settle_0 rfl 1 rfl ?_
  refine g_iconst (v := 1) C dX10_settle_1 (by decide) ?_
  rcases oi_e hf with ⟨c1, hf⟩ | ⟨c1, hf⟩
  · refine g_icmp_lt_t (tgt := 11) C dX10_settle_2 (by decide) c1 ?_
    refine g_iconst (v := (-1)) C dX10_settle_11 (by decide) ?_
    obtain ⟨rfl, rfl⟩ := os_e hf
    exact g_iret C rfl dX10_settle_12
  · refine g_icmp_lt_f (tgt := 11) C dX10_settle_2 (by decide) c1 ?_
    refine g_iload_n C dX10_settle_5 rfl 1 rfl ?_
    refine g_bipush (v := 30) C dX10_settle_6 (by decide) ?_
    rcases oi_e hf with ⟨c2, hf⟩ | ⟨c2, hf⟩
    · refine g_icmp_le_t (tgt := 13) C dX10_settle_8 (by decide) c2 ?_
      refine g_iconst (v := 0) C dX10_settle_13 (by decide) ?_
      refine g_istore_n (lv2 := [(0, .ref (ad 0)), (1, .int x1), (2, .int 0)]) C dX10_settle_14 rfl (by decide) [1, 2, 0] rfl ?_
      exact g_sub [0, 1, 2] rfl (fX10_settle_h15_ok C 400 σ x1 0 hf)
    · refine g_icmp_le_f (tgt := 13) C dX10_settle_8 (by decide) c2 ?_
      refine g_iconst (v := (-1)) C dX10_settle_11 (by decide) ?_
      obtain ⟨rfl, rfl⟩ := os_e hf
      exact g_iret C rfl dX10_settle_12
theorem c_X10_settle (l : Launch) (dC : Nat → ClassId) (dI : Nat → Nat → Nat) (ad : Nat → Nat) (cy : Nat → ClassId) (x1 : Int32) : ConI l yX10_settle cX10_settle 3 (some .int) rm_X10_settle dC dI ad cy [.ref (ad 0), .int x1] (fun σ => fX10_settle σ x1) := con_i (own := RX10) (by decide) rfl (Nat.le_of_ble_eq_true rfl) (fun _ _ _ _ _ _ _ _ σ _ _ C hf => fX10_settle_ok C σ x1 hf)
theorem cal_X10_settle : CalV yX10_settle RX10 cX10_settle 3 (some .int) 1 := ⟨hI_X10_settle, hS_X10_settle, hIni_X10, hC_X10_settle, by decide +kernel⟩
abbrev rm_X10_settled : Room := { frames := 5, cells := 0, slots := 0, locals := 117 }
def fX10_settled_b2 (sf_2 : S0 → Int32 → Option (Int32 × S0)) (σ : S0) (x1 : Int32) : Option (Int32 × S0) := if (σ 22 0) ≤ x1 then (some (1, σ)) else (obp (fX0_wantsOther σ x1) (fun r2 σ3 => if r2 = 0 then (ol (x1 + 1) (fun v6 => sf_2 σ3 v6)) else (some (0, σ3))))
set_option maxHeartbeats 1000000 in
set_option maxRecDepth 100000 in
theorem fX10_settled_b2_ok {p : Program} {l : Launch} {e : Env} {s : State} {m : MethodId} {args : Array Value} {below : List Frame} {meth : Method} {c : Code} {dC : Nat → ClassId} {dI : Nat → Nat → Nat} {ad : Nat → Nat} {cy : Nat → ClassId} {sz : Nat} (C : Cx p s m args meth c RX10 cX10_settled 2 (some .int) dC dI ad cy sz) {rr : Int32} {ρ : S0} (sf_2 : S0 → Int32 → Option (Int32 × S0)) (hs_2 : ∀ (σ : S0) (x1 : Int32) , sf_2 σ x1 = some (rr, ρ) → Gw p l e rm_X10_settled s m args below meth c (MQ below (QcI dC dI ad cy sz rr ρ) args s 0 0 (AW ad sz)) dC dI ad cy 2 sz 0 0 2 [(0, .ref (ad 0)), (1, .int x1)] [] σ) (σ : S0) (x1 : Int32)  (hf : fX10_settled_b2 sf_2 σ x1 = some (rr, ρ)) : Gw p l e rm_X10_settled s m args below meth c (MQ below (QcI dC dI ad cy sz rr ρ) args s 0 0 (AW ad sz)) dC dI ad cy 2 sz 0 0 2 [(0, .ref (ad 0)), (1, .int x1)] [] σ := by
  unfold fX10_settled_b2 at hf
  refine g_iload_n C dX10_settled_2 rfl 1 rfl ?_
  refine g_aload_n C dX10_settled_3 rfl 0 rfl ?_
  refine g_get C (a_0 ad cy _) rfl hin_X10 2 (by decide) hF_X10_28 rfl rfl dX10_settled_4 ?_
  refine g_get C (a_22 ad cy _) rfl hin_X9 0 (by decide) hF_X10_121 rfl rfl dX10_settled_7 ?_
  rcases oi_e hf with ⟨c1, hf⟩ | ⟨c1, hf⟩
  · refine g_icmp_ge_t (tgt := 32) C dX10_settled_10 (by decide) c1 ?_
    refine g_iconst (v := 1) C dX10_settled_32 (by decide) ?_
    obtain ⟨rfl, rfl⟩ := os_e hf
    exact g_iret C rfl dX10_settled_33
  · refine g_icmp_ge_f (tgt := 32) C dX10_settled_10 (by decide) c1 ?_
    refine g_aload_n C dX10_settled_13 rfl 0 rfl ?_
    refine g_get C (a_0 ad cy _) rfl hin_X10 5 (by decide) hF_X10_51 rfl rfl dX10_settled_14 ?_
    refine g_iload_n C dX10_settled_17 rfl 1 rfl ?_
    obtain ⟨r2, σ3, h4, hf⟩ := obp_e hf
    refine g_callVi (As := [.int x1]) (rest := []) C (a_41 ad cy _) rfl (c_X0_wantsOther l dC dI ad cy x1) h4 hM_X10_226 cal_X0_wantsOther ⟨Nat.zero_le _, Nat.zero_le _⟩ ⟨rfl, rfl⟩ ⟨Nat.le_of_ble_eq_true rfl, Nat.le_of_ble_eq_true rfl⟩ rfl rfl (Nat.le_of_ble_eq_true rfl) dX10_settled_18 ?_
    rcases oi_e hf with ⟨c5, hf⟩ | ⟨c5, hf⟩
    · refine g_if_eq_t (tgt := 26) C dX10_settled_21 (by decide) c5 ?_
      obtain ⟨v6, ev6, hf⟩ := ol_e hf
      refine g_iinc (j := 1) (w := 1) (lv2 := [(0, .ref (ad 0)), (1, .int v6)]) C dX10_settled_26 rfl (by decide) ev6 (by decide) [1, 0] rfl ?_
      refine g_goto (tgt := 2) C dX10_settled_29 (by decide) ?_
      exact g_sub [0, 1] rfl (hs_2 σ3 v6 hf)
    · refine g_if_eq_f (tgt := 26) C dX10_settled_21 (by decide) c5 ?_
      refine g_iconst (v := 0) C dX10_settled_24 (by decide) ?_
      obtain ⟨rfl, rfl⟩ := os_e hf
      exact g_iret C rfl dX10_settled_25
def fX10_settled_h2  : Nat → S0 → Int32 → Option (Int32 × S0)
  | 0 => fun _ _ => none
  | n + 1 => fun σ x1 => fX10_settled_b2  (fX10_settled_h2  n) σ x1
set_option maxHeartbeats 1000000 in
set_option maxRecDepth 100000 in
theorem fX10_settled_h2_ok {p : Program} {l : Launch} {e : Env} {s : State} {m : MethodId} {args : Array Value} {below : List Frame} {meth : Method} {c : Code} {dC : Nat → ClassId} {dI : Nat → Nat → Nat} {ad : Nat → Nat} {cy : Nat → ClassId} {sz : Nat} (C : Cx p s m args meth c RX10 cX10_settled 2 (some .int) dC dI ad cy sz) {rr : Int32} {ρ : S0}  : ∀ (n : Nat) (σ : S0) (x1 : Int32)  (_hf : fX10_settled_h2  n σ x1 = some (rr, ρ)), Gw p l e rm_X10_settled s m args below meth c (MQ below (QcI dC dI ad cy sz rr ρ) args s 0 0 (AW ad sz)) dC dI ad cy 2 sz 0 0 2 [(0, .ref (ad 0)), (1, .int x1)] [] σ
  | 0, _, _, hf => by cases hf
  | n + 1, σ, x1, hf => fX10_settled_b2_ok C  (fX10_settled_h2  n) (fX10_settled_h2_ok C  n) σ x1 hf
def fX10_settled (σ : S0)  : Option (Int32 × S0) := fX10_settled_h2 400 σ 0
set_option maxHeartbeats 1000000 in
set_option maxRecDepth 100000 in
theorem fX10_settled_ok {p : Program} {l : Launch} {e : Env} {s : State} {m : MethodId} {args : Array Value} {below : List Frame} {meth : Method} {c : Code} {dC : Nat → ClassId} {dI : Nat → Nat → Nat} {ad : Nat → Nat} {cy : Nat → ClassId} {sz : Nat} (C : Cx p s m args meth c RX10 cX10_settled 2 (some .int) dC dI ad cy sz) {rr : Int32} {ρ : S0} (σ : S0)   (hf : fX10_settled σ = some (rr, ρ)) : Gw p l e rm_X10_settled s m args below meth c (MQ below (QcI dC dI ad cy sz rr ρ) args s 0 0 (AW ad sz)) dC dI ad cy 2 sz 0 0 0 [(0, .ref (ad 0))] [] σ := by
  unfold fX10_settled at hf
  refine g_iconst (v := 0) C dX10_settled_0 (by decide) ?_
  refine g_istore_n (lv2 := [(0, .ref (ad 0)), (1, .int 0)]) C dX10_settled_1 rfl (by decide) [1, 0] rfl ?_
  exact g_sub [0, 1] rfl (fX10_settled_h2_ok C 400 σ 0 hf)
theorem c_X10_settled (l : Launch) (dC : Nat → ClassId) (dI : Nat → Nat → Nat) (ad : Nat → Nat) (cy : Nat → ClassId)  : ConI l yX10_settled cX10_settled 2 (some .int) rm_X10_settled dC dI ad cy [.ref (ad 0)] (fun σ => fX10_settled σ) := con_i (own := RX10) (by decide) rfl (Nat.le_of_ble_eq_true rfl) (fun _ _ _ _ _ _ _ _ σ _ _ C hf => fX10_settled_ok C σ  hf)
theorem cal_X10_settled : CalV yX10_settled RX10 cX10_settled 2 (some .int) 0 := ⟨hI_X10_settled, hS_X10_settled, hIni_X10, hC_X10_settled, by decide +kernel⟩
abbrev rm_X10_fair : Room := { frames := 3, cells := 0, slots := 0, locals := 72 }
def fX10_fair (σ : S0) (x1 : Int32) (x2 : Int32) (x3 : Int32) : Option (Int32 × S0) := if x1 < 1 then (some ((-1), σ)) else (if (6 : Int32) < x1 then (some ((-1), σ)) else (if x2 < 0 then (some ((-1), σ)) else (if (72 : Int32) < x2 then (some ((-1), σ)) else (if x3 < 0 then (some ((-1), σ)) else (if x3 ≤ 1 then (obp (fX2_choose σ x1 x2) (fun r7 σ8 => if ¬ (σ8 46 5) = 0 then (if ¬ x3 = 0 then (some (σ8 46 5, σ8)) else (some (σ8 46 4, σ8))) else (some ((-4), σ8)))) else (some ((-1), σ)))))))
set_option maxHeartbeats 1000000 in
set_option maxRecDepth 100000 in
theorem fX10_fair_ok {p : Program} {l : Launch} {e : Env} {s : State} {m : MethodId} {args : Array Value} {below : List Frame} {meth : Method} {c : Code} {dC : Nat → ClassId} {dI : Nat → Nat → Nat} {ad : Nat → Nat} {cy : Nat → ClassId} {sz : Nat} (C : Cx p s m args meth c RX10 cX10_fair 4 (some .int) dC dI ad cy sz) {rr : Int32} {ρ : S0} (σ : S0) (x1 : Int32) (x2 : Int32) (x3 : Int32)  (hf : fX10_fair σ x1 x2 x3 = some (rr, ρ)) : Gw p l e rm_X10_fair s m args below meth c (MQ below (QcI dC dI ad cy sz rr ρ) args s 0 0 (AW ad sz)) dC dI ad cy 4 sz 0 0 0 [(0, .ref (ad 0)), (1, .int x1), (2, .int x2), (3, .int x3)] [] σ := by
  unfold fX10_fair at hf
  refine g_iload_n C dX10_fair_0 rfl 1 rfl ?_
  refine g_iconst (v := 1) C dX10_fair_1 (by decide) ?_
  rcases oi_e hf with ⟨c1, hf⟩ | ⟨c1, hf⟩
  · refine g_icmp_lt_t (tgt := 30) C dX10_fair_2 (by decide) c1 ?_
    refine g_iconst (v := (-1)) C dX10_fair_30 (by decide) ?_
    obtain ⟨rfl, rfl⟩ := os_e hf
    exact g_iret C rfl dX10_fair_31
  · refine g_icmp_lt_f (tgt := 30) C dX10_fair_2 (by decide) c1 ?_
    refine g_iload_n C dX10_fair_5 rfl 1 rfl ?_
    refine g_bipush (v := 6) C dX10_fair_6 (by decide) ?_
    rcases oi_e hf with ⟨c2, hf⟩ | ⟨c2, hf⟩
    · refine g_icmp_gt_t (tgt := 30) C dX10_fair_8 (by decide) c2 ?_
      refine g_iconst (v := (-1)) C dX10_fair_30 (by decide) ?_
      obtain ⟨rfl, rfl⟩ := os_e hf
      exact g_iret C rfl dX10_fair_31
    · refine g_icmp_gt_f (tgt := 30) C dX10_fair_8 (by decide) c2 ?_
      refine g_iload_n C dX10_fair_11 rfl 2 rfl ?_
      rcases oi_e hf with ⟨c3, hf⟩ | ⟨c3, hf⟩
      · refine g_if_lt_t (tgt := 30) C dX10_fair_12 (by decide) c3 ?_
        refine g_iconst (v := (-1)) C dX10_fair_30 (by decide) ?_
        obtain ⟨rfl, rfl⟩ := os_e hf
        exact g_iret C rfl dX10_fair_31
      · refine g_if_lt_f (tgt := 30) C dX10_fair_12 (by decide) c3 ?_
        refine g_iload_n C dX10_fair_15 rfl 2 rfl ?_
        refine g_bipush (v := 72) C dX10_fair_16 (by decide) ?_
        rcases oi_e hf with ⟨c4, hf⟩ | ⟨c4, hf⟩
        · refine g_icmp_gt_t (tgt := 30) C dX10_fair_18 (by decide) c4 ?_
          refine g_iconst (v := (-1)) C dX10_fair_30 (by decide) ?_
          obtain ⟨rfl, rfl⟩ := os_e hf
          exact g_iret C rfl dX10_fair_31
        · refine g_icmp_gt_f (tgt := 30) C dX10_fair_18 (by decide) c4 ?_
          refine g_iload_n C dX10_fair_21 rfl 3 rfl ?_
          rcases oi_e hf with ⟨c5, hf⟩ | ⟨c5, hf⟩
          · refine g_if_lt_t (tgt := 30) C dX10_fair_22 (by decide) c5 ?_
            refine g_iconst (v := (-1)) C dX10_fair_30 (by decide) ?_
            obtain ⟨rfl, rfl⟩ := os_e hf
            exact g_iret C rfl dX10_fair_31
          · refine g_if_lt_f (tgt := 30) C dX10_fair_22 (by decide) c5 ?_
            refine g_iload_n C dX10_fair_25 rfl 3 rfl ?_
            refine g_iconst (v := 1) C dX10_fair_26 (by decide) ?_
            rcases oi_e hf with ⟨c6, hf⟩ | ⟨c6, hf⟩
            · refine g_icmp_le_t (tgt := 32) C dX10_fair_27 (by decide) c6 ?_
              refine g_aload_n C dX10_fair_32 rfl 0 rfl ?_
              refine g_get C (a_0 ad cy _) rfl hin_X10 6 (by decide) hF_X10_58 rfl rfl dX10_fair_33 ?_
              refine g_iload_n C dX10_fair_36 rfl 1 rfl ?_
              refine g_iload_n C dX10_fair_37 rfl 2 rfl ?_
              obtain ⟨r7, σ8, h9, hf⟩ := obp_e hf
              refine g_callVv (As := [.int x1, .int x2]) (rest := []) C (a_46 ad cy _) rfl (c_X2_choose l dC dI ad cy x1 x2) h9 hM_X10_233 cal_X2_choose ⟨Nat.zero_le _, Nat.zero_le _⟩ ⟨rfl, rfl⟩ ⟨Nat.le_of_ble_eq_true rfl, Nat.le_of_ble_eq_true rfl⟩ rfl rfl (Nat.le_of_ble_eq_true rfl) dX10_fair_38 ?_
              refine g_aload_n C dX10_fair_41 rfl 0 rfl ?_
              refine g_get C (a_0 ad cy _) rfl hin_X10 6 (by decide) hF_X10_58 rfl rfl dX10_fair_42 ?_
              refine g_get C (a_46 ad cy _) rfl hin_X2 5 (by decide) hF_X10_236 rfl rfl dX10_fair_45 ?_
              rcases oi_e hf with ⟨c10, hf⟩ | ⟨c10, hf⟩
              · refine g_if_ne_t (tgt := 54) C dX10_fair_48 (by decide) c10 ?_
                refine g_iload_n C dX10_fair_54 rfl 3 rfl ?_
                rcases oi_e hf with ⟨c11, hf⟩ | ⟨c11, hf⟩
                · refine g_if_ne_t (tgt := 68) C dX10_fair_55 (by decide) c11 ?_
                  refine g_aload_n C dX10_fair_68 rfl 0 rfl ?_
                  refine g_get C (a_0 ad cy _) rfl hin_X10 6 (by decide) hF_X10_58 rfl rfl dX10_fair_69 ?_
                  refine g_get C (a_46 ad cy _) rfl hin_X2 5 (by decide) hF_X10_236 rfl rfl dX10_fair_72 ?_
                  obtain ⟨rfl, rfl⟩ := os_e hf
                  exact g_iret C rfl dX10_fair_75
                · refine g_if_ne_f (tgt := 68) C dX10_fair_55 (by decide) (Decidable.of_not_not c11) ?_
                  refine g_aload_n C dX10_fair_58 rfl 0 rfl ?_
                  refine g_get C (a_0 ad cy _) rfl hin_X10 6 (by decide) hF_X10_58 rfl rfl dX10_fair_59 ?_
                  refine g_get C (a_46 ad cy _) rfl hin_X2 4 (by decide) hF_X10_239 rfl rfl dX10_fair_62 ?_
                  refine g_goto (tgt := 75) C dX10_fair_65 (by decide) ?_
                  obtain ⟨rfl, rfl⟩ := os_e hf
                  exact g_iret C rfl dX10_fair_75
              · refine g_if_ne_f (tgt := 54) C dX10_fair_48 (by decide) (Decidable.of_not_not c10) ?_
                refine g_bipush (v := (-4)) C dX10_fair_51 (by decide) ?_
                obtain ⟨rfl, rfl⟩ := os_e hf
                exact g_iret C rfl dX10_fair_53
            · refine g_icmp_le_f (tgt := 32) C dX10_fair_27 (by decide) c6 ?_
              refine g_iconst (v := (-1)) C dX10_fair_30 (by decide) ?_
              obtain ⟨rfl, rfl⟩ := os_e hf
              exact g_iret C rfl dX10_fair_31
theorem c_X10_fair (l : Launch) (dC : Nat → ClassId) (dI : Nat → Nat → Nat) (ad : Nat → Nat) (cy : Nat → ClassId) (x1 : Int32) (x2 : Int32) (x3 : Int32) : ConI l yX10_fair cX10_fair 4 (some .int) rm_X10_fair dC dI ad cy [.ref (ad 0), .int x1, .int x2, .int x3] (fun σ => fX10_fair σ x1 x2 x3) := con_i (own := RX10) (by decide) rfl (Nat.le_of_ble_eq_true rfl) (fun _ _ _ _ _ _ _ _ σ _ _ C hf => fX10_fair_ok C σ x1 x2 x3 hf)
theorem cal_X10_fair : CalV yX10_fair RX10 cX10_fair 4 (some .int) 3 := ⟨hI_X10_fair, hS_X10_fair, hIni_X10, hC_X10_fair, by decide +kernel⟩
abbrev rm_X10_feast : Room := { frames := 4, cells := 0, slots := 0, locals := 95 }
def fX10_feast (σ : S0) (x1 : Int32) (x2 : Int32) : Option (Int32 × S0) := obp (fX10_fair σ x1 ((72 : Int32)) x2) (fun r1 σ2 => some (r1, σ2))
set_option maxHeartbeats 1000000 in
set_option maxRecDepth 100000 in
theorem fX10_feast_ok {p : Program} {l : Launch} {e : Env} {s : State} {m : MethodId} {args : Array Value} {below : List Frame} {meth : Method} {c : Code} {dC : Nat → ClassId} {dI : Nat → Nat → Nat} {ad : Nat → Nat} {cy : Nat → ClassId} {sz : Nat} (C : Cx p s m args meth c RX10 cX10_feast 3 (some .int) dC dI ad cy sz) {rr : Int32} {ρ : S0} (σ : S0) (x1 : Int32) (x2 : Int32)  (hf : fX10_feast σ x1 x2 = some (rr, ρ)) : Gw p l e rm_X10_feast s m args below meth c (MQ below (QcI dC dI ad cy sz rr ρ) args s 0 0 (AW ad sz)) dC dI ad cy 3 sz 0 0 0 [(0, .ref (ad 0)), (1, .int x1), (2, .int x2)] [] σ := by
  unfold fX10_feast at hf
  refine g_aload_n C dX10_feast_0 rfl 0 rfl ?_
  refine g_iload_n C dX10_feast_1 rfl 1 rfl ?_
  refine g_bipush (v := 72) C dX10_feast_2 (by decide) ?_
  refine g_iload_n C dX10_feast_4 rfl 2 rfl ?_
  obtain ⟨r1, σ2, h3, hf⟩ := obp_e hf
  refine g_callVi (As := [.int x1, .int 72, .int x2]) (rest := []) C (a_0 ad cy _) rfl (c_X10_fair l dC dI ad cy x1 ((72 : Int32)) x2) h3 hM_X10_229 cal_X10_fair ⟨Nat.zero_le _, Nat.zero_le _⟩ ⟨rfl, rfl⟩ ⟨Nat.le_of_ble_eq_true rfl, Nat.le_of_ble_eq_true rfl⟩ rfl rfl (Nat.le_of_ble_eq_true rfl) dX10_feast_5 ?_
  obtain ⟨rfl, rfl⟩ := os_e hf
  exact g_iret C rfl dX10_feast_8
theorem c_X10_feast (l : Launch) (dC : Nat → ClassId) (dI : Nat → Nat → Nat) (ad : Nat → Nat) (cy : Nat → ClassId) (x1 : Int32) (x2 : Int32) : ConI l yX10_feast cX10_feast 3 (some .int) rm_X10_feast dC dI ad cy [.ref (ad 0), .int x1, .int x2] (fun σ => fX10_feast σ x1 x2) := con_i (own := RX10) (by decide) rfl (Nat.le_of_ble_eq_true rfl) (fun _ _ _ _ _ _ _ _ σ _ _ C hf => fX10_feast_ok C σ x1 x2 hf)
theorem cal_X10_feast : CalV yX10_feast RX10 cX10_feast 3 (some .int) 2 := ⟨hI_X10_feast, hS_X10_feast, hIni_X10, hC_X10_feast, by decide +kernel⟩
abbrev rm_X10_nearest : Room := { frames := 4, cells := 0, slots := 0, locals := 98 }
def fX10_nearest_b42  (σ : S0) (x1 : Int32) (x2 : Int32) (x3 : Int32) : Option (Int32 × S0) := obp (fX4_find σ x1 x2) (fun r1 σ2 => if ¬ (σ2 55 4) = 1000000 then (if ¬ x3 = 0 then (ol (x3 - 10) (fun v6 => og (¬ (v6 < 0 ∨ 12 ≤ v6.toNatClampNeg)) (ol (σ2 69 v6.toNatClampNeg) (fun v8 => some (v8, σ2))))) else (some (σ2 55 4, σ2))) else (some ((-4), σ2)))
set_option maxHeartbeats 1000000 in
set_option maxRecDepth 100000 in
theorem fX10_nearest_b42_ok {p : Program} {l : Launch} {e : Env} {s : State} {m : MethodId} {args : Array Value} {below : List Frame} {meth : Method} {c : Code} {dC : Nat → ClassId} {dI : Nat → Nat → Nat} {ad : Nat → Nat} {cy : Nat → ClassId} {sz : Nat} (C : Cx p s m args meth c RX10 cX10_nearest 4 (some .int) dC dI ad cy sz) {rr : Int32} {ρ : S0}  (σ : S0) (x1 : Int32) (x2 : Int32) (x3 : Int32)  (hf : fX10_nearest_b42 σ x1 x2 x3 = some (rr, ρ)) : Gw p l e rm_X10_nearest s m args below meth c (MQ below (QcI dC dI ad cy sz rr ρ) args s 0 0 (AW ad sz)) dC dI ad cy 4 sz 0 0 42 [(0, .ref (ad 0)), (1, .int x1), (2, .int x2), (3, .int x3)] [] σ := by
  unfold fX10_nearest_b42 at hf
  refine g_aload_n C dX10_nearest_42 rfl 0 rfl ?_
  refine g_get C (a_0 ad cy _) rfl hin_X10 7 (by decide) hF_X10_65 rfl rfl dX10_nearest_43 ?_
  refine g_iload_n C dX10_nearest_46 rfl 1 rfl ?_
  refine g_iload_n C dX10_nearest_47 rfl 2 rfl ?_
  obtain ⟨r1, σ2, h3, hf⟩ := obp_e hf
  refine g_callVv (As := [.int x1, .int x2]) (rest := []) C (a_55 ad cy _) rfl (c_X4_find l dC dI ad cy x1 x2) h3 hM_X10_240 cal_X4_find ⟨Nat.zero_le _, Nat.zero_le _⟩ ⟨rfl, rfl⟩ ⟨Nat.le_of_ble_eq_true rfl, Nat.le_of_ble_eq_true rfl⟩ rfl rfl (Nat.le_of_ble_eq_true rfl) dX10_nearest_48 ?_
  refine g_aload_n C dX10_nearest_51 rfl 0 rfl ?_
  refine g_get C (a_0 ad cy _) rfl hin_X10 7 (by decide) hF_X10_65 rfl rfl dX10_nearest_52 ?_
  refine g_get C (a_55 ad cy _) rfl hin_X4 4 (by decide) hF_X10_243 rfl rfl dX10_nearest_55 ?_
  refine g_ldc (v := 1000000) C dX10_nearest_58 hK_X10_246 ?_
  rcases oi_e hf with ⟨c4, hf⟩ | ⟨c4, hf⟩
  · refine g_icmp_ne_t (tgt := 66) C dX10_nearest_60 (by decide) c4 ?_
    refine g_iload_n C dX10_nearest_66 rfl 3 rfl ?_
    rcases oi_e hf with ⟨c5, hf⟩ | ⟨c5, hf⟩
    · refine g_if_ne_t (tgt := 80) C dX10_nearest_67 (by decide) c5 ?_
      refine g_aload_n C dX10_nearest_80 rfl 0 rfl ?_
      refine g_get C (a_0 ad cy _) rfl hin_X10 7 (by decide) hF_X10_65 rfl rfl dX10_nearest_81 ?_
      refine g_get C (a_55 ad cy _) rfl hin_X4 3 (by decide) hF_X10_247 rfl rfl dX10_nearest_84 ?_
      refine g_iload_n C dX10_nearest_87 rfl 3 rfl ?_
      refine g_bipush (v := 10) C dX10_nearest_88 (by decide) ?_
      refine g_isub C dX10_nearest_90 ?_
      obtain ⟨v6, ev6, hf⟩ := ol_e hf
      refine g_nm ev6 ?_
      obtain ⟨h7, hf⟩ := og_e hf
      refine g_iald C (a_69 ad cy _) h7 dX10_nearest_91 ?_
      obtain ⟨v8, ev8, hf⟩ := ol_e hf
      refine g_nm ev8 ?_
      obtain ⟨rfl, rfl⟩ := os_e hf
      exact g_iret C rfl dX10_nearest_92
    · refine g_if_ne_f (tgt := 80) C dX10_nearest_67 (by decide) (Decidable.of_not_not c5) ?_
      refine g_aload_n C dX10_nearest_70 rfl 0 rfl ?_
      refine g_get C (a_0 ad cy _) rfl hin_X10 7 (by decide) hF_X10_65 rfl rfl dX10_nearest_71 ?_
      refine g_get C (a_55 ad cy _) rfl hin_X4 4 (by decide) hF_X10_243 rfl rfl dX10_nearest_74 ?_
      refine g_goto (tgt := 92) C dX10_nearest_77 (by decide) ?_
      obtain ⟨rfl, rfl⟩ := os_e hf
      exact g_iret C rfl dX10_nearest_92
  · refine g_icmp_ne_f (tgt := 66) C dX10_nearest_60 (by decide) (Decidable.of_not_not c4) ?_
    refine g_bipush (v := (-4)) C dX10_nearest_63 (by decide) ?_
    obtain ⟨rfl, rfl⟩ := os_e hf
    exact g_iret C rfl dX10_nearest_65
def fX10_nearest (σ : S0) (x1 : Int32) (x2 : Int32) (x3 : Int32) : Option (Int32 × S0) := obp (fX9_hasTune σ 22 x1) (fun r1 σ2 => if r1 = 0 then (some ((-1), σ2)) else (obp (fX1_hasBell σ2 32 x2) (fun r5 σ6 => if ¬ r5 = 0 then (if x3 = 0 then (fX10_nearest_b42 σ6 x1 x2 x3) else (obp (fX9_asksStroke σ6 22 x1 x3) (fun r10 σ11 => if ¬ r10 = 0 then (fX10_nearest_b42 σ11 x1 x2 x3) else (some ((-1), σ11))))) else (some ((-1), σ6)))))
set_option maxHeartbeats 1000000 in
set_option maxRecDepth 100000 in
theorem fX10_nearest_ok {p : Program} {l : Launch} {e : Env} {s : State} {m : MethodId} {args : Array Value} {below : List Frame} {meth : Method} {c : Code} {dC : Nat → ClassId} {dI : Nat → Nat → Nat} {ad : Nat → Nat} {cy : Nat → ClassId} {sz : Nat} (C : Cx p s m args meth c RX10 cX10_nearest 4 (some .int) dC dI ad cy sz) {rr : Int32} {ρ : S0} (σ : S0) (x1 : Int32) (x2 : Int32) (x3 : Int32)  (hf : fX10_nearest σ x1 x2 x3 = some (rr, ρ)) : Gw p l e rm_X10_nearest s m args below meth c (MQ below (QcI dC dI ad cy sz rr ρ) args s 0 0 (AW ad sz)) dC dI ad cy 4 sz 0 0 0 [(0, .ref (ad 0)), (1, .int x1), (2, .int x2), (3, .int x3)] [] σ := by
  unfold fX10_nearest at hf
  refine g_aload_n C dX10_nearest_0 rfl 0 rfl ?_
  refine g_get C (a_0 ad cy _) rfl hin_X10 2 (by decide) hF_X10_28 rfl rfl dX10_nearest_1 ?_
  refine g_iload_n C dX10_nearest_4 rfl 1 rfl ?_
  obtain ⟨r1, σ2, h3, hf⟩ := obp_e hf
  refine g_callVi (As := [.int x1]) (rest := []) C (a_22 ad cy _) rfl (c_X9_hasTune l dC dI ad cy 22 k_isTown_22 x1) h3 hM_X10_147 cal_X9_hasTune ⟨Nat.zero_le _, Nat.zero_le _⟩ ⟨rfl, rfl⟩ ⟨Nat.le_of_ble_eq_true rfl, Nat.le_of_ble_eq_true rfl⟩ rfl rfl (Nat.le_of_ble_eq_true rfl) dX10_nearest_5 ?_
  rcases oi_e hf with ⟨c4, hf⟩ | ⟨c4, hf⟩
  · refine g_if_eq_t (tgt := 22) C dX10_nearest_8 (by decide) c4 ?_
    refine g_iconst (v := (-1)) C dX10_nearest_22 (by decide) ?_
    obtain ⟨rfl, rfl⟩ := os_e hf
    exact g_iret C rfl dX10_nearest_23
  · refine g_if_eq_f (tgt := 22) C dX10_nearest_8 (by decide) c4 ?_
    refine g_aload_n C dX10_nearest_11 rfl 0 rfl ?_
    refine g_get C (a_0 ad cy _) rfl hin_X10 3 (by decide) hF_X10_36 rfl rfl dX10_nearest_12 ?_
    refine g_iload_n C dX10_nearest_15 rfl 2 rfl ?_
    obtain ⟨r5, σ6, h7, hf⟩ := obp_e hf
    refine g_callVi (As := [.int x2]) (rest := []) C (a_32 ad cy _) rfl (c_X1_hasBell l dC dI ad cy 32 k_isChimes_32 x2) h7 hM_X10_127 cal_X1_hasBell ⟨Nat.zero_le _, Nat.zero_le _⟩ ⟨rfl, rfl⟩ ⟨Nat.le_of_ble_eq_true rfl, Nat.le_of_ble_eq_true rfl⟩ rfl rfl (Nat.le_of_ble_eq_true rfl) dX10_nearest_16 ?_
    rcases oi_e hf with ⟨c8, hf⟩ | ⟨c8, hf⟩
    · refine g_if_ne_t (tgt := 24) C dX10_nearest_19 (by decide) c8 ?_
      refine g_iload_n C dX10_nearest_24 rfl 3 rfl ?_
      rcases oi_e hf with ⟨c9, hf⟩ | ⟨c9, hf⟩
      · refine g_if_eq_t (tgt := 42) C dX10_nearest_25 (by decide) c9 ?_
        exact g_sub [0, 1, 2, 3] rfl (fX10_nearest_b42_ok C σ6 x1 x2 x3 hf)
      · refine g_if_eq_f (tgt := 42) C dX10_nearest_25 (by decide) c9 ?_
        refine g_aload_n C dX10_nearest_28 rfl 0 rfl ?_
        refine g_get C (a_0 ad cy _) rfl hin_X10 2 (by decide) hF_X10_28 rfl rfl dX10_nearest_29 ?_
        refine g_iload_n C dX10_nearest_32 rfl 1 rfl ?_
        refine g_iload_n C dX10_nearest_33 rfl 3 rfl ?_
        obtain ⟨r10, σ11, h12, hf⟩ := obp_e hf
        refine g_callVi (As := [.int x1, .int x3]) (rest := []) C (a_22 ad cy _) rfl (c_X9_asksStroke l dC dI ad cy 22 k_isTown_22 x1 x3) h12 hM_X10_155 cal_X9_asksStroke ⟨Nat.zero_le _, Nat.zero_le _⟩ ⟨rfl, rfl⟩ ⟨Nat.le_of_ble_eq_true rfl, Nat.le_of_ble_eq_true rfl⟩ rfl rfl (Nat.le_of_ble_eq_true rfl) dX10_nearest_34 ?_
        rcases oi_e hf with ⟨c13, hf⟩ | ⟨c13, hf⟩
        · refine g_if_ne_t (tgt := 42) C dX10_nearest_37 (by decide) c13 ?_
          exact g_sub [0, 1, 2, 3] rfl (fX10_nearest_b42_ok C σ11 x1 x2 x3 hf)
        · refine g_if_ne_f (tgt := 42) C dX10_nearest_37 (by decide) (Decidable.of_not_not c13) ?_
          refine g_iconst (v := (-1)) C dX10_nearest_40 (by decide) ?_
          obtain ⟨rfl, rfl⟩ := os_e hf
          exact g_iret C rfl dX10_nearest_41
    · refine g_if_ne_f (tgt := 24) C dX10_nearest_19 (by decide) (Decidable.of_not_not c8) ?_
      refine g_iconst (v := (-1)) C dX10_nearest_22 (by decide) ?_
      obtain ⟨rfl, rfl⟩ := os_e hf
      exact g_iret C rfl dX10_nearest_23
theorem c_X10_nearest (l : Launch) (dC : Nat → ClassId) (dI : Nat → Nat → Nat) (ad : Nat → Nat) (cy : Nat → ClassId) (x1 : Int32) (x2 : Int32) (x3 : Int32) : ConI l yX10_nearest cX10_nearest 4 (some .int) rm_X10_nearest dC dI ad cy [.ref (ad 0), .int x1, .int x2, .int x3] (fun σ => fX10_nearest σ x1 x2 x3) := con_i (own := RX10) (by decide) rfl (Nat.le_of_ble_eq_true rfl) (fun _ _ _ _ _ _ _ _ σ _ _ C hf => fX10_nearest_ok C σ x1 x2 x3 hf)
theorem cal_X10_nearest : CalV yX10_nearest RX10 cX10_nearest 4 (some .int) 3 := ⟨hI_X10_nearest, hS_X10_nearest, hIni_X10, hC_X10_nearest, by decide +kernel⟩
abbrev rm_X10_dear : Room := { frames := 4, cells := 0, slots := 0, locals := 98 }
def fX10_dear_b65 (sf_21 : S0 → Int32 → Int32 → Int32 → Int32 → Option (Int32 × S0)) (σ : S0) (x1 : Int32) (x2 : Int32) (x3 : Int32) (x4 : Int32) : Option (Int32 × S0) := ol (x4 + 1) (fun v1 => sf_21 σ x1 x2 x3 v1)
set_option maxHeartbeats 1000000 in
set_option maxRecDepth 100000 in
theorem fX10_dear_b65_ok {p : Program} {l : Launch} {e : Env} {s : State} {m : MethodId} {args : Array Value} {below : List Frame} {meth : Method} {c : Code} {dC : Nat → ClassId} {dI : Nat → Nat → Nat} {ad : Nat → Nat} {cy : Nat → ClassId} {sz : Nat} (C : Cx p s m args meth c RX10 cX10_dear 5 (some .int) dC dI ad cy sz) {rr : Int32} {ρ : S0} (sf_21 : S0 → Int32 → Int32 → Int32 → Int32 → Option (Int32 × S0)) (hs_21 : ∀ (σ : S0) (x1 : Int32) (x2 : Int32) (x3 : Int32) (x4 : Int32) , sf_21 σ x1 x2 x3 x4 = some (rr, ρ) → Gw p l e rm_X10_dear s m args below meth c (MQ below (QcI dC dI ad cy sz rr ρ) args s 0 0 (AW ad sz)) dC dI ad cy 5 sz 0 0 21 [(0, .ref (ad 0)), (1, .int x1), (2, .int x2), (3, .int x3), (4, .int x4)] [] σ) (σ : S0) (x1 : Int32) (x2 : Int32) (x3 : Int32) (x4 : Int32)  (hf : fX10_dear_b65 sf_21 σ x1 x2 x3 x4 = some (rr, ρ)) : Gw p l e rm_X10_dear s m args below meth c (MQ below (QcI dC dI ad cy sz rr ρ) args s 0 0 (AW ad sz)) dC dI ad cy 5 sz 0 0 65 [(0, .ref (ad 0)), (1, .int x1), (2, .int x2), (3, .int x3), (4, .int x4)] [] σ := by
  unfold fX10_dear_b65 at hf
  obtain ⟨v1, ev1, hf⟩ := ol_e hf
  refine g_iinc (j := 4) (w := 1) (lv2 := [(0, .ref (ad 0)), (1, .int x1), (2, .int x2), (3, .int x3), (4, .int v1)]) C dX10_dear_65 rfl (by decide) ev1 (by decide) [1, 2, 3, 4, 0] rfl ?_
  refine g_goto (tgt := 21) C dX10_dear_68 (by decide) ?_
  exact g_sub [0, 1, 2, 3, 4] rfl (hs_21 σ x1 x2 x3 v1 hf)
def fX10_dear_b21 (sf_21 : S0 → Int32 → Int32 → Int32 → Int32 → Option (Int32 × S0)) (σ : S0) (x1 : Int32) (x2 : Int32) (x3 : Int32) (x4 : Int32) : Option (Int32 × S0) := if (σ 32 0) ≤ x4 then (some (x2, σ)) else (obp (fX4_find σ x1 x4) (fun r2 σ3 => if (σ3 55 4) ≤ x3 then (fX10_dear_b65 sf_21 σ3 x1 x2 x3 x4) else (ol (σ3 55 4) (fun v6 => fX10_dear_b65 sf_21 σ3 x1 x4 v6 x4))))
set_option maxHeartbeats 1000000 in
set_option maxRecDepth 100000 in
theorem fX10_dear_b21_ok {p : Program} {l : Launch} {e : Env} {s : State} {m : MethodId} {args : Array Value} {below : List Frame} {meth : Method} {c : Code} {dC : Nat → ClassId} {dI : Nat → Nat → Nat} {ad : Nat → Nat} {cy : Nat → ClassId} {sz : Nat} (C : Cx p s m args meth c RX10 cX10_dear 5 (some .int) dC dI ad cy sz) {rr : Int32} {ρ : S0} (sf_21 : S0 → Int32 → Int32 → Int32 → Int32 → Option (Int32 × S0)) (hs_21 : ∀ (σ : S0) (x1 : Int32) (x2 : Int32) (x3 : Int32) (x4 : Int32) , sf_21 σ x1 x2 x3 x4 = some (rr, ρ) → Gw p l e rm_X10_dear s m args below meth c (MQ below (QcI dC dI ad cy sz rr ρ) args s 0 0 (AW ad sz)) dC dI ad cy 5 sz 0 0 21 [(0, .ref (ad 0)), (1, .int x1), (2, .int x2), (3, .int x3), (4, .int x4)] [] σ) (σ : S0) (x1 : Int32) (x2 : Int32) (x3 : Int32) (x4 : Int32)  (hf : fX10_dear_b21 sf_21 σ x1 x2 x3 x4 = some (rr, ρ)) : Gw p l e rm_X10_dear s m args below meth c (MQ below (QcI dC dI ad cy sz rr ρ) args s 0 0 (AW ad sz)) dC dI ad cy 5 sz 0 0 21 [(0, .ref (ad 0)), (1, .int x1), (2, .int x2), (3, .int x3), (4, .int x4)] [] σ := by
  unfold fX10_dear_b21 at hf
  refine g_iload C dX10_dear_21 4 rfl ?_
  refine g_aload_n C dX10_dear_23 rfl 0 rfl ?_
  refine g_get C (a_0 ad cy _) rfl hin_X10 3 (by decide) hF_X10_36 rfl rfl dX10_dear_24 ?_
  refine g_get C (a_32 ad cy _) rfl hin_X1 0 (by decide) hF_X10_250 rfl rfl dX10_dear_27 ?_
  rcases oi_e hf with ⟨c1, hf⟩ | ⟨c1, hf⟩
  · refine g_icmp_ge_t (tgt := 71) C dX10_dear_30 (by decide) c1 ?_
    refine g_iload_n C dX10_dear_71 rfl 2 rfl ?_
    obtain ⟨rfl, rfl⟩ := os_e hf
    exact g_iret C rfl dX10_dear_72
  · refine g_icmp_ge_f (tgt := 71) C dX10_dear_30 (by decide) c1 ?_
    refine g_aload_n C dX10_dear_33 rfl 0 rfl ?_
    refine g_get C (a_0 ad cy _) rfl hin_X10 7 (by decide) hF_X10_65 rfl rfl dX10_dear_34 ?_
    refine g_iload_n C dX10_dear_37 rfl 1 rfl ?_
    refine g_iload C dX10_dear_38 4 rfl ?_
    obtain ⟨r2, σ3, h4, hf⟩ := obp_e hf
    refine g_callVv (As := [.int x1, .int x4]) (rest := []) C (a_55 ad cy _) rfl (c_X4_find l dC dI ad cy x1 x4) h4 hM_X10_240 cal_X4_find ⟨Nat.zero_le _, Nat.zero_le _⟩ ⟨rfl, rfl⟩ ⟨Nat.le_of_ble_eq_true rfl, Nat.le_of_ble_eq_true rfl⟩ rfl rfl (Nat.le_of_ble_eq_true rfl) dX10_dear_40 ?_
    refine g_aload_n C dX10_dear_43 rfl 0 rfl ?_
    refine g_get C (a_0 ad cy _) rfl hin_X10 7 (by decide) hF_X10_65 rfl rfl dX10_dear_44 ?_
    refine g_get C (a_55 ad cy _) rfl hin_X4 4 (by decide) hF_X10_243 rfl rfl dX10_dear_47 ?_
    refine g_iload_n C dX10_dear_50 rfl 3 rfl ?_
    rcases oi_e hf with ⟨c5, hf⟩ | ⟨c5, hf⟩
    · refine g_icmp_le_t (tgt := 65) C dX10_dear_51 (by decide) c5 ?_
      exact g_sub [0, 1, 2, 3, 4] rfl (fX10_dear_b65_ok C sf_21 hs_21 σ3 x1 x2 x3 x4 hf)
    · refine g_icmp_le_f (tgt := 65) C dX10_dear_51 (by decide) c5 ?_
      refine g_aload_n C dX10_dear_54 rfl 0 rfl ?_
      refine g_get C (a_0 ad cy _) rfl hin_X10 7 (by decide) hF_X10_65 rfl rfl dX10_dear_55 ?_
      refine g_get C (a_55 ad cy _) rfl hin_X4 4 (by decide) hF_X10_243 rfl rfl dX10_dear_58 ?_
      obtain ⟨v6, ev6, hf⟩ := ol_e hf
      refine g_nm ev6 ?_
      refine g_istore_n (lv2 := [(0, .ref (ad 0)), (1, .int x1), (2, .int x2), (3, .int v6), (4, .int x4)]) C dX10_dear_61 rfl (by decide) [1, 2, 3, 0, 4] rfl ?_
      refine g_iload C dX10_dear_62 4 rfl ?_
      refine g_istore_n (lv2 := [(0, .ref (ad 0)), (1, .int x1), (2, .int x4), (3, .int v6), (4, .int x4)]) C dX10_dear_64 rfl (by decide) [1, 2, 0, 3, 4] rfl ?_
      exact g_sub [0, 1, 2, 3, 4] rfl (fX10_dear_b65_ok C sf_21 hs_21 σ3 x1 x4 v6 x4 hf)
def fX10_dear_h21  : Nat → S0 → Int32 → Int32 → Int32 → Int32 → Option (Int32 × S0)
  | 0 => fun _ _ _ _ _ => none
  | n + 1 => fun σ x1 x2 x3 x4 => fX10_dear_b21  (fX10_dear_h21  n) σ x1 x2 x3 x4
set_option maxHeartbeats 1000000 in
set_option maxRecDepth 100000 in
theorem fX10_dear_h21_ok {p : Program} {l : Launch} {e : Env} {s : State} {m : MethodId} {args : Array Value} {below : List Frame} {meth : Method} {c : Code} {dC : Nat → ClassId} {dI : Nat → Nat → Nat} {ad : Nat → Nat} {cy : Nat → ClassId} {sz : Nat} (C : Cx p s m args meth c RX10 cX10_dear 5 (some .int) dC dI ad cy sz) {rr : Int32} {ρ : S0}  : ∀ (n : Nat) (σ : S0) (x1 : Int32) (x2 : Int32) (x3 : Int32) (x4 : Int32)  (_hf : fX10_dear_h21  n σ x1 x2 x3 x4 = some (rr, ρ)), Gw p l e rm_X10_dear s m args below meth c (MQ below (QcI dC dI ad cy sz rr ρ) args s 0 0 (AW ad sz)) dC dI ad cy 5 sz 0 0 21 [(0, .ref (ad 0)), (1, .int x1), (2, .int x2), (3, .int x3), (4, .int x4)] [] σ
  | 0, _, _, _, _, _, hf => by cases hf
  | n + 1, σ, x1, x2, x3, x4, hf => fX10_dear_b21_ok C  (fX10_dear_h21  n) (fX10_dear_h21_ok C  n) σ x1 x2 x3 x4 hf
def fX10_dear (σ : S0) (x1 : Int32) : Option (Int32 × S0) := obp (fX9_hasTune σ 22 x1) (fun r1 σ2 => if ¬ r1 = 0 then (fX10_dear_h21 400 σ2 x1 ((-4)) ((-1)) 0) else (some ((-1), σ2)))
set_option maxHeartbeats 1000000 in
set_option maxRecDepth 100000 in
theorem fX10_dear_ok {p : Program} {l : Launch} {e : Env} {s : State} {m : MethodId} {args : Array Value} {below : List Frame} {meth : Method} {c : Code} {dC : Nat → ClassId} {dI : Nat → Nat → Nat} {ad : Nat → Nat} {cy : Nat → ClassId} {sz : Nat} (C : Cx p s m args meth c RX10 cX10_dear 5 (some .int) dC dI ad cy sz) {rr : Int32} {ρ : S0} (σ : S0) (x1 : Int32)  (hf : fX10_dear σ x1 = some (rr, ρ)) : Gw p l e rm_X10_dear s m args below meth c (MQ below (QcI dC dI ad cy sz rr ρ) args s 0 0 (AW ad sz)) dC dI ad cy 5 sz 0 0 0 [(0, .ref (ad 0)), (1, .int x1)] [] σ := by
  unfold fX10_dear at hf
  refine g_aload_n C dX10_dear_0 rfl 0 rfl ?_
  refine g_get C (a_0 ad cy _) rfl hin_X10 2 (by decide) hF_X10_28 rfl rfl dX10_dear_1 ?_
  refine g_iload_n C dX10_dear_4 rfl 1 rfl ?_
  obtain ⟨r1, σ2, h3, hf⟩ := obp_e hf
  refine g_callVi (As := [.int x1]) (rest := []) C (a_22 ad cy _) rfl (c_X9_hasTune l dC dI ad cy 22 k_isTown_22 x1) h3 hM_X10_147 cal_X9_hasTune ⟨Nat.zero_le _, Nat.zero_le _⟩ ⟨rfl, rfl⟩ ⟨Nat.le_of_ble_eq_true rfl, Nat.le_of_ble_eq_true rfl⟩ rfl rfl (Nat.le_of_ble_eq_true rfl) dX10_dear_5 ?_
  rcases oi_e hf with ⟨c4, hf⟩ | ⟨c4, hf⟩
  · refine g_if_ne_t (tgt := 13) C dX10_dear_8 (by decide) c4 ?_
    refine g_bipush (v := (-4)) C dX10_dear_13 (by decide) ?_
    refine g_istore_n (lv2 := [(0, .ref (ad 0)), (1, .int x1), (2, .int ((-4)))]) C dX10_dear_15 rfl (by decide) [1, 2, 0] rfl ?_
    refine g_iconst (v := (-1)) C dX10_dear_16 (by decide) ?_
    refine g_istore_n (lv2 := [(0, .ref (ad 0)), (1, .int x1), (2, .int ((-4))), (3, .int ((-1)))]) C dX10_dear_17 rfl (by decide) [1, 2, 3, 0] rfl ?_
    refine g_iconst (v := 0) C dX10_dear_18 (by decide) ?_
    refine g_istore (lv2 := [(0, .ref (ad 0)), (1, .int x1), (2, .int ((-4))), (3, .int ((-1))), (4, .int 0)]) C dX10_dear_19 (by decide) [1, 2, 3, 4, 0] rfl ?_
    exact g_sub [0, 1, 2, 3, 4] rfl (fX10_dear_h21_ok C 400 σ2 x1 ((-4)) ((-1)) 0 hf)
  · refine g_if_ne_f (tgt := 13) C dX10_dear_8 (by decide) (Decidable.of_not_not c4) ?_
    refine g_iconst (v := (-1)) C dX10_dear_11 (by decide) ?_
    obtain ⟨rfl, rfl⟩ := os_e hf
    exact g_iret C rfl dX10_dear_12
theorem c_X10_dear (l : Launch) (dC : Nat → ClassId) (dI : Nat → Nat → Nat) (ad : Nat → Nat) (cy : Nat → ClassId) (x1 : Int32) : ConI l yX10_dear cX10_dear 5 (some .int) rm_X10_dear dC dI ad cy [.ref (ad 0), .int x1] (fun σ => fX10_dear σ x1) := con_i (own := RX10) (by decide) rfl (Nat.le_of_ble_eq_true rfl) (fun _ _ _ _ _ _ _ _ σ _ _ C hf => fX10_dear_ok C σ x1 hf)
theorem cal_X10_dear : CalV yX10_dear RX10 cX10_dear 5 (some .int) 1 := ⟨hI_X10_dear, hS_X10_dear, hIni_X10, hC_X10_dear, by decide +kernel⟩
abbrev rm_X10_storm : Room := { frames := 2, cells := 0, slots := 0, locals := 44 }
def fX10_storm_b79 (sf_33 : S0 → Int32 → Int32 → Int32 → Int32 → Int32 → Int32 → Option (Int32 × S0)) (σ : S0) (x1 : Int32) (x2 : Int32) (x3 : Int32) (x5 : Int32) (x6 : Int32) (t0 : Int32) (t1 : Int32) : Option (Int32 × S0) := ol (t1 + t0) (fun v1 => og (¬ (x6 < 0 ∨ 12 ≤ x6.toNatClampNeg)) (ol (σ 34 x6.toNatClampNeg) (fun v3 => ol (x5 + (2 * v3)) (fun v4 => ol (x6 + 1) (fun v5 => sf_33 σ x1 x2 x3 v1 v4 v5)))))
set_option maxHeartbeats 1000000 in
set_option maxRecDepth 100000 in
theorem fX10_storm_b79_ok {p : Program} {l : Launch} {e : Env} {s : State} {m : MethodId} {args : Array Value} {below : List Frame} {meth : Method} {c : Code} {dC : Nat → ClassId} {dI : Nat → Nat → Nat} {ad : Nat → Nat} {cy : Nat → ClassId} {sz : Nat} (C : Cx p s m args meth c RX10 cX10_storm 7 (some .int) dC dI ad cy sz) {rr : Int32} {ρ : S0} (sf_33 : S0 → Int32 → Int32 → Int32 → Int32 → Int32 → Int32 → Option (Int32 × S0)) (hs_33 : ∀ (σ : S0) (x1 : Int32) (x2 : Int32) (x3 : Int32) (x4 : Int32) (x5 : Int32) (x6 : Int32) , sf_33 σ x1 x2 x3 x4 x5 x6 = some (rr, ρ) → Gw p l e rm_X10_storm s m args below meth c (MQ below (QcI dC dI ad cy sz rr ρ) args s 0 0 (AW ad sz)) dC dI ad cy 7 sz 0 0 33 [(0, .ref (ad 0)), (1, .int x1), (2, .int x2), (3, .int x3), (4, .int x4), (5, .int x5), (6, .int x6)] [] σ) (σ : S0) (x1 : Int32) (x2 : Int32) (x3 : Int32) (x5 : Int32) (x6 : Int32) (t0 : Int32) (t1 : Int32)  (hf : fX10_storm_b79 sf_33 σ x1 x2 x3 x5 x6 t0 t1 = some (rr, ρ)) : Gw p l e rm_X10_storm s m args below meth c (MQ below (QcI dC dI ad cy sz rr ρ) args s 0 0 (AW ad sz)) dC dI ad cy 7 sz 0 0 79 [(0, .ref (ad 0)), (1, .int x1), (2, .int x2), (3, .int x3), (5, .int x5), (6, .int x6)] [.int t0, .int t1] σ := by
  unfold fX10_storm_b79 at hf
  refine g_iadd C dX10_storm_79 ?_
  obtain ⟨v1, ev1, hf⟩ := ol_e hf
  refine g_nm ev1 ?_
  refine g_istore (lv2 := [(0, .ref (ad 0)), (1, .int x1), (2, .int x2), (3, .int x3), (4, .int v1), (5, .int x5), (6, .int x6)]) C dX10_storm_80 (by decide) [1, 2, 3, 4, 0, 5, 6] rfl ?_
  refine g_iload C dX10_storm_82 5 rfl ?_
  refine g_iconst (v := 2) C dX10_storm_84 (by decide) ?_
  refine g_aload_n C dX10_storm_85 rfl 0 rfl ?_
  refine g_get C (a_0 ad cy _) rfl hin_X10 3 (by decide) hF_X10_36 rfl rfl dX10_storm_86 ?_
  refine g_get C (a_32 ad cy _) rfl hin_X1 2 (by decide) hF_X10_135 rfl rfl dX10_storm_89 ?_
  refine g_iload C dX10_storm_92 6 rfl ?_
  obtain ⟨h2, hf⟩ := og_e hf
  refine g_iald C (a_34 ad cy _) h2 dX10_storm_94 ?_
  obtain ⟨v3, ev3, hf⟩ := ol_e hf
  refine g_nm ev3 ?_
  refine g_imul C dX10_storm_95 ?_
  refine g_iadd C dX10_storm_96 ?_
  obtain ⟨v4, ev4, hf⟩ := ol_e hf
  refine g_nm ev4 ?_
  refine g_istore (lv2 := [(0, .ref (ad 0)), (1, .int x1), (2, .int x2), (3, .int x3), (4, .int v1), (5, .int v4), (6, .int x6)]) C dX10_storm_97 (by decide) [1, 2, 3, 4, 5, 0, 6] rfl ?_
  obtain ⟨v5, ev5, hf⟩ := ol_e hf
  refine g_iinc (j := 6) (w := 1) (lv2 := [(0, .ref (ad 0)), (1, .int x1), (2, .int x2), (3, .int x3), (4, .int v1), (5, .int v4), (6, .int v5)]) C dX10_storm_99 rfl (by decide) ev5 (by decide) [1, 2, 3, 4, 5, 6, 0] rfl ?_
  refine g_goto (tgt := 33) C dX10_storm_102 (by decide) ?_
  exact g_sub [0, 1, 2, 3, 4, 5, 6] rfl (hs_33 σ x1 x2 x3 v1 v4 v5 hf)
def fX10_storm_b33 (sf_33 : S0 → Int32 → Int32 → Int32 → Int32 → Int32 → Int32 → Option (Int32 × S0)) (σ : S0) (x1 : Int32) (x2 : Int32) (x3 : Int32) (x4 : Int32) (x5 : Int32) (x6 : Int32) : Option (Int32 × S0) := if (σ 32 0) ≤ x6 then (if ¬ x2 = 0 then (some ((((σ 32 0) * x3) - (x5 * x4)) + 100000, σ)) else (some (x3, σ))) else (obp (fX1_shareOf σ 32 x1 x6) (fun r3 σ4 => ol (x3 + r3) (fun v6 => og (¬ (x6 < 0 ∨ 12 ≤ x6.toNatClampNeg)) (ol (σ4 33 x6.toNatClampNeg) (fun v8 => if ¬ v8 = x1 then (fX10_storm_b79 sf_33 σ4 x1 x2 v6 x5 x6 0 x4) else (fX10_storm_b79 sf_33 σ4 x1 x2 v6 x5 x6 1 x4))))))
set_option maxHeartbeats 1000000 in
set_option maxRecDepth 100000 in
theorem fX10_storm_b33_ok {p : Program} {l : Launch} {e : Env} {s : State} {m : MethodId} {args : Array Value} {below : List Frame} {meth : Method} {c : Code} {dC : Nat → ClassId} {dI : Nat → Nat → Nat} {ad : Nat → Nat} {cy : Nat → ClassId} {sz : Nat} (C : Cx p s m args meth c RX10 cX10_storm 7 (some .int) dC dI ad cy sz) {rr : Int32} {ρ : S0} (sf_33 : S0 → Int32 → Int32 → Int32 → Int32 → Int32 → Int32 → Option (Int32 × S0)) (hs_33 : ∀ (σ : S0) (x1 : Int32) (x2 : Int32) (x3 : Int32) (x4 : Int32) (x5 : Int32) (x6 : Int32) , sf_33 σ x1 x2 x3 x4 x5 x6 = some (rr, ρ) → Gw p l e rm_X10_storm s m args below meth c (MQ below (QcI dC dI ad cy sz rr ρ) args s 0 0 (AW ad sz)) dC dI ad cy 7 sz 0 0 33 [(0, .ref (ad 0)), (1, .int x1), (2, .int x2), (3, .int x3), (4, .int x4), (5, .int x5), (6, .int x6)] [] σ) (σ : S0) (x1 : Int32) (x2 : Int32) (x3 : Int32) (x4 : Int32) (x5 : Int32) (x6 : Int32)  (hf : fX10_storm_b33 sf_33 σ x1 x2 x3 x4 x5 x6 = some (rr, ρ)) : Gw p l e rm_X10_storm s m args below meth c (MQ below (QcI dC dI ad cy sz rr ρ) args s 0 0 (AW ad sz)) dC dI ad cy 7 sz 0 0 33 [(0, .ref (ad 0)), (1, .int x1), (2, .int x2), (3, .int x3), (4, .int x4), (5, .int x5), (6, .int x6)] [] σ := by
  unfold fX10_storm_b33 at hf
  refine g_iload C dX10_storm_33 6 rfl ?_
  refine g_aload_n C dX10_storm_35 rfl 0 rfl ?_
  refine g_get C (a_0 ad cy _) rfl hin_X10 3 (by decide) hF_X10_36 rfl rfl dX10_storm_36 ?_
  refine g_get C (a_32 ad cy _) rfl hin_X1 0 (by decide) hF_X10_250 rfl rfl dX10_storm_39 ?_
  rcases oi_e hf with ⟨c1, hf⟩ | ⟨c1, hf⟩
  · refine g_icmp_ge_t (tgt := 105) C dX10_storm_42 (by decide) c1 ?_
    refine g_iload_n C dX10_storm_105 rfl 2 rfl ?_
    rcases oi_e hf with ⟨c2, hf⟩ | ⟨c2, hf⟩
    · refine g_if_ne_t (tgt := 113) C dX10_storm_106 (by decide) c2 ?_
      refine g_aload_n C dX10_storm_113 rfl 0 rfl ?_
      refine g_get C (a_0 ad cy _) rfl hin_X10 3 (by decide) hF_X10_36 rfl rfl dX10_storm_114 ?_
      refine g_get C (a_32 ad cy _) rfl hin_X1 0 (by decide) hF_X10_250 rfl rfl dX10_storm_117 ?_
      refine g_iload_n C dX10_storm_120 rfl 3 rfl ?_
      refine g_imul C dX10_storm_121 ?_
      refine g_iload C dX10_storm_122 5 rfl ?_
      refine g_iload C dX10_storm_124 4 rfl ?_
      refine g_imul C dX10_storm_126 ?_
      refine g_isub C dX10_storm_127 ?_
      refine g_ldc (v := 100000) C dX10_storm_128 hK_X10_254 ?_
      refine g_iadd C dX10_storm_130 ?_
      obtain ⟨rfl, rfl⟩ := os_e hf
      exact g_iret C rfl dX10_storm_131
    · refine g_if_ne_f (tgt := 113) C dX10_storm_106 (by decide) (Decidable.of_not_not c2) ?_
      refine g_iload_n C dX10_storm_109 rfl 3 rfl ?_
      refine g_goto (tgt := 131) C dX10_storm_110 (by decide) ?_
      obtain ⟨rfl, rfl⟩ := os_e hf
      exact g_iret C rfl dX10_storm_131
  · refine g_icmp_ge_f (tgt := 105) C dX10_storm_42 (by decide) c1 ?_
    refine g_iload_n C dX10_storm_45 rfl 3 rfl ?_
    refine g_aload_n C dX10_storm_46 rfl 0 rfl ?_
    refine g_get C (a_0 ad cy _) rfl hin_X10 3 (by decide) hF_X10_36 rfl rfl dX10_storm_47 ?_
    refine g_iload_n C dX10_storm_50 rfl 1 rfl ?_
    refine g_iload C dX10_storm_51 6 rfl ?_
    obtain ⟨r3, σ4, h5, hf⟩ := obp_e hf
    refine g_callVi (As := [.int x1, .int x6]) (rest := [.int x3]) C (a_32 ad cy _) rfl (c_X1_shareOf l dC dI ad cy 32 k_isChimes_32 x1 x6) h5 hM_X10_253 cal_X1_shareOf ⟨Nat.zero_le _, Nat.zero_le _⟩ ⟨rfl, rfl⟩ ⟨Nat.le_of_ble_eq_true rfl, Nat.le_of_ble_eq_true rfl⟩ rfl rfl (Nat.le_of_ble_eq_true rfl) dX10_storm_53 ?_
    refine g_iadd C dX10_storm_56 ?_
    obtain ⟨v6, ev6, hf⟩ := ol_e hf
    refine g_nm ev6 ?_
    refine g_istore_n (lv2 := [(0, .ref (ad 0)), (1, .int x1), (2, .int x2), (3, .int v6), (4, .int x4), (5, .int x5), (6, .int x6)]) C dX10_storm_57 rfl (by decide) [1, 2, 3, 0, 4, 5, 6] rfl ?_
    refine g_iload C dX10_storm_58 4 rfl ?_
    refine g_aload_n C dX10_storm_60 rfl 0 rfl ?_
    refine g_get C (a_0 ad cy _) rfl hin_X10 3 (by decide) hF_X10_36 rfl rfl dX10_storm_61 ?_
    refine g_get C (a_32 ad cy _) rfl hin_X1 1 (by decide) hF_X10_131 rfl rfl dX10_storm_64 ?_
    refine g_iload C dX10_storm_67 6 rfl ?_
    obtain ⟨h7, hf⟩ := og_e hf
    refine g_iald C (a_33 ad cy _) h7 dX10_storm_69 ?_
    obtain ⟨v8, ev8, hf⟩ := ol_e hf
    refine g_nm ev8 ?_
    refine g_iload_n C dX10_storm_70 rfl 1 rfl ?_
    rcases oi_e hf with ⟨c9, hf⟩ | ⟨c9, hf⟩
    · refine g_icmp_ne_t (tgt := 78) C dX10_storm_71 (by decide) c9 ?_
      refine g_iconst (v := 0) C dX10_storm_78 (by decide) ?_
      exact g_sub [0, 1, 2, 3, 5, 6] rfl (fX10_storm_b79_ok C sf_33 hs_33 σ4 x1 x2 v6 x5 x6 0 x4 hf)
    · refine g_icmp_ne_f (tgt := 78) C dX10_storm_71 (by decide) (Decidable.of_not_not c9) ?_
      refine g_iconst (v := 1) C dX10_storm_74 (by decide) ?_
      refine g_goto (tgt := 79) C dX10_storm_75 (by decide) ?_
      exact g_sub [0, 1, 2, 3, 5, 6] rfl (fX10_storm_b79_ok C sf_33 hs_33 σ4 x1 x2 v6 x5 x6 1 x4 hf)
def fX10_storm_h33  : Nat → S0 → Int32 → Int32 → Int32 → Int32 → Int32 → Int32 → Option (Int32 × S0)
  | 0 => fun _ _ _ _ _ _ _ => none
  | n + 1 => fun σ x1 x2 x3 x4 x5 x6 => fX10_storm_b33  (fX10_storm_h33  n) σ x1 x2 x3 x4 x5 x6
set_option maxHeartbeats 1000000 in
set_option maxRecDepth 100000 in
theorem fX10_storm_h33_ok {p : Program} {l : Launch} {e : Env} {s : State} {m : MethodId} {args : Array Value} {below : List Frame} {meth : Method} {c : Code} {dC : Nat → ClassId} {dI : Nat → Nat → Nat} {ad : Nat → Nat} {cy : Nat → ClassId} {sz : Nat} (C : Cx p s m args meth c RX10 cX10_storm 7 (some .int) dC dI ad cy sz) {rr : Int32} {ρ : S0}  : ∀ (n : Nat) (σ : S0) (x1 : Int32) (x2 : Int32) (x3 : Int32) (x4 : Int32) (x5 : Int32) (x6 : Int32)  (_hf : fX10_storm_h33  n σ x1 x2 x3 x4 x5 x6 = some (rr, ρ)), Gw p l e rm_X10_storm s m args below meth c (MQ below (QcI dC dI ad cy sz rr ρ) args s 0 0 (AW ad sz)) dC dI ad cy 7 sz 0 0 33 [(0, .ref (ad 0)), (1, .int x1), (2, .int x2), (3, .int x3), (4, .int x4), (5, .int x5), (6, .int x6)] [] σ
  | 0, _, _, _, _, _, _, _, hf => by cases hf
  | n + 1, σ, x1, x2, x3, x4, x5, x6, hf => fX10_storm_b33_ok C  (fX10_storm_h33  n) (fX10_storm_h33_ok C  n) σ x1 x2 x3 x4 x5 x6 hf
def fX10_storm (σ : S0) (x1 : Int32) (x2 : Int32) : Option (Int32 × S0) := obp (fX9_hasHouse σ 22 x1) (fun r1 σ2 => if r1 = 0 then (some ((-1), σ2)) else (if x2 < 0 then (some ((-1), σ2)) else (if x2 ≤ 1 then (fX10_storm_h33 400 σ2 x1 x2 0 0 0 0) else (some ((-1), σ2)))))
set_option maxHeartbeats 1000000 in
set_option maxRecDepth 100000 in
theorem fX10_storm_ok {p : Program} {l : Launch} {e : Env} {s : State} {m : MethodId} {args : Array Value} {below : List Frame} {meth : Method} {c : Code} {dC : Nat → ClassId} {dI : Nat → Nat → Nat} {ad : Nat → Nat} {cy : Nat → ClassId} {sz : Nat} (C : Cx p s m args meth c RX10 cX10_storm 7 (some .int) dC dI ad cy sz) {rr : Int32} {ρ : S0} (σ : S0) (x1 : Int32) (x2 : Int32)  (hf : fX10_storm σ x1 x2 = some (rr, ρ)) : Gw p l e rm_X10_storm s m args below meth c (MQ below (QcI dC dI ad cy sz rr ρ) args s 0 0 (AW ad sz)) dC dI ad cy 7 sz 0 0 0 [(0, .ref (ad 0)), (1, .int x1), (2, .int x2)] [] σ := by
  unfold fX10_storm at hf
  refine g_aload_n C dX10_storm_0 rfl 0 rfl ?_
  refine g_get C (a_0 ad cy _) rfl hin_X10 2 (by decide) hF_X10_28 rfl rfl dX10_storm_1 ?_
  refine g_iload_n C dX10_storm_4 rfl 1 rfl ?_
  obtain ⟨r1, σ2, h3, hf⟩ := obp_e hf
  refine g_callVi (As := [.int x1]) (rest := []) C (a_22 ad cy _) rfl (c_X9_hasHouse l dC dI ad cy 22 k_isTown_22 x1) h3 hM_X10_163 cal_X9_hasHouse ⟨Nat.zero_le _, Nat.zero_le _⟩ ⟨rfl, rfl⟩ ⟨Nat.le_of_ble_eq_true rfl, Nat.le_of_ble_eq_true rfl⟩ rfl rfl (Nat.le_of_ble_eq_true rfl) dX10_storm_5 ?_
  rcases oi_e hf with ⟨c4, hf⟩ | ⟨c4, hf⟩
  · refine g_if_eq_t (tgt := 20) C dX10_storm_8 (by decide) c4 ?_
    refine g_iconst (v := (-1)) C dX10_storm_20 (by decide) ?_
    obtain ⟨rfl, rfl⟩ := os_e hf
    exact g_iret C rfl dX10_storm_21
  · refine g_if_eq_f (tgt := 20) C dX10_storm_8 (by decide) c4 ?_
    refine g_iload_n C dX10_storm_11 rfl 2 rfl ?_
    rcases oi_e hf with ⟨c5, hf⟩ | ⟨c5, hf⟩
    · refine g_if_lt_t (tgt := 20) C dX10_storm_12 (by decide) c5 ?_
      refine g_iconst (v := (-1)) C dX10_storm_20 (by decide) ?_
      obtain ⟨rfl, rfl⟩ := os_e hf
      exact g_iret C rfl dX10_storm_21
    · refine g_if_lt_f (tgt := 20) C dX10_storm_12 (by decide) c5 ?_
      refine g_iload_n C dX10_storm_15 rfl 2 rfl ?_
      refine g_iconst (v := 1) C dX10_storm_16 (by decide) ?_
      rcases oi_e hf with ⟨c6, hf⟩ | ⟨c6, hf⟩
      · refine g_icmp_le_t (tgt := 22) C dX10_storm_17 (by decide) c6 ?_
        refine g_iconst (v := 0) C dX10_storm_22 (by decide) ?_
        refine g_istore_n (lv2 := [(0, .ref (ad 0)), (1, .int x1), (2, .int x2), (3, .int 0)]) C dX10_storm_23 rfl (by decide) [1, 2, 3, 0] rfl ?_
        refine g_iconst (v := 0) C dX10_storm_24 (by decide) ?_
        refine g_istore (lv2 := [(0, .ref (ad 0)), (1, .int x1), (2, .int x2), (3, .int 0), (4, .int 0)]) C dX10_storm_25 (by decide) [1, 2, 3, 4, 0] rfl ?_
        refine g_iconst (v := 0) C dX10_storm_27 (by decide) ?_
        refine g_istore (lv2 := [(0, .ref (ad 0)), (1, .int x1), (2, .int x2), (3, .int 0), (4, .int 0), (5, .int 0)]) C dX10_storm_28 (by decide) [1, 2, 3, 4, 5, 0] rfl ?_
        refine g_iconst (v := 0) C dX10_storm_30 (by decide) ?_
        refine g_istore (lv2 := [(0, .ref (ad 0)), (1, .int x1), (2, .int x2), (3, .int 0), (4, .int 0), (5, .int 0), (6, .int 0)]) C dX10_storm_31 (by decide) [1, 2, 3, 4, 5, 6, 0] rfl ?_
        exact g_sub [0, 1, 2, 3, 4, 5, 6] rfl (fX10_storm_h33_ok C 400 σ2 x1 x2 0 0 0 0 hf)
      · refine g_icmp_le_f (tgt := 22) C dX10_storm_17 (by decide) c6 ?_
        refine g_iconst (v := (-1)) C dX10_storm_20 (by decide) ?_
        obtain ⟨rfl, rfl⟩ := os_e hf
        exact g_iret C rfl dX10_storm_21
theorem c_X10_storm (l : Launch) (dC : Nat → ClassId) (dI : Nat → Nat → Nat) (ad : Nat → Nat) (cy : Nat → ClassId) (x1 : Int32) (x2 : Int32) : ConI l yX10_storm cX10_storm 7 (some .int) rm_X10_storm dC dI ad cy [.ref (ad 0), .int x1, .int x2] (fun σ => fX10_storm σ x1 x2) := con_i (own := RX10) (by decide) rfl (Nat.le_of_ble_eq_true rfl) (fun _ _ _ _ _ _ _ _ σ _ _ C hf => fX10_storm_ok C σ x1 x2 hf)
theorem cal_X10_storm : CalV yX10_storm RX10 cX10_storm 7 (some .int) 2 := ⟨hI_X10_storm, hS_X10_storm, hIni_X10, hC_X10_storm, by decide +kernel⟩
abbrev rm_X10_pour : Room := { frames := 2, cells := 0, slots := 0, locals := 45 }
def fX10_pour_b90 (sf_27 : S0 → Int32 → Int32 → Int32 → Int32 → Int32 → Int32 → Int32 → Int32 → Option (Int32 × S0)) (σ : S0) (x1 : Int32) (x2 : Int32) (x3 : Int32) (x4 : Int32) (x5 : Int32) (x6 : Int32) (x7 : Int32) (x8 : Int32) : Option (Int32 × S0) := ol (x8 + 1) (fun v1 => sf_27 σ x1 x2 x3 x4 x5 x6 x7 v1)
set_option maxHeartbeats 1000000 in
set_option maxRecDepth 100000 in
theorem fX10_pour_b90_ok {p : Program} {l : Launch} {e : Env} {s : State} {m : MethodId} {args : Array Value} {below : List Frame} {meth : Method} {c : Code} {dC : Nat → ClassId} {dI : Nat → Nat → Nat} {ad : Nat → Nat} {cy : Nat → ClassId} {sz : Nat} (C : Cx p s m args meth c RX10 cX10_pour 11 (some .int) dC dI ad cy sz) {rr : Int32} {ρ : S0} (sf_27 : S0 → Int32 → Int32 → Int32 → Int32 → Int32 → Int32 → Int32 → Int32 → Option (Int32 × S0)) (hs_27 : ∀ (σ : S0) (x1 : Int32) (x2 : Int32) (x3 : Int32) (x4 : Int32) (x5 : Int32) (x6 : Int32) (x7 : Int32) (x8 : Int32) , sf_27 σ x1 x2 x3 x4 x5 x6 x7 x8 = some (rr, ρ) → Gw p l e rm_X10_pour s m args below meth c (MQ below (QcI dC dI ad cy sz rr ρ) args s 0 0 (AW ad sz)) dC dI ad cy 11 sz 0 0 27 [(0, .ref (ad 0)), (1, .int x1), (2, .int x2), (3, .int x3), (4, .int x4), (5, .int x5), (6, .int x6), (7, .int x7), (8, .int x8)] [] σ) (σ : S0) (x1 : Int32) (x2 : Int32) (x3 : Int32) (x4 : Int32) (x5 : Int32) (x6 : Int32) (x7 : Int32) (x8 : Int32)  (hf : fX10_pour_b90 sf_27 σ x1 x2 x3 x4 x5 x6 x7 x8 = some (rr, ρ)) : Gw p l e rm_X10_pour s m args below meth c (MQ below (QcI dC dI ad cy sz rr ρ) args s 0 0 (AW ad sz)) dC dI ad cy 11 sz 0 0 90 [(0, .ref (ad 0)), (1, .int x1), (2, .int x2), (3, .int x3), (4, .int x4), (5, .int x5), (6, .int x6), (7, .int x7), (8, .int x8)] [] σ := by
  unfold fX10_pour_b90 at hf
  obtain ⟨v1, ev1, hf⟩ := ol_e hf
  refine g_iinc (j := 8) (w := 1) (lv2 := [(0, .ref (ad 0)), (1, .int x1), (2, .int x2), (3, .int x3), (4, .int x4), (5, .int x5), (6, .int x6), (7, .int x7), (8, .int v1)]) C dX10_pour_90 rfl (by decide) ev1 (by decide) [1, 2, 3, 4, 5, 6, 7, 8, 0] rfl ?_
  refine g_goto (tgt := 27) C dX10_pour_93 (by decide) ?_
  exact g_sub [0, 1, 2, 3, 4, 5, 6, 7, 8] rfl (hs_27 σ x1 x2 x3 x4 x5 x6 x7 v1 hf)
def fX10_pour_b87 (sf_27 : S0 → Int32 → Int32 → Int32 → Int32 → Int32 → Int32 → Int32 → Int32 → Option (Int32 × S0)) (σ : S0) (x1 : Int32) (x2 : Int32) (x3 : Int32) (x4 : Int32) (x5 : Int32) (x6 : Int32) (x7 : Int32) (x8 : Int32) : Option (Int32 × S0) := ol (x7 + 1) (fun v1 => fX10_pour_b90 sf_27 σ x1 x2 x3 x4 x5 x6 v1 x8)
set_option maxHeartbeats 1000000 in
set_option maxRecDepth 100000 in
theorem fX10_pour_b87_ok {p : Program} {l : Launch} {e : Env} {s : State} {m : MethodId} {args : Array Value} {below : List Frame} {meth : Method} {c : Code} {dC : Nat → ClassId} {dI : Nat → Nat → Nat} {ad : Nat → Nat} {cy : Nat → ClassId} {sz : Nat} (C : Cx p s m args meth c RX10 cX10_pour 11 (some .int) dC dI ad cy sz) {rr : Int32} {ρ : S0} (sf_27 : S0 → Int32 → Int32 → Int32 → Int32 → Int32 → Int32 → Int32 → Int32 → Option (Int32 × S0)) (hs_27 : ∀ (σ : S0) (x1 : Int32) (x2 : Int32) (x3 : Int32) (x4 : Int32) (x5 : Int32) (x6 : Int32) (x7 : Int32) (x8 : Int32) , sf_27 σ x1 x2 x3 x4 x5 x6 x7 x8 = some (rr, ρ) → Gw p l e rm_X10_pour s m args below meth c (MQ below (QcI dC dI ad cy sz rr ρ) args s 0 0 (AW ad sz)) dC dI ad cy 11 sz 0 0 27 [(0, .ref (ad 0)), (1, .int x1), (2, .int x2), (3, .int x3), (4, .int x4), (5, .int x5), (6, .int x6), (7, .int x7), (8, .int x8)] [] σ) (σ : S0) (x1 : Int32) (x2 : Int32) (x3 : Int32) (x4 : Int32) (x5 : Int32) (x6 : Int32) (x7 : Int32) (x8 : Int32)  (hf : fX10_pour_b87 sf_27 σ x1 x2 x3 x4 x5 x6 x7 x8 = some (rr, ρ)) : Gw p l e rm_X10_pour s m args below meth c (MQ below (QcI dC dI ad cy sz rr ρ) args s 0 0 (AW ad sz)) dC dI ad cy 11 sz 0 0 87 [(0, .ref (ad 0)), (1, .int x1), (2, .int x2), (3, .int x3), (4, .int x4), (5, .int x5), (6, .int x6), (7, .int x7), (8, .int x8)] [] σ := by
  unfold fX10_pour_b87 at hf
  obtain ⟨v1, ev1, hf⟩ := ol_e hf
  refine g_iinc (j := 7) (w := 1) (lv2 := [(0, .ref (ad 0)), (1, .int x1), (2, .int x2), (3, .int x3), (4, .int x4), (5, .int x5), (6, .int x6), (7, .int v1), (8, .int x8)]) C dX10_pour_87 rfl (by decide) ev1 (by decide) [1, 2, 3, 4, 5, 6, 7, 0, 8] rfl ?_
  exact g_sub [0, 1, 2, 3, 4, 5, 6, 7, 8] rfl (fX10_pour_b90_ok C sf_27 hs_27 σ x1 x2 x3 x4 x5 x6 v1 x8 hf)
def fX10_pour_b27 (sf_27 : S0 → Int32 → Int32 → Int32 → Int32 → Int32 → Int32 → Int32 → Int32 → Option (Int32 × S0)) (σ : S0) (x1 : Int32) (x2 : Int32) (x3 : Int32) (x4 : Int32) (x5 : Int32) (x6 : Int32) (x7 : Int32) (x8 : Int32) : Option (Int32 × S0) := if (σ 22 0) ≤ x8 then (og (¬ ((x3 : Int32)) = 0) (ol (x4 / x3) (fun v3 => if x6 ≤ x7 then (some (v3 + 0, σ)) else (some (v3 + 1, σ))))) else (obp (fX2_strokesOf σ x8) (fun r5 σ6 => ol (x1 * r5) (fun v8 => og (¬ ((x3 : Int32)) = 0) (ol (v8 / x3) (fun v10 => ol (x6 - v10) (fun v11 => og (¬ ((x3 : Int32)) = 0) (ol (v8 - v8 / x3 * x3) (fun v13 => if x5 < v13 then (fX10_pour_b87 sf_27 σ6 x1 x2 x3 x4 x5 v11 x7 x8) else (if ¬ v13 = x5 then (fX10_pour_b90 sf_27 σ6 x1 x2 x3 x4 x5 v11 x7 x8) else (if x2 ≤ x8 then (fX10_pour_b90 sf_27 σ6 x1 x2 x3 x4 x5 v11 x7 x8) else (fX10_pour_b87 sf_27 σ6 x1 x2 x3 x4 x5 v11 x7 x8)))))))))))
set_option maxHeartbeats 1000000 in
set_option maxRecDepth 100000 in
theorem fX10_pour_b27_ok {p : Program} {l : Launch} {e : Env} {s : State} {m : MethodId} {args : Array Value} {below : List Frame} {meth : Method} {c : Code} {dC : Nat → ClassId} {dI : Nat → Nat → Nat} {ad : Nat → Nat} {cy : Nat → ClassId} {sz : Nat} (C : Cx p s m args meth c RX10 cX10_pour 11 (some .int) dC dI ad cy sz) {rr : Int32} {ρ : S0} (sf_27 : S0 → Int32 → Int32 → Int32 → Int32 → Int32 → Int32 → Int32 → Int32 → Option (Int32 × S0)) (hs_27 : ∀ (σ : S0) (x1 : Int32) (x2 : Int32) (x3 : Int32) (x4 : Int32) (x5 : Int32) (x6 : Int32) (x7 : Int32) (x8 : Int32) , sf_27 σ x1 x2 x3 x4 x5 x6 x7 x8 = some (rr, ρ) → Gw p l e rm_X10_pour s m args below meth c (MQ below (QcI dC dI ad cy sz rr ρ) args s 0 0 (AW ad sz)) dC dI ad cy 11 sz 0 0 27 [(0, .ref (ad 0)), (1, .int x1), (2, .int x2), (3, .int x3), (4, .int x4), (5, .int x5), (6, .int x6), (7, .int x7), (8, .int x8)] [] σ) (σ : S0) (x1 : Int32) (x2 : Int32) (x3 : Int32) (x4 : Int32) (x5 : Int32) (x6 : Int32) (x7 : Int32) (x8 : Int32)  (hf : fX10_pour_b27 sf_27 σ x1 x2 x3 x4 x5 x6 x7 x8 = some (rr, ρ)) : Gw p l e rm_X10_pour s m args below meth c (MQ below (QcI dC dI ad cy sz rr ρ) args s 0 0 (AW ad sz)) dC dI ad cy 11 sz 0 0 27 [(0, .ref (ad 0)), (1, .int x1), (2, .int x2), (3, .int x3), (4, .int x4), (5, .int x5), (6, .int x6), (7, .int x7), (8, .int x8)] [] σ := by
  unfold fX10_pour_b27 at hf
  refine g_iload C dX10_pour_27 8 rfl ?_
  refine g_aload_n C dX10_pour_29 rfl 0 rfl ?_
  refine g_get C (a_0 ad cy _) rfl hin_X10 2 (by decide) hF_X10_28 rfl rfl dX10_pour_30 ?_
  refine g_get C (a_22 ad cy _) rfl hin_X9 0 (by decide) hF_X10_121 rfl rfl dX10_pour_33 ?_
  rcases oi_e hf with ⟨c1, hf⟩ | ⟨c1, hf⟩
  · refine g_icmp_ge_t (tgt := 96) C dX10_pour_36 (by decide) c1 ?_
    refine g_iload C dX10_pour_96 4 rfl ?_
    refine g_iload_n C dX10_pour_98 rfl 3 rfl ?_
    obtain ⟨h2, hf⟩ := og_e hf
    refine g_idiv C dX10_pour_99 h2 ?_
    obtain ⟨v3, ev3, hf⟩ := ol_e hf
    refine g_nm ev3 ?_
    refine g_iload C dX10_pour_100 7 rfl ?_
    refine g_iload C dX10_pour_102 6 rfl ?_
    rcases oi_e hf with ⟨c4, hf⟩ | ⟨c4, hf⟩
    · refine g_icmp_ge_t (tgt := 111) C dX10_pour_104 (by decide) c4 ?_
      refine g_iconst (v := 0) C dX10_pour_111 (by decide) ?_
      refine g_iadd C dX10_pour_112 ?_
      obtain ⟨rfl, rfl⟩ := os_e hf
      exact g_iret C rfl dX10_pour_113
    · refine g_icmp_ge_f (tgt := 111) C dX10_pour_104 (by decide) c4 ?_
      refine g_iconst (v := 1) C dX10_pour_107 (by decide) ?_
      refine g_goto (tgt := 112) C dX10_pour_108 (by decide) ?_
      refine g_iadd C dX10_pour_112 ?_
      obtain ⟨rfl, rfl⟩ := os_e hf
      exact g_iret C rfl dX10_pour_113
  · refine g_icmp_ge_f (tgt := 96) C dX10_pour_36 (by decide) c1 ?_
    refine g_iload_n C dX10_pour_39 rfl 1 rfl ?_
    refine g_aload_n C dX10_pour_40 rfl 0 rfl ?_
    refine g_get C (a_0 ad cy _) rfl hin_X10 6 (by decide) hF_X10_58 rfl rfl dX10_pour_41 ?_
    refine g_iload C dX10_pour_44 8 rfl ?_
    obtain ⟨r5, σ6, h7, hf⟩ := obp_e hf
    refine g_callVi (As := [.int x8]) (rest := [.int x1]) C (a_46 ad cy _) rfl (c_X2_strokesOf l dC dI ad cy x8) h7 hM_X10_258 cal_X2_strokesOf ⟨Nat.zero_le _, Nat.zero_le _⟩ ⟨rfl, rfl⟩ ⟨Nat.le_of_ble_eq_true rfl, Nat.le_of_ble_eq_true rfl⟩ rfl rfl (Nat.le_of_ble_eq_true rfl) dX10_pour_46 ?_
    refine g_imul C dX10_pour_49 ?_
    obtain ⟨v8, ev8, hf⟩ := ol_e hf
    refine g_nm ev8 ?_
    refine g_istore (lv2 := [(0, .ref (ad 0)), (1, .int x1), (2, .int x2), (3, .int x3), (4, .int x4), (5, .int x5), (6, .int x6), (7, .int x7), (8, .int x8), (9, .int v8)]) C dX10_pour_50 (by decide) [1, 2, 3, 4, 5, 6, 7, 8, 9, 0] rfl ?_
    refine g_iload C dX10_pour_52 6 rfl ?_
    refine g_iload C dX10_pour_54 9 rfl ?_
    refine g_iload_n C dX10_pour_56 rfl 3 rfl ?_
    obtain ⟨h9, hf⟩ := og_e hf
    refine g_idiv C dX10_pour_57 h9 ?_
    obtain ⟨v10, ev10, hf⟩ := ol_e hf
    refine g_nm ev10 ?_
    refine g_isub C dX10_pour_58 ?_
    obtain ⟨v11, ev11, hf⟩ := ol_e hf
    refine g_nm ev11 ?_
    refine g_istore (lv2 := [(0, .ref (ad 0)), (1, .int x1), (2, .int x2), (3, .int x3), (4, .int x4), (5, .int x5), (6, .int v11), (7, .int x7), (8, .int x8), (9, .int v8)]) C dX10_pour_59 (by decide) [1, 2, 3, 4, 5, 6, 0, 7, 8, 9] rfl ?_
    refine g_iload C dX10_pour_61 9 rfl ?_
    refine g_iload_n C dX10_pour_63 rfl 3 rfl ?_
    obtain ⟨h12, hf⟩ := og_e hf
    refine g_irem C dX10_pour_64 h12 ?_
    obtain ⟨v13, ev13, hf⟩ := ol_e hf
    refine g_nm ev13 ?_
    refine g_istore (lv2 := [(0, .ref (ad 0)), (1, .int x1), (2, .int x2), (3, .int x3), (4, .int x4), (5, .int x5), (6, .int v11), (7, .int x7), (8, .int x8), (9, .int v8), (10, .int v13)]) C dX10_pour_65 (by decide) [1, 2, 3, 4, 5, 6, 7, 8, 9, 10, 0] rfl ?_
    refine g_iload C dX10_pour_67 10 rfl ?_
    refine g_iload C dX10_pour_69 5 rfl ?_
    rcases oi_e hf with ⟨c14, hf⟩ | ⟨c14, hf⟩
    · refine g_icmp_gt_t (tgt := 87) C dX10_pour_71 (by decide) c14 ?_
      exact g_sub [0, 1, 2, 3, 4, 5, 6, 7, 8] rfl (fX10_pour_b87_ok C sf_27 hs_27 σ6 x1 x2 x3 x4 x5 v11 x7 x8 hf)
    · refine g_icmp_gt_f (tgt := 87) C dX10_pour_71 (by decide) c14 ?_
      refine g_iload C dX10_pour_74 10 rfl ?_
      refine g_iload C dX10_pour_76 5 rfl ?_
      rcases oi_e hf with ⟨c15, hf⟩ | ⟨c15, hf⟩
      · refine g_icmp_ne_t (tgt := 90) C dX10_pour_78 (by decide) c15 ?_
        exact g_sub [0, 1, 2, 3, 4, 5, 6, 7, 8] rfl (fX10_pour_b90_ok C sf_27 hs_27 σ6 x1 x2 x3 x4 x5 v11 x7 x8 hf)
      · refine g_icmp_ne_f (tgt := 90) C dX10_pour_78 (by decide) (Decidable.of_not_not c15) ?_
        refine g_iload C dX10_pour_81 8 rfl ?_
        refine g_iload_n C dX10_pour_83 rfl 2 rfl ?_
        rcases oi_e hf with ⟨c16, hf⟩ | ⟨c16, hf⟩
        · refine g_icmp_ge_t (tgt := 90) C dX10_pour_84 (by decide) c16 ?_
          exact g_sub [0, 1, 2, 3, 4, 5, 6, 7, 8] rfl (fX10_pour_b90_ok C sf_27 hs_27 σ6 x1 x2 x3 x4 x5 v11 x7 x8 hf)
        · refine g_icmp_ge_f (tgt := 90) C dX10_pour_84 (by decide) c16 ?_
          exact g_sub [0, 1, 2, 3, 4, 5, 6, 7, 8] rfl (fX10_pour_b87_ok C sf_27 hs_27 σ6 x1 x2 x3 x4 x5 v11 x7 x8 hf)
def fX10_pour_h27  : Nat → S0 → Int32 → Int32 → Int32 → Int32 → Int32 → Int32 → Int32 → Int32 → Option (Int32 × S0)
  | 0 => fun _ _ _ _ _ _ _ _ _ => none
  | n + 1 => fun σ x1 x2 x3 x4 x5 x6 x7 x8 => fX10_pour_b27  (fX10_pour_h27  n) σ x1 x2 x3 x4 x5 x6 x7 x8
set_option maxHeartbeats 1000000 in
set_option maxRecDepth 100000 in
theorem fX10_pour_h27_ok {p : Program} {l : Launch} {e : Env} {s : State} {m : MethodId} {args : Array Value} {below : List Frame} {meth : Method} {c : Code} {dC : Nat → ClassId} {dI : Nat → Nat → Nat} {ad : Nat → Nat} {cy : Nat → ClassId} {sz : Nat} (C : Cx p s m args meth c RX10 cX10_pour 11 (some .int) dC dI ad cy sz) {rr : Int32} {ρ : S0}  : ∀ (n : Nat) (σ : S0) (x1 : Int32) (x2 : Int32) (x3 : Int32) (x4 : Int32) (x5 : Int32) (x6 : Int32) (x7 : Int32) (x8 : Int32)  (_hf : fX10_pour_h27  n σ x1 x2 x3 x4 x5 x6 x7 x8 = some (rr, ρ)), Gw p l e rm_X10_pour s m args below meth c (MQ below (QcI dC dI ad cy sz rr ρ) args s 0 0 (AW ad sz)) dC dI ad cy 11 sz 0 0 27 [(0, .ref (ad 0)), (1, .int x1), (2, .int x2), (3, .int x3), (4, .int x4), (5, .int x5), (6, .int x6), (7, .int x7), (8, .int x8)] [] σ
  | 0, _, _, _, _, _, _, _, _, _, hf => by cases hf
  | n + 1, σ, x1, x2, x3, x4, x5, x6, x7, x8, hf => fX10_pour_b27_ok C  (fX10_pour_h27  n) (fX10_pour_h27_ok C  n) σ x1 x2 x3 x4 x5 x6 x7 x8 hf
def fX10_pour (σ : S0) (x1 : Int32) (x2 : Int32) (x3 : Int32) : Option (Int32 × S0) := obp (fX2_strokesOf σ x2) (fun r1 σ2 => ol (x1 * r1) (fun v4 => og (¬ ((x3 : Int32)) = 0) (ol (v4 - v4 / x3 * x3) (fun v6 => fX10_pour_h27 400 σ2 x1 x2 x3 v4 v6 x1 0 0))))
set_option maxHeartbeats 1000000 in
set_option maxRecDepth 100000 in
theorem fX10_pour_ok {p : Program} {l : Launch} {e : Env} {s : State} {m : MethodId} {args : Array Value} {below : List Frame} {meth : Method} {c : Code} {dC : Nat → ClassId} {dI : Nat → Nat → Nat} {ad : Nat → Nat} {cy : Nat → ClassId} {sz : Nat} (C : Cx p s m args meth c RX10 cX10_pour 11 (some .int) dC dI ad cy sz) {rr : Int32} {ρ : S0} (σ : S0) (x1 : Int32) (x2 : Int32) (x3 : Int32)  (hf : fX10_pour σ x1 x2 x3 = some (rr, ρ)) : Gw p l e rm_X10_pour s m args below meth c (MQ below (QcI dC dI ad cy sz rr ρ) args s 0 0 (AW ad sz)) dC dI ad cy 11 sz 0 0 0 [(0, .ref (ad 0)), (1, .int x1), (2, .int x2), (3, .int x3)] [] σ := by
  unfold fX10_pour at hf
  refine g_iload_n C dX10_pour_0 rfl 1 rfl ?_
  refine g_aload_n C dX10_pour_1 rfl 0 rfl ?_
  refine g_get C (a_0 ad cy _) rfl hin_X10 6 (by decide) hF_X10_58 rfl rfl dX10_pour_2 ?_
  refine g_iload_n C dX10_pour_5 rfl 2 rfl ?_
  obtain ⟨r1, σ2, h3, hf⟩ := obp_e hf
  refine g_callVi (As := [.int x2]) (rest := [.int x1]) C (a_46 ad cy _) rfl (c_X2_strokesOf l dC dI ad cy x2) h3 hM_X10_258 cal_X2_strokesOf ⟨Nat.zero_le _, Nat.zero_le _⟩ ⟨rfl, rfl⟩ ⟨Nat.le_of_ble_eq_true rfl, Nat.le_of_ble_eq_true rfl⟩ rfl rfl (Nat.le_of_ble_eq_true rfl) dX10_pour_6 ?_
  refine g_imul C dX10_pour_9 ?_
  obtain ⟨v4, ev4, hf⟩ := ol_e hf
  refine g_nm ev4 ?_
  refine g_istore (lv2 := [(0, .ref (ad 0)), (1, .int x1), (2, .int x2), (3, .int x3), (4, .int v4)]) C dX10_pour_10 (by decide) [1, 2, 3, 4, 0] rfl ?_
  refine g_iload C dX10_pour_12 4 rfl ?_
  refine g_iload_n C dX10_pour_14 rfl 3 rfl ?_
  obtain ⟨h5, hf⟩ := og_e hf
  refine g_irem C dX10_pour_15 h5 ?_
  obtain ⟨v6, ev6, hf⟩ := ol_e hf
  refine g_nm ev6 ?_
  refine g_istore (lv2 := [(0, .ref (ad 0)), (1, .int x1), (2, .int x2), (3, .int x3), (4, .int v4), (5, .int v6)]) C dX10_pour_16 (by decide) [1, 2, 3, 4, 5, 0] rfl ?_
  refine g_iload_n C dX10_pour_18 rfl 1 rfl ?_
  refine g_istore (lv2 := [(0, .ref (ad 0)), (1, .int x1), (2, .int x2), (3, .int x3), (4, .int v4), (5, .int v6), (6, .int x1)]) C dX10_pour_19 (by decide) [1, 2, 3, 4, 5, 6, 0] rfl ?_
  refine g_iconst (v := 0) C dX10_pour_21 (by decide) ?_
  refine g_istore (lv2 := [(0, .ref (ad 0)), (1, .int x1), (2, .int x2), (3, .int x3), (4, .int v4), (5, .int v6), (6, .int x1), (7, .int 0)]) C dX10_pour_22 (by decide) [1, 2, 3, 4, 5, 6, 7, 0] rfl ?_
  refine g_iconst (v := 0) C dX10_pour_24 (by decide) ?_
  refine g_istore (lv2 := [(0, .ref (ad 0)), (1, .int x1), (2, .int x2), (3, .int x3), (4, .int v4), (5, .int v6), (6, .int x1), (7, .int 0), (8, .int 0)]) C dX10_pour_25 (by decide) [1, 2, 3, 4, 5, 6, 7, 8, 0] rfl ?_
  exact g_sub [0, 1, 2, 3, 4, 5, 6, 7, 8] rfl (fX10_pour_h27_ok C 400 σ2 x1 x2 x3 v4 v6 x1 0 0 hf)
theorem c_X10_pour (l : Launch) (dC : Nat → ClassId) (dI : Nat → Nat → Nat) (ad : Nat → Nat) (cy : Nat → ClassId) (x1 : Int32) (x2 : Int32) (x3 : Int32) : ConI l yX10_pour cX10_pour 11 (some .int) rm_X10_pour dC dI ad cy [.ref (ad 0), .int x1, .int x2, .int x3] (fun σ => fX10_pour σ x1 x2 x3) := con_i (own := RX10) (by decide) rfl (Nat.le_of_ble_eq_true rfl) (fun _ _ _ _ _ _ _ _ σ _ _ C hf => fX10_pour_ok C σ x1 x2 x3 hf)
theorem cal_X10_pour : CalV yX10_pour RX10 cX10_pour 11 (some .int) 3 := ⟨hI_X10_pour, hS_X10_pour, hIni_X10, hC_X10_pour, by decide +kernel⟩
abbrev rm_X10_wine : Room := { frames := 3, cells := 0, slots := 0, locals := 75 }
def fX10_wine_b36 (sf_36 : S0 → Int32 → Int32 → Int32 → Int32 → Option (Int32 × S0)) (σ : S0) (x1 : Int32) (x2 : Int32) (x3 : Int32) (x4 : Int32) : Option (Int32 × S0) := if (σ 22 0) ≤ x4 then (if ¬ x3 = 0 then (obp (fX10_pour σ x1 x2 x3) (fun r3 σ4 => some (r3, σ4))) else (some ((-4), σ))) else (obp (fX2_strokesOf σ x4) (fun r6 σ7 => ol (x3 + r6) (fun v9 => ol (x4 + 1) (fun v10 => sf_36 σ7 x1 x2 v9 v10))))
set_option maxHeartbeats 1000000 in
set_option maxRecDepth 100000 in
theorem fX10_wine_b36_ok {p : Program} {l : Launch} {e : Env} {s : State} {m : MethodId} {args : Array Value} {below : List Frame} {meth : Method} {c : Code} {dC : Nat → ClassId} {dI : Nat → Nat → Nat} {ad : Nat → Nat} {cy : Nat → ClassId} {sz : Nat} (C : Cx p s m args meth c RX10 cX10_wine 5 (some .int) dC dI ad cy sz) {rr : Int32} {ρ : S0} (sf_36 : S0 → Int32 → Int32 → Int32 → Int32 → Option (Int32 × S0)) (hs_36 : ∀ (σ : S0) (x1 : Int32) (x2 : Int32) (x3 : Int32) (x4 : Int32) , sf_36 σ x1 x2 x3 x4 = some (rr, ρ) → Gw p l e rm_X10_wine s m args below meth c (MQ below (QcI dC dI ad cy sz rr ρ) args s 0 0 (AW ad sz)) dC dI ad cy 5 sz 0 0 36 [(0, .ref (ad 0)), (1, .int x1), (2, .int x2), (3, .int x3), (4, .int x4)] [] σ) (σ : S0) (x1 : Int32) (x2 : Int32) (x3 : Int32) (x4 : Int32)  (hf : fX10_wine_b36 sf_36 σ x1 x2 x3 x4 = some (rr, ρ)) : Gw p l e rm_X10_wine s m args below meth c (MQ below (QcI dC dI ad cy sz rr ρ) args s 0 0 (AW ad sz)) dC dI ad cy 5 sz 0 0 36 [(0, .ref (ad 0)), (1, .int x1), (2, .int x2), (3, .int x3), (4, .int x4)] [] σ := by
  unfold fX10_wine_b36 at hf
  refine g_iload C dX10_wine_36 4 rfl ?_
  refine g_aload_n C dX10_wine_38 rfl 0 rfl ?_
  refine g_get C (a_0 ad cy _) rfl hin_X10 2 (by decide) hF_X10_28 rfl rfl dX10_wine_39 ?_
  refine g_get C (a_22 ad cy _) rfl hin_X9 0 (by decide) hF_X10_121 rfl rfl dX10_wine_42 ?_
  rcases oi_e hf with ⟨c1, hf⟩ | ⟨c1, hf⟩
  · refine g_icmp_ge_t (tgt := 66) C dX10_wine_45 (by decide) c1 ?_
    refine g_iload_n C dX10_wine_66 rfl 3 rfl ?_
    rcases oi_e hf with ⟨c2, hf⟩ | ⟨c2, hf⟩
    · refine g_if_ne_t (tgt := 75) C dX10_wine_67 (by decide) c2 ?_
      refine g_aload_n C dX10_wine_75 rfl 0 rfl ?_
      refine g_iload_n C dX10_wine_76 rfl 1 rfl ?_
      refine g_iload_n C dX10_wine_77 rfl 2 rfl ?_
      refine g_iload_n C dX10_wine_78 rfl 3 rfl ?_
      obtain ⟨r3, σ4, h5, hf⟩ := obp_e hf
      refine g_callVi (As := [.int x1, .int x2, .int x3]) (rest := []) C (a_0 ad cy _) rfl (c_X10_pour l dC dI ad cy x1 x2 x3) h5 hM_X10_261 cal_X10_pour ⟨Nat.zero_le _, Nat.zero_le _⟩ ⟨rfl, rfl⟩ ⟨Nat.le_of_ble_eq_true rfl, Nat.le_of_ble_eq_true rfl⟩ rfl rfl (Nat.le_of_ble_eq_true rfl) dX10_wine_79 ?_
      obtain ⟨rfl, rfl⟩ := os_e hf
      exact g_iret C rfl dX10_wine_82
    · refine g_if_ne_f (tgt := 75) C dX10_wine_67 (by decide) (Decidable.of_not_not c2) ?_
      refine g_bipush (v := (-4)) C dX10_wine_70 (by decide) ?_
      refine g_goto (tgt := 82) C dX10_wine_72 (by decide) ?_
      obtain ⟨rfl, rfl⟩ := os_e hf
      exact g_iret C rfl dX10_wine_82
  · refine g_icmp_ge_f (tgt := 66) C dX10_wine_45 (by decide) c1 ?_
    refine g_iload_n C dX10_wine_48 rfl 3 rfl ?_
    refine g_aload_n C dX10_wine_49 rfl 0 rfl ?_
    refine g_get C (a_0 ad cy _) rfl hin_X10 6 (by decide) hF_X10_58 rfl rfl dX10_wine_50 ?_
    refine g_iload C dX10_wine_53 4 rfl ?_
    obtain ⟨r6, σ7, h8, hf⟩ := obp_e hf
    refine g_callVi (As := [.int x4]) (rest := [.int x3]) C (a_46 ad cy _) rfl (c_X2_strokesOf l dC dI ad cy x4) h8 hM_X10_258 cal_X2_strokesOf ⟨Nat.zero_le _, Nat.zero_le _⟩ ⟨rfl, rfl⟩ ⟨Nat.le_of_ble_eq_true rfl, Nat.le_of_ble_eq_true rfl⟩ rfl rfl (Nat.le_of_ble_eq_true rfl) dX10_wine_55 ?_
    refine g_iadd C dX10_wine_58 ?_
    obtain ⟨v9, ev9, hf⟩ := ol_e hf
    refine g_nm ev9 ?_
    refine g_istore_n (lv2 := [(0, .ref (ad 0)), (1, .int x1), (2, .int x2), (3, .int v9), (4, .int x4)]) C dX10_wine_59 rfl (by decide) [1, 2, 3, 0, 4] rfl ?_
    obtain ⟨v10, ev10, hf⟩ := ol_e hf
    refine g_iinc (j := 4) (w := 1) (lv2 := [(0, .ref (ad 0)), (1, .int x1), (2, .int x2), (3, .int v9), (4, .int v10)]) C dX10_wine_60 rfl (by decide) ev10 (by decide) [1, 2, 3, 4, 0] rfl ?_
    refine g_goto (tgt := 36) C dX10_wine_63 (by decide) ?_
    exact g_sub [0, 1, 2, 3, 4] rfl (hs_36 σ7 x1 x2 v9 v10 hf)
def fX10_wine_h36  : Nat → S0 → Int32 → Int32 → Int32 → Int32 → Option (Int32 × S0)
  | 0 => fun _ _ _ _ _ => none
  | n + 1 => fun σ x1 x2 x3 x4 => fX10_wine_b36  (fX10_wine_h36  n) σ x1 x2 x3 x4
set_option maxHeartbeats 1000000 in
set_option maxRecDepth 100000 in
theorem fX10_wine_h36_ok {p : Program} {l : Launch} {e : Env} {s : State} {m : MethodId} {args : Array Value} {below : List Frame} {meth : Method} {c : Code} {dC : Nat → ClassId} {dI : Nat → Nat → Nat} {ad : Nat → Nat} {cy : Nat → ClassId} {sz : Nat} (C : Cx p s m args meth c RX10 cX10_wine 5 (some .int) dC dI ad cy sz) {rr : Int32} {ρ : S0}  : ∀ (n : Nat) (σ : S0) (x1 : Int32) (x2 : Int32) (x3 : Int32) (x4 : Int32)  (_hf : fX10_wine_h36  n σ x1 x2 x3 x4 = some (rr, ρ)), Gw p l e rm_X10_wine s m args below meth c (MQ below (QcI dC dI ad cy sz rr ρ) args s 0 0 (AW ad sz)) dC dI ad cy 5 sz 0 0 36 [(0, .ref (ad 0)), (1, .int x1), (2, .int x2), (3, .int x3), (4, .int x4)] [] σ
  | 0, _, _, _, _, _, hf => by cases hf
  | n + 1, σ, x1, x2, x3, x4, hf => fX10_wine_b36_ok C  (fX10_wine_h36  n) (fX10_wine_h36_ok C  n) σ x1 x2 x3 x4 hf
def fX10_wine (σ : S0) (x1 : Int32) (x2 : Int32) : Option (Int32 × S0) := if x1 < 0 then (some ((-1), σ)) else (if (999 : Int32) < x1 then (some ((-1), σ)) else (obp (fX9_hasHouse σ 22 x2) (fun r3 σ4 => if ¬ r3 = 0 then (obp (fX2_ringAll σ4) (fun r7 σ8 => fX10_wine_h36 400 σ8 x1 x2 0 0)) else (some ((-1), σ4)))))
set_option maxHeartbeats 1000000 in
set_option maxRecDepth 100000 in
theorem fX10_wine_ok {p : Program} {l : Launch} {e : Env} {s : State} {m : MethodId} {args : Array Value} {below : List Frame} {meth : Method} {c : Code} {dC : Nat → ClassId} {dI : Nat → Nat → Nat} {ad : Nat → Nat} {cy : Nat → ClassId} {sz : Nat} (C : Cx p s m args meth c RX10 cX10_wine 5 (some .int) dC dI ad cy sz) {rr : Int32} {ρ : S0} (σ : S0) (x1 : Int32) (x2 : Int32)  (hf : fX10_wine σ x1 x2 = some (rr, ρ)) : Gw p l e rm_X10_wine s m args below meth c (MQ below (QcI dC dI ad cy sz rr ρ) args s 0 0 (AW ad sz)) dC dI ad cy 5 sz 0 0 0 [(0, .ref (ad 0)), (1, .int x1), (2, .int x2)] [] σ := by
  unfold fX10_wine at hf
  refine g_iload_n C dX10_wine_0 rfl 1 rfl ?_
  rcases oi_e hf with ⟨c1, hf⟩ | ⟨c1, hf⟩
  · refine g_if_lt_t (tgt := 22) C dX10_wine_1 (by decide) c1 ?_
    refine g_iconst (v := (-1)) C dX10_wine_22 (by decide) ?_
    obtain ⟨rfl, rfl⟩ := os_e hf
    exact g_iret C rfl dX10_wine_23
  · refine g_if_lt_f (tgt := 22) C dX10_wine_1 (by decide) c1 ?_
    refine g_iload_n C dX10_wine_4 rfl 1 rfl ?_
    refine g_sipush (v := 999) C dX10_wine_5 (by decide) ?_
    rcases oi_e hf with ⟨c2, hf⟩ | ⟨c2, hf⟩
    · refine g_icmp_gt_t (tgt := 22) C dX10_wine_8 (by decide) c2 ?_
      refine g_iconst (v := (-1)) C dX10_wine_22 (by decide) ?_
      obtain ⟨rfl, rfl⟩ := os_e hf
      exact g_iret C rfl dX10_wine_23
    · refine g_icmp_gt_f (tgt := 22) C dX10_wine_8 (by decide) c2 ?_
      refine g_aload_n C dX10_wine_11 rfl 0 rfl ?_
      refine g_get C (a_0 ad cy _) rfl hin_X10 2 (by decide) hF_X10_28 rfl rfl dX10_wine_12 ?_
      refine g_iload_n C dX10_wine_15 rfl 2 rfl ?_
      obtain ⟨r3, σ4, h5, hf⟩ := obp_e hf
      refine g_callVi (As := [.int x2]) (rest := []) C (a_22 ad cy _) rfl (c_X9_hasHouse l dC dI ad cy 22 k_isTown_22 x2) h5 hM_X10_163 cal_X9_hasHouse ⟨Nat.zero_le _, Nat.zero_le _⟩ ⟨rfl, rfl⟩ ⟨Nat.le_of_ble_eq_true rfl, Nat.le_of_ble_eq_true rfl⟩ rfl rfl (Nat.le_of_ble_eq_true rfl) dX10_wine_16 ?_
      rcases oi_e hf with ⟨c6, hf⟩ | ⟨c6, hf⟩
      · refine g_if_ne_t (tgt := 24) C dX10_wine_19 (by decide) c6 ?_
        refine g_aload_n C dX10_wine_24 rfl 0 rfl ?_
        refine g_get C (a_0 ad cy _) rfl hin_X10 6 (by decide) hF_X10_58 rfl rfl dX10_wine_25 ?_
        obtain ⟨r7, σ8, h9, hf⟩ := obp_e hf
        refine g_callVv (As := []) (rest := []) C (a_46 ad cy _) rfl (c_X2_ringAll l dC dI ad cy ) h9 hM_X10_255 cal_X2_ringAll ⟨Nat.zero_le _, Nat.zero_le _⟩ ⟨rfl, rfl⟩ ⟨Nat.le_of_ble_eq_true rfl, Nat.le_of_ble_eq_true rfl⟩ rfl rfl (Nat.le_of_ble_eq_true rfl) dX10_wine_28 ?_
        refine g_iconst (v := 0) C dX10_wine_31 (by decide) ?_
        refine g_istore_n (lv2 := [(0, .ref (ad 0)), (1, .int x1), (2, .int x2), (3, .int 0)]) C dX10_wine_32 rfl (by decide) [1, 2, 3, 0] rfl ?_
        refine g_iconst (v := 0) C dX10_wine_33 (by decide) ?_
        refine g_istore (lv2 := [(0, .ref (ad 0)), (1, .int x1), (2, .int x2), (3, .int 0), (4, .int 0)]) C dX10_wine_34 (by decide) [1, 2, 3, 4, 0] rfl ?_
        exact g_sub [0, 1, 2, 3, 4] rfl (fX10_wine_h36_ok C 400 σ8 x1 x2 0 0 hf)
      · refine g_if_ne_f (tgt := 24) C dX10_wine_19 (by decide) (Decidable.of_not_not c6) ?_
        refine g_iconst (v := (-1)) C dX10_wine_22 (by decide) ?_
        obtain ⟨rfl, rfl⟩ := os_e hf
        exact g_iret C rfl dX10_wine_23
theorem c_X10_wine (l : Launch) (dC : Nat → ClassId) (dI : Nat → Nat → Nat) (ad : Nat → Nat) (cy : Nat → ClassId) (x1 : Int32) (x2 : Int32) : ConI l yX10_wine cX10_wine 5 (some .int) rm_X10_wine dC dI ad cy [.ref (ad 0), .int x1, .int x2] (fun σ => fX10_wine σ x1 x2) := con_i (own := RX10) (by decide) rfl (Nat.le_of_ble_eq_true rfl) (fun _ _ _ _ _ _ _ _ σ _ _ C hf => fX10_wine_ok C σ x1 x2 hf)
theorem cal_X10_wine : CalV yX10_wine RX10 cX10_wine 5 (some .int) 2 := ⟨hI_X10_wine, hS_X10_wine, hIni_X10, hC_X10_wine, by decide +kernel⟩
