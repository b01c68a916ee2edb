abbrev rm_X3_canBe : Room := { frames := 1, cells := 0, slots := 0, locals := 23 }
def fX3_canBe_b96 (sf_25 : S0 → Int32 → Int32 → Int32 → Option (Int32 × S0)) (σ : S0) (x1 : Int32) (x3 : Int32) (t0 : Int32) (t1 : Int32) : Option (Int32 × S0) := ol (t1 ||| t0) (fun v1 => ol (x3 + 1) (fun v2 => sf_25 σ x1 v1 v2))
set_option maxHeartbeats 1000000 in
set_option maxRecDepth 100000 in
theorem fX3_canBe_b96_ok {p : Program} {l : Launch} {e : Env} {s : State} {m : MethodId} {args : Array Value} {below : List Frame} {meth : Method} {c : Code} {dC : Nat → ClassId} {dI : Nat → Nat → Nat} {ad : Nat → Nat} {cy : Nat → ClassId} {sz : Nat} (C : Cx p s m args meth c RX3 cX3_canBe 5 (some .boolean) dC dI ad cy sz) {rr : Int32} {ρ : S0} (sf_25 : S0 → Int32 → Int32 → Int32 → Option (Int32 × S0)) (hs_25 : ∀ (σ : S0) (x1 : Int32) (x2 : Int32) (x3 : Int32) , sf_25 σ x1 x2 x3 = some (rr, ρ) → Gw p l e rm_X3_canBe s m args below meth c (MQ below (QcI dC dI ad cy sz rr ρ) args s 0 0 (AW ad sz)) dC dI ad cy 5 sz 0 0 25 [(0, .ref (ad 70)), (1, .int x1), (2, .int x2), (3, .int x3)] [] σ) (σ : S0) (x1 : Int32) (x3 : Int32) (t0 : Int32) (t1 : Int32)  (hf : fX3_canBe_b96 sf_25 σ x1 x3 t0 t1 = some (rr, ρ)) : Gw p l e rm_X3_canBe s m args below meth c (MQ below (QcI dC dI ad cy sz rr ρ) args s 0 0 (AW ad sz)) dC dI ad cy 5 sz 0 0 96 [(0, .ref (ad 70)), (1, .int x1), (3, .int x3)] [.int t0, .int t1] σ := by
  unfold fX3_canBe_b96 at hf
  refine g_ior C dX3_canBe_96 ?_
  obtain ⟨v1, ev1, hf⟩ := ol_e hf
  refine g_nm ev1 ?_
  refine g_istore_n (lv2 := [(0, .ref (ad 70)), (1, .int x1), (2, .int v1), (3, .int x3)]) C dX3_canBe_97 rfl (by decide) [1, 2, 0, 3] rfl ?_
  obtain ⟨v2, ev2, hf⟩ := ol_e hf
  refine g_iinc (j := 3) (w := 1) (lv2 := [(0, .ref (ad 70)), (1, .int x1), (2, .int v1), (3, .int v2)]) C dX3_canBe_98 rfl (by decide) ev2 (by decide) [1, 2, 3, 0] rfl ?_
  refine g_goto (tgt := 25) C dX3_canBe_101 (by decide) ?_
  exact g_sub [0, 1, 2, 3] rfl (hs_25 σ x1 v1 v2 hf)
def fX3_canBe_b72 (sf_25 : S0 → Int32 → Int32 → Int32 → Option (Int32 × S0)) (σ : S0) (x1 : Int32) (x2 : Int32) (x3 : Int32) (x4 : Int32) : Option (Int32 × S0) := if ¬ x4 = ((-4)) then (og (¬ (x4 < 0 ∨ 12 ≤ x4.toNatClampNeg)) (ol (σ 33 x4.toNatClampNeg) (fun v3 => fX3_canBe_b96 sf_25 σ x1 x3 ((1 : Int32) <<< (v3 &&& 31)) x2))) else (fX3_canBe_b96 sf_25 σ x1 x3 0 x2)
set_option maxHeartbeats 1000000 in
set_option maxRecDepth 100000 in
theorem fX3_canBe_b72_ok {p : Program} {l : Launch} {e : Env} {s : State} {m : MethodId} {args : Array Value} {below : List Frame} {meth : Method} {c : Code} {dC : Nat → ClassId} {dI : Nat → Nat → Nat} {ad : Nat → Nat} {cy : Nat → ClassId} {sz : Nat} (C : Cx p s m args meth c RX3 cX3_canBe 5 (some .boolean) dC dI ad cy sz) {rr : Int32} {ρ : S0} (sf_25 : S0 → Int32 → Int32 → Int32 → Option (Int32 × S0)) (hs_25 : ∀ (σ : S0) (x1 : Int32) (x2 : Int32) (x3 : Int32) , sf_25 σ x1 x2 x3 = some (rr, ρ) → Gw p l e rm_X3_canBe s m args below meth c (MQ below (QcI dC dI ad cy sz rr ρ) args s 0 0 (AW ad sz)) dC dI ad cy 5 sz 0 0 25 [(0, .ref (ad 70)), (1, .int x1), (2, .int x2), (3, .int x3)] [] σ) (σ : S0) (x1 : Int32) (x2 : Int32) (x3 : Int32) (x4 : Int32)  (hf : fX3_canBe_b72 sf_25 σ x1 x2 x3 x4 = some (rr, ρ)) : Gw p l e rm_X3_canBe s m args below meth c (MQ below (QcI dC dI ad cy sz rr ρ) args s 0 0 (AW ad sz)) dC dI ad cy 5 sz 0 0 72 [(0, .ref (ad 70)), (1, .int x1), (2, .int x2), (3, .int x3), (4, .int x4)] [] σ := by
  unfold fX3_canBe_b72 at hf
  refine g_iload_n C dX3_canBe_72 rfl 2 rfl ?_
  refine g_iload C dX3_canBe_73 4 rfl ?_
  refine g_bipush (v := (-4)) C dX3_canBe_75 (by decide) ?_
  rcases oi_e hf with ⟨c1, hf⟩ | ⟨c1, hf⟩
  · refine g_icmp_ne_t (tgt := 84) C dX3_canBe_77 (by decide) c1 ?_
    refine g_iconst (v := 1) C dX3_canBe_84 (by decide) ?_
    refine g_aload_n C dX3_canBe_85 rfl 0 rfl ?_
    refine g_get C (a_70 ad cy _) rfl hin_X3 1 (by decide) hF_X3_21 rfl rfl dX3_canBe_86 ?_
    refine g_get C (a_32 ad cy _) rfl hin_X1 1 (by decide) hF_X3_38 rfl rfl dX3_canBe_89 ?_
    refine g_iload C dX3_canBe_92 4 rfl ?_
    obtain ⟨h2, hf⟩ := og_e hf
    refine g_iald C (a_33 ad cy _) h2 dX3_canBe_94 ?_
    obtain ⟨v3, ev3, hf⟩ := ol_e hf
    refine g_nm ev3 ?_
    refine g_ishl C dX3_canBe_95 ?_
    exact g_sub [0, 1, 3] rfl (fX3_canBe_b96_ok C sf_25 hs_25 σ x1 x3 ((1 : Int32) <<< (v3 &&& 31)) x2 hf)
  · refine g_icmp_ne_f (tgt := 84) C dX3_canBe_77 (by decide) (Decidable.of_not_not c1) ?_
    refine g_iconst (v := 0) C dX3_canBe_80 (by decide) ?_
    refine g_goto (tgt := 96) C dX3_canBe_81 (by decide) ?_
    exact g_sub [0, 1, 3] rfl (fX3_canBe_b96_ok C sf_25 hs_25 σ x1 x3 0 x2 hf)
def fX3_canBe_b25 (sf_25 : S0 → Int32 → Int32 → Int32 → Option (Int32 × S0)) (σ : S0) (x1 : Int32) (x2 : Int32) (x3 : Int32) : Option (Int32 × S0) := if (σ 32 7) ≤ x3 then (obp (fX3_refusedBy σ x1) (fun r2 σ3 => if ¬ (x2 &&& r2) = 0 then (some (0, σ3)) else (some (1, σ3)))) else (og (¬ (x3 < 0 ∨ 12 ≤ x3.toNatClampNeg)) (ol (σ 39 x3.toNatClampNeg) (fun v7 => if v7 = ((-4)) then (fX3_canBe_b72 sf_25 σ x1 x2 x3 v7) else (og (¬ (x1 < 0 ∨ 6 ≤ x1.toNatClampNeg)) (ol (26 + 1 * x1.toNatClampNeg) (fun q10 => og (¬ (x3 < 0 ∨ 12 ≤ x3.toNatClampNeg)) (ol (σ q10 x3.toNatClampNeg) (fun v12 => if v7 = v12 then (fX3_canBe_b72 sf_25 σ x1 x2 x3 v7) else (some (0, σ))))))))))
set_option maxHeartbeats 1000000 in
set_option maxRecDepth 100000 in
theorem fX3_canBe_b25_ok {p : Program} {l : Launch} {e : Env} {s : State} {m : MethodId} {args : Array Value} {below : List Frame} {meth : Method} {c : Code} {dC : Nat → ClassId} {dI : Nat → Nat → Nat} {ad : Nat → Nat} {cy : Nat → ClassId} {sz : Nat} (C : Cx p s m args meth c RX3 cX3_canBe 5 (some .boolean) dC dI ad cy sz) {rr : Int32} {ρ : S0} (sf_25 : S0 → Int32 → Int32 → Int32 → Option (Int32 × S0)) (hs_25 : ∀ (σ : S0) (x1 : Int32) (x2 : Int32) (x3 : Int32) , sf_25 σ x1 x2 x3 = some (rr, ρ) → Gw p l e rm_X3_canBe s m args below meth c (MQ below (QcI dC dI ad cy sz rr ρ) args s 0 0 (AW ad sz)) dC dI ad cy 5 sz 0 0 25 [(0, .ref (ad 70)), (1, .int x1), (2, .int x2), (3, .int x3)] [] σ) (σ : S0) (x1 : Int32) (x2 : Int32) (x3 : Int32)  (hf : fX3_canBe_b25 sf_25 σ x1 x2 x3 = some (rr, ρ)) : Gw p l e rm_X3_canBe s m args below meth c (MQ below (QcI dC dI ad cy sz rr ρ) args s 0 0 (AW ad sz)) dC dI ad cy 5 sz 0 0 25 [(0, .ref (ad 70)), (1, .int x1), (2, .int x2), (3, .int x3)] [] σ := by
  unfold fX3_canBe_b25 at hf
  refine g_iload_n C dX3_canBe_25 rfl 3 rfl ?_
  refine g_aload_n C dX3_canBe_26 rfl 0 rfl ?_
  refine g_get C (a_70 ad cy _) rfl hin_X3 1 (by decide) hF_X3_21 rfl rfl dX3_canBe_27 ?_
  refine g_get C (a_32 ad cy _) rfl hin_X1 7 (by decide) hF_X3_22 rfl rfl dX3_canBe_30 ?_
  rcases oi_e hf with ⟨c1, hf⟩ | ⟨c1, hf⟩
  · refine g_icmp_ge_t (tgt := 104) C dX3_canBe_33 (by decide) c1 ?_
    refine g_iload_n C dX3_canBe_104 rfl 2 rfl ?_
    refine g_aload_n C dX3_canBe_105 rfl 0 rfl ?_
    refine g_iload_n C dX3_canBe_106 rfl 1 rfl ?_
    obtain ⟨r2, σ3, h4, hf⟩ := obp_e hf
    refine g_callVi (As := [.int x1]) (rest := [.int x2]) C (a_70 ad cy _) rfl (c_X3_refusedBy l dC dI ad cy x1) h4 hM_X3_41 cal_X3_refusedBy ⟨Nat.zero_le _, Nat.zero_le _⟩ ⟨rfl, rfl⟩ ⟨Nat.le_of_ble_eq_true rfl, Nat.le_of_ble_eq_true rfl⟩ rfl rfl (Nat.le_of_ble_eq_true rfl) dX3_canBe_107 ?_
    refine g_iand C dX3_canBe_110 ?_
    rcases oi_e hf with ⟨c5, hf⟩ | ⟨c5, hf⟩
    · refine g_if_ne_t (tgt := 118) C dX3_canBe_111 (by decide) c5 ?_
      refine g_iconst (v := 0) C dX3_canBe_118 (by decide) ?_
      obtain ⟨rfl, rfl⟩ := os_e hf
      exact g_zret C rfl (by decide) dX3_canBe_119
    · refine g_if_ne_f (tgt := 118) C dX3_canBe_111 (by decide) (Decidable.of_not_not c5) ?_
      refine g_iconst (v := 1) C dX3_canBe_114 (by decide) ?_
      refine g_goto (tgt := 119) C dX3_canBe_115 (by decide) ?_
      obtain ⟨rfl, rfl⟩ := os_e hf
      exact g_zret C rfl (by decide) dX3_canBe_119
  · refine g_icmp_ge_f (tgt := 104) C dX3_canBe_33 (by decide) c1 ?_
    refine g_aload_n C dX3_canBe_36 rfl 0 rfl ?_
    refine g_get C (a_70 ad cy _) rfl hin_X3 1 (by decide) hF_X3_21 rfl rfl dX3_canBe_37 ?_
    refine g_get C (a_32 ad cy _) rfl hin_X1 8 (by decide) hF_X3_32 rfl rfl dX3_canBe_40 ?_
    refine g_iload_n C dX3_canBe_43 rfl 3 rfl ?_
    obtain ⟨h6, hf⟩ := og_e hf
    refine g_iald C (a_39 ad cy _) h6 dX3_canBe_44 ?_
    obtain ⟨v7, ev7, hf⟩ := ol_e hf
    refine g_nm ev7 ?_
    refine g_istore (lv2 := [(0, .ref (ad 70)), (1, .int x1), (2, .int x2), (3, .int x3), (4, .int v7)]) C dX3_canBe_45 (by decide) [1, 2, 3, 4, 0] rfl ?_
    refine g_iload C dX3_canBe_47 4 rfl ?_
    refine g_bipush (v := (-4)) C dX3_canBe_49 (by decide) ?_
    rcases oi_e hf with ⟨c8, hf⟩ | ⟨c8, hf⟩
    · refine g_icmp_eq_t (tgt := 72) C dX3_canBe_51 (by decide) c8 ?_
      exact g_sub [0, 1, 2, 3, 4] rfl (fX3_canBe_b72_ok C sf_25 hs_25 σ x1 x2 x3 v7 hf)
    · refine g_icmp_eq_f (tgt := 72) C dX3_canBe_51 (by decide) c8 ?_
      refine g_iload C dX3_canBe_54 4 rfl ?_
      refine g_aload_n C dX3_canBe_56 rfl 0 rfl ?_
      refine g_get C (a_70 ad cy _) rfl hin_X3 0 (by decide) hF_X3_9 rfl rfl dX3_canBe_57 ?_
      refine g_get C (a_22 ad cy _) rfl hin_X9 5 (by decide) hF_X3_35 rfl rfl dX3_canBe_60 ?_
      refine g_iload_n C dX3_canBe_63 rfl 1 rfl ?_
      obtain ⟨h9, hf⟩ := og_e hf
      obtain ⟨q10, eq10, hf⟩ := ol_e hf
      refine g_aald C (a_25 ad cy _) rfl rfl h9 dX3_canBe_64 ?_
      refine g_nmr eq10 ?_
      have hq10 := (o_25 h9 eq10)
      refine g_iload_n C dX3_canBe_65 rfl 3 rfl ?_
      obtain ⟨h11, hf⟩ := og_e hf
      refine g_iald C (s_row hq10 ad cy _) h11 dX3_canBe_66 ?_
      obtain ⟨v12, ev12, hf⟩ := ol_e hf
      refine g_nm ev12 ?_
      rcases oi_e hf with ⟨c13, hf⟩ | ⟨c13, hf⟩
      · refine g_icmp_eq_t (tgt := 72) C dX3_canBe_67 (by decide) c13 ?_
        exact g_sub [0, 1, 2, 3, 4] rfl (fX3_canBe_b72_ok C sf_25 hs_25 σ x1 x2 x3 v7 hf)
      · refine g_icmp_eq_f (tgt := 72) C dX3_canBe_67 (by decide) c13 ?_
        refine g_iconst (v := 0) C dX3_canBe_70 (by decide) ?_
        obtain ⟨rfl, rfl⟩ := os_e hf
        exact g_zret C rfl (by decide) dX3_canBe_71
def fX3_canBe_h25  : Nat → S0 → Int32 → Int32 → Int32 → Option (Int32 × S0)
  | 0 => fun _ _ _ _ => none
  | n + 1 => fun σ x1 x2 x3 => fX3_canBe_b25  (fX3_canBe_h25  n) σ x1 x2 x3
set_option maxHeartbeats 1000000 in
set_option maxRecDepth 100000 in
theorem fX3_canBe_h25_ok {p : Program} {l : Launch} {e : Env} {s : State} {m : MethodId} {args : Array Value} {below : List Frame} {meth : Method} {c : Code} {dC : Nat → ClassId} {dI : Nat → Nat → Nat} {ad : Nat → Nat} {cy : Nat → ClassId} {sz : Nat} (C : Cx p s m args meth c RX3 cX3_canBe 5 (some .boolean) dC dI ad cy sz) {rr : Int32} {ρ : S0}  : ∀ (n : Nat) (σ : S0) (x1 : Int32) (x2 : Int32) (x3 : Int32)  (_hf : fX3_canBe_h25  n σ x1 x2 x3 = some (rr, ρ)), Gw p l e rm_X3_canBe s m args below meth c (MQ below (QcI dC dI ad cy sz rr ρ) args s 0 0 (AW ad sz)) dC dI ad cy 5 sz 0 0 25 [(0, .ref (ad 70)), (1, .int x1), (2, .int x2), (3, .int x3)] [] σ
  | 0, _, _, _, _, hf => by cases hf
  | n + 1, σ, x1, x2, x3, hf => fX3_canBe_b25_ok C  (fX3_canBe_h25  n) (fX3_canBe_h25_ok C  n) σ x1 x2 x3 hf
def fX3_canBe (σ : S0) (x1 : Int32) : Option (Int32 × S0) := og (¬ (x1 < 0 ∨ 6 ≤ x1.toNatClampNeg)) (ol (σ 24 x1.toNatClampNeg) (fun v2 => if (σ 32 7) = v2 then (fX3_canBe_h25 400 σ x1 0 0) else (some (0, σ))))
set_option maxHeartbeats 1000000 in
set_option maxRecDepth 100000 in
theorem fX3_canBe_ok {p : Program} {l : Launch} {e : Env} {s : State} {m : MethodId} {args : Array Value} {below : List Frame} {meth : Method} {c : Code} {dC : Nat → ClassId} {dI : Nat → Nat → Nat} {ad : Nat → Nat} {cy : Nat → ClassId} {sz : Nat} (C : Cx p s m args meth c RX3 cX3_canBe 5 (some .boolean) dC dI ad cy sz) {rr : Int32} {ρ : S0} (σ : S0) (x1 : Int32)  (hf : fX3_canBe σ x1 = some (rr, ρ)) : Gw p l e rm_X3_canBe s m args below meth c (MQ below (QcI dC dI ad cy sz rr ρ) args s 0 0 (AW ad sz)) dC dI ad cy 5 sz 0 0 0 [(0, .ref (ad 70)), (1, .int x1)] [] σ := by
  unfold fX3_canBe at hf
  refine g_aload_n C dX3_canBe_0 rfl 0 rfl ?_
  refine g_get C (a_70 ad cy _) rfl hin_X3 1 (by decide) hF_X3_21 rfl rfl dX3_canBe_1 ?_
  refine g_get C (a_32 ad cy _) rfl hin_X1 7 (by decide) hF_X3_22 rfl rfl dX3_canBe_4 ?_
  refine g_aload_n C dX3_canBe_7 rfl 0 rfl ?_
  refine g_get C (a_70 ad cy _) rfl hin_X3 0 (by decide) hF_X3_9 rfl rfl dX3_canBe_8 ?_
  refine g_get C (a_22 ad cy _) rfl hin_X9 4 (by decide) hF_X3_28 rfl rfl dX3_canBe_11 ?_
  refine g_iload_n C dX3_canBe_14 rfl 1 rfl ?_
  obtain ⟨h1, hf⟩ := og_e hf
  refine g_iald C (a_24 ad cy _) h1 dX3_canBe_15 ?_
  obtain ⟨v2, ev2, hf⟩ := ol_e hf
  refine g_nm ev2 ?_
  rcases oi_e hf with ⟨c3, hf⟩ | ⟨c3, hf⟩
  · refine g_icmp_eq_t (tgt := 21) C dX3_canBe_16 (by decide) c3 ?_
    refine g_iconst (v := 0) C dX3_canBe_21 (by decide) ?_
    refine g_istore_n (lv2 := [(0, .ref (ad 70)), (1, .int x1), (2, .int 0)]) C dX3_canBe_22 rfl (by decide) [1, 2, 0] rfl ?_
    refine g_iconst (v := 0) C dX3_canBe_23 (by decide) ?_
    refine g_istore_n (lv2 := [(0, .ref (ad 70)), (1, .int x1), (2, .int 0), (3, .int 0)]) C dX3_canBe_24 rfl (by decide) [1, 2, 3, 0] rfl ?_
    exact g_sub [0, 1, 2, 3] rfl (fX3_canBe_h25_ok C 400 σ x1 0 0 hf)
  · refine g_icmp_eq_f (tgt := 21) C dX3_canBe_16 (by decide) c3 ?_
    refine g_iconst (v := 0) C dX3_canBe_19 (by decide) ?_
    obtain ⟨rfl, rfl⟩ := os_e hf
    exact g_zret C rfl (by decide) dX3_canBe_20
theorem c_X3_canBe (l : Launch) (dC : Nat → ClassId) (dI : Nat → Nat → Nat) (ad : Nat → Nat) (cy : Nat → ClassId) (x1 : Int32) : ConI l yX3_canBe cX3_canBe 5 (some .boolean) rm_X3_canBe dC dI ad cy [.ref (ad 70), .int x1] (fun σ => fX3_canBe σ x1) := con_i (own := RX3) (by decide) rfl (Nat.le_of_ble_eq_true rfl) (fun _ _ _ _ _ _ _ _ σ _ _ C hf => fX3_canBe_ok C σ x1 hf)
theorem cal_X3_canBe : CalV yX3_canBe RX3 cX3_canBe 5 (some .boolean) 1 := ⟨hI_X3_canBe, hS_X3_canBe, hIni_X3, hC_X3_canBe, by decide +kernel⟩
abbrev rm_X3_addFitting : Room := { frames := 1, cells := 0, slots := 0, locals := 23 }
def fX3_addFitting_b28  (σ : S0) (x2 : Int32) : Option (Int32 × S0) := ol ((σ 70 5) &&& x2) (fun v1 => ol (su σ 70 5 v1) (fun σ2 => ol ((σ2 70 2) + 1) (fun v3 => ol (su σ2 70 2 v3) (fun σ4 => some (0, σ4)))))
set_option maxHeartbeats 1000000 in
set_option maxRecDepth 100000 in
theorem fX3_addFitting_b28_ok {p : Program} {l : Launch} {e : Env} {s : State} {m : MethodId} {args : Array Value} {below : List Frame} {meth : Method} {c : Code} {dC : Nat → ClassId} {dI : Nat → Nat → Nat} {ad : Nat → Nat} {cy : Nat → ClassId} {sz : Nat} (C : Cx p s m args meth c RX3 cX3_addFitting 3 none dC dI ad cy sz) {rr : Int32} {ρ : S0}  (σ : S0) (x2 : Int32)  (hf : fX3_addFitting_b28 σ x2 = some (rr, ρ)) : Gw p l e rm_X3_addFitting s m args below meth c (MQ below (QcV dC dI ad cy sz ρ) args s 0 0 (AW ad sz)) dC dI ad cy 3 sz 0 0 28 [(0, .ref (ad 70)), (2, .int x2)] [] σ := by
  unfold fX3_addFitting_b28 at hf
  refine g_aload_n C dX3_addFitting_28 rfl 0 rfl ?_
  refine g_dup C dX3_addFitting_29 rfl ?_
  refine g_get C (a_70 ad cy _) rfl hin_X3 5 (by decide) hF_X3_65 rfl rfl dX3_addFitting_30 ?_
  refine g_iload_n C dX3_addFitting_33 rfl 1 rfl ?_
  refine g_iand C dX3_addFitting_34 ?_
  obtain ⟨v1, ev1, hf⟩ := ol_e hf
  refine g_nm ev1 ?_
  obtain ⟨σ2, eσ2, hf⟩ := ol_e hf
  refine g_put (ty := .int) C (a_70 ad cy _) rfl hin_X3 tyX3 tyX3_ok nmX3 5 (by decide) hF_X3_65 rfl rfl (by decide +kernel) rfl rfl (Nat.le_of_ble_eq_true rfl) (p_70_5 ad cy _ _) eσ2 dX3_addFitting_35 ?_
  refine g_aload_n C dX3_addFitting_38 rfl 0 rfl ?_
  refine g_dup C dX3_addFitting_39 rfl ?_
  refine g_get C (a_70 ad cy _) rfl hin_X3 2 (by decide) hF_X3_45 rfl rfl dX3_addFitting_40 ?_
  refine g_iconst (v := 1) C dX3_addFitting_43 (by decide) ?_
  refine g_iadd C dX3_addFitting_44 ?_
  obtain ⟨v3, ev3, hf⟩ := ol_e hf
  refine g_nm ev3 ?_
  obtain ⟨σ4, eσ4, hf⟩ := ol_e hf
  refine g_put (ty := .int) C (a_70 ad cy _) rfl hin_X3 tyX3 tyX3_ok nmX3 2 (by decide) hF_X3_45 rfl rfl (by decide +kernel) rfl rfl (Nat.le_of_ble_eq_true rfl) (p_70_2 ad cy _ _) eσ4 dX3_addFitting_45 ?_
  obtain ⟨rfl, rfl⟩ := os_e hf
  exact g_vret C rfl dX3_addFitting_48
def fX3_addFitting (σ : S0) (x1 : Int32) : Option (Int32 × S0) := obp (fX3_refusedBy σ x1) (fun r1 σ2 => if ¬ (σ2 70 2) = 0 then (fX3_addFitting_b28 σ2 r1) else (ol (su σ2 70 3 x1) (fun σ5 => ol (su σ5 70 4 r1) (fun σ6 => ol (su σ6 70 5 r1) (fun σ7 => fX3_addFitting_b28 σ7 r1)))))
set_option maxHeartbeats 1000000 in
set_option maxRecDepth 100000 in
theorem fX3_addFitting_ok {p : Program} {l : Launch} {e : Env} {s : State} {m : MethodId} {args : Array Value} {below : List Frame} {meth : Method} {c : Code} {dC : Nat → ClassId} {dI : Nat → Nat → Nat} {ad : Nat → Nat} {cy : Nat → ClassId} {sz : Nat} (C : Cx p s m args meth c RX3 cX3_addFitting 3 none dC dI ad cy sz) {rr : Int32} {ρ : S0} (σ : S0) (x1 : Int32)  (hf : fX3_addFitting σ x1 = some (rr, ρ)) : Gw p l e rm_X3_addFitting s m args below meth c (MQ below (QcV dC dI ad cy sz ρ) args s 0 0 (AW ad sz)) dC dI ad cy 3 sz 0 0 0 [(0, .ref (ad 70)), (1, .int x1)] [] σ := by
  unfold fX3_addFitting at hf
  refine g_aload_n C dX3_addFitting_0 rfl 0 rfl ?_
  refine g_iload_n C dX3_addFitting_1 rfl 1 rfl ?_
  obtain ⟨r1, σ2, h3, hf⟩ := obp_e hf
  refine g_callVi (As := [.int x1]) (rest := []) C (a_70 ad cy _) rfl (c_X3_refusedBy l dC dI ad cy x1) h3 hM_X3_41 cal_X3_refusedBy ⟨Nat.zero_le _, Nat.zero_le _⟩ ⟨rfl, rfl⟩ ⟨Nat.le_of_ble_eq_true rfl, Nat.le_of_ble_eq_true rfl⟩ rfl rfl (Nat.le_of_ble_eq_true rfl) dX3_addFitting_2 ?_
  refine g_istore_n (lv2 := [(0, .ref (ad 70)), (1, .int x1), (2, .int r1)]) C dX3_addFitting_5 rfl (by decide) [1, 2, 0] rfl ?_
  refine g_aload_n C dX3_addFitting_6 rfl 0 rfl ?_
  refine g_get C (a_70 ad cy _) rfl hin_X3 2 (by decide) hF_X3_45 rfl rfl dX3_addFitting_7 ?_
  rcases oi_e hf with ⟨c4, hf⟩ | ⟨c4, hf⟩
  · refine g_if_ne_t (tgt := 28) C dX3_addFitting_10 (by decide) c4 ?_
    exact g_sub [0, 2] rfl (fX3_addFitting_b28_ok C σ2 r1 hf)
  · refine g_if_ne_f (tgt := 28) C dX3_addFitting_10 (by decide) (Decidable.of_not_not c4) ?_
    refine g_aload_n C dX3_addFitting_13 rfl 0 rfl ?_
    refine g_iload_n C dX3_addFitting_14 rfl 1 rfl ?_
    obtain ⟨σ5, eσ5, hf⟩ := ol_e hf
    refine g_put (ty := .int) C (a_70 ad cy _) rfl hin_X3 tyX3 tyX3_ok nmX3 3 (by decide) hF_X3_59 rfl rfl (by decide +kernel) rfl rfl (Nat.le_of_ble_eq_true rfl) (p_70_3 ad cy _ _) eσ5 dX3_addFitting_15 ?_
    refine g_aload_n C dX3_addFitting_18 rfl 0 rfl ?_
    refine g_iload_n C dX3_addFitting_19 rfl 2 rfl ?_
    obtain ⟨σ6, eσ6, hf⟩ := ol_e hf
    refine g_put (ty := .int) C (a_70 ad cy _) rfl hin_X3 tyX3 tyX3_ok nmX3 4 (by decide) hF_X3_62 rfl rfl (by decide +kernel) rfl rfl (Nat.le_of_ble_eq_true rfl) (p_70_4 ad cy _ _) eσ6 dX3_addFitting_20 ?_
    refine g_aload_n C dX3_addFitting_23 rfl 0 rfl ?_
    refine g_iload_n C dX3_addFitting_24 rfl 2 rfl ?_
    obtain ⟨σ7, eσ7, hf⟩ := ol_e hf
    refine g_put (ty := .int) C (a_70 ad cy _) rfl hin_X3 tyX3 tyX3_ok nmX3 5 (by decide) hF_X3_65 rfl rfl (by decide +kernel) rfl rfl (Nat.le_of_ble_eq_true rfl) (p_70_5 ad cy _ _) eσ7 dX3_addFitting_25 ?_
    exact g_sub [0, 2] rfl (fX3_addFitting_b28_ok C σ7 r1 hf)
theorem c_X3_addFitting (l : Launch) (dC : Nat → ClassId) (dI : Nat → Nat → Nat) (ad : Nat → Nat) (cy : Nat → ClassId) (x1 : Int32) : ConV l yX3_addFitting cX3_addFitting 3 none rm_X3_addFitting dC dI ad cy [.ref (ad 70), .int x1] (fun σ => fX3_addFitting σ x1) := con_v (own := RX3) (by decide) rfl (Nat.le_of_ble_eq_true rfl) (fun _ _ _ _ _ _ _ _ σ _ _ C hf => fX3_addFitting_ok C σ x1 hf)
theorem cal_X3_addFitting : CalV yX3_addFitting RX3 cX3_addFitting 3 none 1 := ⟨hI_X3_addFitting, hS_X3_addFitting, hIni_X3, hC_X3_addFitting, by decide +kernel⟩
abbrev rm_X3_compareAll : Room := { frames := 2, cells := 0, slots := 0, locals := 47 }
def fX3_compareAll_b31 (sf_7 : S0 → Int32 → Option (Int32 × S0)) (σ : S0) (x1 : Int32) : Option (Int32 × S0) := ol (x1 + 1) (fun v1 => sf_7 σ v1)
set_option maxHeartbeats 1000000 in
set_option maxRecDepth 100000 in
theorem fX3_compareAll_b31_ok {p : Program} {l : Launch} {e : Env} {s : State} {m : MethodId} {args : Array Value} {below : List Frame} {meth : Method} {c : Code} {dC : Nat → ClassId} {dI : Nat → Nat → Nat} {ad : Nat → Nat} {cy : Nat → ClassId} {sz : Nat} (C : Cx p s m args meth c RX3 cX3_compareAll 2 none dC dI ad cy sz) {rr : Int32} {ρ : S0} (sf_7 : S0 → Int32 → Option (Int32 × S0)) (hs_7 : ∀ (σ : S0) (x1 : Int32) , sf_7 σ x1 = some (rr, ρ) → Gw p l e rm_X3_compareAll s m args below meth c (MQ below (QcV dC dI ad cy sz ρ) args s 0 0 (AW ad sz)) dC dI ad cy 2 sz 0 0 7 [(0, .ref (ad 70)), (1, .int x1)] [] σ) (σ : S0) (x1 : Int32)  (hf : fX3_compareAll_b31 sf_7 σ x1 = some (rr, ρ)) : Gw p l e rm_X3_compareAll s m args below meth c (MQ below (QcV dC dI ad cy sz ρ) args s 0 0 (AW ad sz)) dC dI ad cy 2 sz 0 0 31 [(0, .ref (ad 70)), (1, .int x1)] [] σ := by
  unfold fX3_compareAll_b31 at hf
  obtain ⟨v1, ev1, hf⟩ := ol_e hf
  refine g_iinc (j := 1) (w := 1) (lv2 := [(0, .ref (ad 70)), (1, .int v1)]) C dX3_compareAll_31 rfl (by decide) ev1 (by decide) [1, 0] rfl ?_
  refine g_goto (tgt := 7) C dX3_compareAll_34 (by decide) ?_
  exact g_sub [0, 1] rfl (hs_7 σ v1 hf)
def fX3_compareAll_b7 (sf_7 : S0 → Int32 → Option (Int32 × S0)) (σ : S0) (x1 : Int32) : Option (Int32 × S0) := if (σ 22 2) ≤ x1 then (some (0, σ)) else (obp (fX3_canBe σ x1) (fun r2 σ3 => if r2 = 0 then (fX3_compareAll_b31 sf_7 σ3 x1) else (obp (fX3_addFitting σ3 x1) (fun r6 σ7 => fX3_compareAll_b31 sf_7 σ7 x1))))
set_option maxHeartbeats 1000000 in
set_option maxRecDepth 100000 in
theorem fX3_compareAll_b7_ok {p : Program} {l : Launch} {e : Env} {s : State} {m : MethodId} {args : Array Value} {below : List Frame} {meth : Method} {c : Code} {dC : Nat → ClassId} {dI : Nat → Nat → Nat} {ad : Nat → Nat} {cy : Nat → ClassId} {sz : Nat} (C : Cx p s m args meth c RX3 cX3_compareAll 2 none dC dI ad cy sz) {rr : Int32} {ρ : S0} (sf_7 : S0 → Int32 → Option (Int32 × S0)) (hs_7 : ∀ (σ : S0) (x1 : Int32) , sf_7 σ x1 = some (rr, ρ) → Gw p l e rm_X3_compareAll s m args below meth c (MQ below (QcV dC dI ad cy sz ρ) args s 0 0 (AW ad sz)) dC dI ad cy 2 sz 0 0 7 [(0, .ref (ad 70)), (1, .int x1)] [] σ) (σ : S0) (x1 : Int32)  (hf : fX3_compareAll_b7 sf_7 σ x1 = some (rr, ρ)) : Gw p l e rm_X3_compareAll s m args below meth c (MQ below (QcV dC dI ad cy sz ρ) args s 0 0 (AW ad sz)) dC dI ad cy 2 sz 0 0 7 [(0, .ref (ad 70)), (1, .int x1)] [] σ := by
  unfold fX3_compareAll_b7 at hf
  refine g_iload_n C dX3_compareAll_7 rfl 1 rfl ?_
  refine g_aload_n C dX3_compareAll_8 rfl 0 rfl ?_
  refine g_get C (a_70 ad cy _) rfl hin_X3 0 (by decide) hF_X3_9 rfl rfl dX3_compareAll_9 ?_
  refine g_get C (a_22 ad cy _) rfl hin_X9 2 (by decide) hF_X3_48 rfl rfl dX3_compareAll_12 ?_
  rcases oi_e hf with ⟨c1, hf⟩ | ⟨c1, hf⟩
  · refine g_icmp_ge_t (tgt := 37) C dX3_compareAll_15 (by decide) c1 ?_
    obtain ⟨rfl, rfl⟩ := os_e hf
    exact g_vret C rfl dX3_compareAll_37
  · refine g_icmp_ge_f (tgt := 37) C dX3_compareAll_15 (by decide) c1 ?_
    refine g_aload_n C dX3_compareAll_18 rfl 0 rfl ?_
    refine g_iload_n C dX3_compareAll_19 rfl 1 rfl ?_
    obtain ⟨r2, σ3, h4, hf⟩ := obp_e hf
    refine g_callVi (As := [.int x1]) (rest := []) C (a_70 ad cy _) rfl (c_X3_canBe l dC dI ad cy x1) h4 hM_X3_51 cal_X3_canBe ⟨Nat.zero_le _, Nat.zero_le _⟩ ⟨rfl, rfl⟩ ⟨Nat.le_of_ble_eq_true rfl, Nat.le_of_ble_eq_true rfl⟩ rfl rfl (Nat.le_of_ble_eq_true rfl) dX3_compareAll_20 ?_
    rcases oi_e hf with ⟨c5, hf⟩ | ⟨c5, hf⟩
    · refine g_if_eq_t (tgt := 31) C dX3_compareAll_23 (by decide) c5 ?_
      exact g_sub [0, 1] rfl (fX3_compareAll_b31_ok C sf_7 hs_7 σ3 x1 hf)
    · refine g_if_eq_f (tgt := 31) C dX3_compareAll_23 (by decide) c5 ?_
      refine g_aload_n C dX3_compareAll_26 rfl 0 rfl ?_
      refine g_iload_n C dX3_compareAll_27 rfl 1 rfl ?_
      obtain ⟨r6, σ7, h8, hf⟩ := obp_e hf
      refine g_callVv (As := [.int x1]) (rest := []) C (a_70 ad cy _) rfl (c_X3_addFitting l dC dI ad cy x1) h8 hM_X3_55 cal_X3_addFitting ⟨Nat.zero_le _, Nat.zero_le _⟩ ⟨rfl, rfl⟩ ⟨Nat.le_of_ble_eq_true rfl, Nat.le_of_ble_eq_true rfl⟩ rfl rfl (Nat.le_of_ble_eq_true rfl) dX3_compareAll_28 ?_
      exact g_sub [0, 1] rfl (fX3_compareAll_b31_ok C sf_7 hs_7 σ7 x1 hf)
def fX3_compareAll_h7  : Nat → S0 → Int32 → Option (Int32 × S0)
  | 0 => fun _ _ => none
  | n + 1 => fun σ x1 => fX3_compareAll_b7  (fX3_compareAll_h7  n) σ x1
set_option maxHeartbeats 1000000 in
set_option maxRecDepth 100000 in
theorem fX3_compareAll_h7_ok {p : Program} {l : Launch} {e : Env} {s : State} {m : MethodId} {args : Array Value} {below : List Frame} {meth : Method} {c : Code} {dC : Nat → ClassId} {dI : Nat → Nat → Nat} {ad : Nat → Nat} {cy : Nat → ClassId} {sz : Nat} (C : Cx p s m args meth c RX3 cX3_compareAll 2 none dC dI ad cy sz) {rr : Int32} {ρ : S0}  : ∀ (n : Nat) (σ : S0) (x1 : Int32)  (_hf : fX3_compareAll_h7  n σ x1 = some (rr, ρ)), Gw p l e rm_X3_compareAll s m args below meth c (MQ below (QcV dC dI ad cy sz ρ) args s 0 0 (AW ad sz)) dC dI ad cy 2 sz 0 0 7 [(0, .ref (ad 70)), (1, .int x1)] [] σ
  | 0, _, _, hf => by cases hf
  | n + 1, σ, x1, hf => fX3_compareAll_b7_ok C  (fX3_compareAll_h7  n) (fX3_compareAll_h7_ok C  n) σ x1 hf
def fX3_compareAll (σ : S0)  : Option (Int32 × S0) := ol (su σ 70 2 0) (fun σ1 => fX3_compareAll_h7 400 σ1 0)
set_option maxHeartbeats 1000000 in
set_option maxRecDepth 100000 in
theorem fX3_compareAll_ok {p : Program} {l : Launch} {e : Env} {s : State} {m : MethodId} {args : Array Value} {below : List Frame} {meth : Method} {c : Code} {dC : Nat → ClassId} {dI : Nat → Nat → Nat} {ad : Nat → Nat} {cy : Nat → ClassId} {sz : Nat} (C : Cx p s m args meth c RX3 cX3_compareAll 2 none dC dI ad cy sz) {rr : Int32} {ρ : S0} (σ : S0)   (hf : fX3_compareAll σ = some (rr, ρ)) : Gw p l e rm_X3_compareAll s m args below meth c (MQ below (QcV dC dI ad cy sz ρ) args s 0 0 (AW ad sz)) dC dI ad cy 2 sz 0 0 0 [(0, .ref (ad 70))] [] σ := by
  unfold fX3_compareAll at hf
  refine g_aload_n C dX3_compareAll_0 rfl 0 rfl ?_
  refine g_iconst (v := 0) C dX3_compareAll_1 (by decide) ?_
  obtain ⟨σ1, eσ1, hf⟩ := ol_e hf
  refine g_put (ty := .int) C (a_70 ad cy _) rfl hin_X3 tyX3 tyX3_ok nmX3 2 (by decide) hF_X3_45 rfl rfl (by decide +kernel) rfl rfl (Nat.le_of_ble_eq_true rfl) (p_70_2 ad cy _ _) eσ1 dX3_compareAll_2 ?_
  refine g_iconst (v := 0) C dX3_compareAll_5 (by decide) ?_
  refine g_istore_n (lv2 := [(0, .ref (ad 70)), (1, .int 0)]) C dX3_compareAll_6 rfl (by decide) [1, 0] rfl ?_
  exact g_sub [0, 1] rfl (fX3_compareAll_h7_ok C 400 σ1 0 hf)
theorem c_X3_compareAll (l : Launch) (dC : Nat → ClassId) (dI : Nat → Nat → Nat) (ad : Nat → Nat) (cy : Nat → ClassId)  : ConV l yX3_compareAll cX3_compareAll 2 none rm_X3_compareAll dC dI ad cy [.ref (ad 70)] (fun σ => fX3_compareAll σ) := con_v (own := RX3) (by decide) rfl (Nat.le_of_ble_eq_true rfl) (fun _ _ _ _ _ _ _ _ σ _ _ C hf => fX3_compareAll_ok C σ  hf)
theorem cal_X3_compareAll : CalV yX3_compareAll RX3 cX3_compareAll 2 none 0 := ⟨hI_X3_compareAll, hS_X3_compareAll, hIni_X3, hC_X3_compareAll, by decide +kernel⟩
abbrev rm_X5_refuse : Room := { frames := 0, cells := 0, slots := 0, locals := 0 }
def fX5_refuse (σ : S0) (x1 : Int32) : Option (Int32 × S0) := ol (su σ 3 5 x1) (fun σ1 => ol (σ1 1 4) (fun v2 => ol (su σ1 3 6 v2) (fun σ3 => some (0, σ3))))
set_option maxHeartbeats 1000000 in
set_option maxRecDepth 100000 in
theorem fX5_refuse_ok {p : Program} {l : Launch} {e : Env} {s : State} {m : MethodId} {args : Array Value} {below : List Frame} {meth : Method} {c : Code} {dC : Nat → ClassId} {dI : Nat → Nat → Nat} {ad : Nat → Nat} {cy : Nat → ClassId} {sz : Nat} (C : Cx p s m args meth c RX5 cX5_refuse 2 (some .boolean) dC dI ad cy sz) {rr : Int32} {ρ : S0} (σ : S0) (x1 : Int32)  (hf : fX5_refuse σ x1 = some (rr, ρ)) : Gw p l e rm_X5_refuse s m args below meth c (MQ below (QcI dC dI ad cy sz rr ρ) args s 0 0 (AW ad sz)) dC dI ad cy 2 sz 0 0 0 [(0, .ref (ad 3)), (1, .int x1)] [] σ := by
  unfold fX5_refuse at hf
  refine g_aload_n C dX5_refuse_0 rfl 0 rfl ?_
  refine g_iload_n C dX5_refuse_1 rfl 1 rfl ?_
  obtain ⟨σ1, eσ1, hf⟩ := ol_e hf
  refine g_put (ty := .int) C (a_3 ad cy _) rfl hin_X5 tyX5 tyX5_ok nmX5 5 (by decide) hF_X5_36 rfl rfl (by decide +kernel) rfl rfl (Nat.le_of_ble_eq_true rfl) (p_3_5 ad cy _ _) eσ1 dX5_refuse_2 ?_
  refine g_aload_n C dX5_refuse_5 rfl 0 rfl ?_
  refine g_aload_n C dX5_refuse_6 rfl 0 rfl ?_
  refine g_get C (a_3 ad cy _) rfl hin_X5 0 (by decide) hF_X5_18 rfl rfl dX5_refuse_7 ?_
  refine g_get C (a_1 ad cy _) rfl hin_X8 4 (by decide) hF_X5_162 rfl rfl dX5_refuse_10 ?_
  obtain ⟨v2, ev2, hf⟩ := ol_e hf
  refine g_nm ev2 ?_
  obtain ⟨σ3, eσ3, hf⟩ := ol_e hf
  refine g_put (ty := .int) C (a_3 ad cy _) rfl hin_X5 tyX5 tyX5_ok nmX5 6 (by decide) hF_X5_165 rfl rfl (by decide +kernel) rfl rfl (Nat.le_of_ble_eq_true rfl) (p_3_6 ad cy _ _) eσ3 dX5_refuse_13 ?_
  refine g_iconst (v := 0) C dX5_refuse_16 (by decide) ?_
  obtain ⟨rfl, rfl⟩ := os_e hf
  exact g_zret C rfl (by decide) dX5_refuse_17
theorem c_X5_refuse (l : Launch) (dC : Nat → ClassId) (dI : Nat → Nat → Nat) (ad : Nat → Nat) (cy : Nat → ClassId) (x1 : Int32) : ConI l yX5_refuse cX5_refuse 2 (some .boolean) rm_X5_refuse dC dI ad cy [.ref (ad 3), .int x1] (fun σ => fX5_refuse σ x1) := con_i (own := RX5) (by decide) rfl (Nat.le_of_ble_eq_true rfl) (fun _ _ _ _ _ _ _ _ σ _ _ C hf => fX5_refuse_ok C σ x1 hf)
theorem cal_X5_refuse : CalV yX5_refuse RX5 cX5_refuse 2 (some .boolean) 1 := ⟨hI_X5_refuse, hS_X5_refuse, hIni_X5, hC_X5_refuse, by decide +kernel⟩
abbrev rm_X5_advance : Room := { frames := 1, cells := 0, slots := 0, locals := 21 }
def fX5_advance_b26  (σ : S0)  : Option (Int32 × S0) := some (1, σ)
set_option maxHeartbeats 1000000 in
set_option maxRecDepth 100000 in
theorem fX5_advance_b26_ok {p : Program} {l : Launch} {e : Env} {s : State} {m : MethodId} {args : Array Value} {below : List Frame} {meth : Method} {c : Code} {dC : Nat → ClassId} {dI : Nat → Nat → Nat} {ad : Nat → Nat} {cy : Nat → ClassId} {sz : Nat} (C : Cx p s m args meth c RX5 cX5_advance 1 (some .boolean) dC dI ad cy sz) {rr : Int32} {ρ : S0}  (σ : S0)   (hf : fX5_advance_b26 σ = some (rr, ρ)) : Gw p l e rm_X5_advance s m args below meth c (MQ below (QcI dC dI ad cy sz rr ρ) args s 0 0 (AW ad sz)) dC dI ad cy 1 sz 0 0 26 [] [] σ := by
  unfold fX5_advance_b26 at hf
  refine g_iconst (v := 1) C dX5_advance_26 (by decide) ?_
  refine g_goto (tgt := 31) C dX5_advance_27 (by decide) ?_
  obtain ⟨rfl, rfl⟩ := os_e hf
  exact g_zret C rfl (by decide) dX5_advance_31
def fX5_advance (σ : S0)  : Option (Int32 × S0) := obp (fX8_readToken σ) (fun r1 σ2 => if ¬ (σ2 1 3) = 4 then (fX5_advance_b26 σ2) else (obp (fX5_refuse σ2 ((1 : Int32))) (fun r5 σ6 => if r5 = 0 then (some (0, σ6)) else (fX5_advance_b26 σ6))))
set_option maxHeartbeats 1000000 in
set_option maxRecDepth 100000 in
theorem fX5_advance_ok {p : Program} {l : Launch} {e : Env} {s : State} {m : MethodId} {args : Array Value} {below : List Frame} {meth : Method} {c : Code} {dC : Nat → ClassId} {dI : Nat → Nat → Nat} {ad : Nat → Nat} {cy : Nat → ClassId} {sz : Nat} (C : Cx p s m args meth c RX5 cX5_advance 1 (some .boolean) dC dI ad cy sz) {rr : Int32} {ρ : S0} (σ : S0)   (hf : fX5_advance σ = some (rr, ρ)) : Gw p l e rm_X5_advance s m args below meth c (MQ below (QcI dC dI ad cy sz rr ρ) args s 0 0 (AW ad sz)) dC dI ad cy 1 sz 0 0 0 [(0, .ref (ad 3))] [] σ := by
  unfold fX5_advance at hf
  refine g_aload_n C dX5_advance_0 rfl 0 rfl ?_
  refine g_get C (a_3 ad cy _) rfl hin_X5 0 (by decide) hF_X5_18 rfl rfl dX5_advance_1 ?_
  obtain ⟨r1, σ2, h3, hf⟩ := obp_e hf
  refine g_callVv (As := []) (rest := []) C (a_1 ad cy _) rfl (c_X8_readToken l dC dI ad cy ) h3 hM_X5_159 cal_X8_readToken ⟨Nat.zero_le _, Nat.zero_le _⟩ ⟨rfl, rfl⟩ ⟨Nat.le_of_ble_eq_true rfl, Nat.le_of_ble_eq_true rfl⟩ rfl rfl (Nat.le_of_ble_eq_true rfl) dX5_advance_4 ?_
  refine g_aload_n C dX5_advance_7 rfl 0 rfl ?_
  refine g_get C (a_3 ad cy _) rfl hin_X5 0 (by decide) hF_X5_18 rfl rfl dX5_advance_8 ?_
  refine g_get C (a_1 ad cy _) rfl hin_X8 3 (by decide) hF_X5_48 rfl rfl dX5_advance_11 ?_
  refine g_iconst (v := 4) C dX5_advance_14 (by decide) ?_
  rcases oi_e hf with ⟨c4, hf⟩ | ⟨c4, hf⟩
  · refine g_icmp_ne_t (tgt := 26) C dX5_advance_15 (by decide) c4 ?_
    exact g_sub [] rfl (fX5_advance_b26_ok C σ2 hf)
  · refine g_icmp_ne_f (tgt := 26) C dX5_advance_15 (by decide) (Decidable.of_not_not c4) ?_
    refine g_aload_n C dX5_advance_18 rfl 0 rfl ?_
    refine g_iconst (v := 1) C dX5_advance_19 (by decide) ?_
    obtain ⟨r5, σ6, h7, hf⟩ := obp_e hf
    refine g_callVi (As := [.int 1]) (rest := []) C (a_3 ad cy _) rfl (c_X5_refuse l dC dI ad cy ((1 : Int32))) h7 hM_X5_57 cal_X5_refuse ⟨Nat.zero_le _, Nat.zero_le _⟩ ⟨rfl, rfl⟩ ⟨Nat.le_of_ble_eq_true rfl, Nat.le_of_ble_eq_true rfl⟩ rfl rfl (Nat.le_of_ble_eq_true rfl) dX5_advance_20 ?_
    rcases oi_e hf with ⟨c8, hf⟩ | ⟨c8, hf⟩
    · refine g_if_eq_t (tgt := 30) C dX5_advance_23 (by decide) c8 ?_
      refine g_iconst (v := 0) C dX5_advance_30 (by decide) ?_
      obtain ⟨rfl, rfl⟩ := os_e hf
      exact g_zret C rfl (by decide) dX5_advance_31
    · refine g_if_eq_f (tgt := 30) C dX5_advance_23 (by decide) c8 ?_
      exact g_sub [] rfl (fX5_advance_b26_ok C σ6 hf)
theorem c_X5_advance (l : Launch) (dC : Nat → ClassId) (dI : Nat → Nat → Nat) (ad : Nat → Nat) (cy : Nat → ClassId)  : ConI l yX5_advance cX5_advance 1 (some .boolean) rm_X5_advance dC dI ad cy [.ref (ad 3)] (fun σ => fX5_advance σ) := con_i (own := RX5) (by decide) rfl (Nat.le_of_ble_eq_true rfl) (fun _ _ _ _ _ _ _ _ σ _ _ C hf => fX5_advance_ok C σ  hf)
theorem cal_X5_advance : CalV yX5_advance RX5 cX5_advance 1 (some .boolean) 0 := ⟨hI_X5_advance, hS_X5_advance, hIni_X5, hC_X5_advance, by decide +kernel⟩
abbrev rm_X5_faultOfNumber : Room := { frames := 0, cells := 0, slots := 0, locals := 0 }
def fX5_faultOfNumber_b48  (σ : S0)  : Option (Int32 × S0) := some (3, σ)
set_option maxHeartbeats 1000000 in
set_option maxRecDepth 100000 in
theorem fX5_faultOfNumber_b48_ok {p : Program} {l : Launch} {e : Env} {s : State} {m : MethodId} {args : Array Value} {below : List Frame} {meth : Method} {c : Code} {dC : Nat → ClassId} {dI : Nat → Nat → Nat} {ad : Nat → Nat} {cy : Nat → ClassId} {sz : Nat} (C : Cx p s m args meth c RX5 cX5_faultOfNumber 3 (some .int) dC dI ad cy sz) {rr : Int32} {ρ : S0}  (σ : S0)   (hf : fX5_faultOfNumber_b48 σ = some (rr, ρ)) : Gw p l e rm_X5_faultOfNumber s m args below meth c (MQ below (QcI dC dI ad cy sz rr ρ) args s 0 0 (AW ad sz)) dC dI ad cy 3 sz 0 0 48 [] [] σ := by
  unfold fX5_faultOfNumber_b48 at hf
  refine g_iconst (v := 3) C dX5_faultOfNumber_48 (by decide) ?_
  refine g_goto (tgt := 53) C dX5_faultOfNumber_49 (by decide) ?_
  obtain ⟨rfl, rfl⟩ := os_e hf
  exact g_iret C rfl dX5_faultOfNumber_53
def fX5_faultOfNumber (σ : S0) (x1 : Int32) (x2 : Int32) : Option (Int32 × S0) := if ¬ (σ 1 3) = 4 then (if (σ 1 3) = 2 then (if (σ 1 5) < x1 then (fX5_faultOfNumber_b48 σ) else (if (σ 1 5) ≤ x2 then (some (0, σ)) else (fX5_faultOfNumber_b48 σ))) else (some (2, σ))) else (some (1, σ))
set_option maxHeartbeats 1000000 in
set_option maxRecDepth 100000 in
theorem fX5_faultOfNumber_ok {p : Program} {l : Launch} {e : Env} {s : State} {m : MethodId} {args : Array Value} {below : List Frame} {meth : Method} {c : Code} {dC : Nat → ClassId} {dI : Nat → Nat → Nat} {ad : Nat → Nat} {cy : Nat → ClassId} {sz : Nat} (C : Cx p s m args meth c RX5 cX5_faultOfNumber 3 (some .int) dC dI ad cy sz) {rr : Int32} {ρ : S0} (σ : S0) (x1 : Int32) (x2 : Int32)  (hf : fX5_faultOfNumber σ x1 x2 = some (rr, ρ)) : Gw p l e rm_X5_faultOfNumber s m args below meth c (MQ below (QcI dC dI ad cy sz rr ρ) args s 0 0 (AW ad sz)) dC dI ad cy 3 sz 0 0 0 [(0, .ref (ad 3)), (1, .int x1), (2, .int x2)] [] σ := by
  unfold fX5_faultOfNumber at hf
  refine g_aload_n C dX5_faultOfNumber_0 rfl 0 rfl ?_
  refine g_get C (a_3 ad cy _) rfl hin_X5 0 (by decide) hF_X5_18 rfl rfl dX5_faultOfNumber_1 ?_
  refine g_get C (a_1 ad cy _) rfl hin_X8 3 (by decide) hF_X5_48 rfl rfl dX5_faultOfNumber_4 ?_
  refine g_iconst (v := 4) C dX5_faultOfNumber_7 (by decide) ?_
  rcases oi_e hf with ⟨c1, hf⟩ | ⟨c1, hf⟩
  · refine g_icmp_ne_t (tgt := 13) C dX5_faultOfNumber_8 (by decide) c1 ?_
    refine g_aload_n C dX5_faultOfNumber_13 rfl 0 rfl ?_
    refine g_get C (a_3 ad cy _) rfl hin_X5 0 (by decide) hF_X5_18 rfl rfl dX5_faultOfNumber_14 ?_
    refine g_get C (a_1 ad cy _) rfl hin_X8 3 (by decide) hF_X5_48 rfl rfl dX5_faultOfNumber_17 ?_
    refine g_iconst (v := 2) C dX5_faultOfNumber_20 (by decide) ?_
    rcases oi_e hf with ⟨c2, hf⟩ | ⟨c2, hf⟩
    · refine g_icmp_eq_t (tgt := 26) C dX5_faultOfNumber_21 (by decide) c2 ?_
      refine g_aload_n C dX5_faultOfNumber_26 rfl 0 rfl ?_
      refine g_get C (a_3 ad cy _) rfl hin_X5 0 (by decide) hF_X5_18 rfl rfl dX5_faultOfNumber_27 ?_
      refine g_get C (a_1 ad cy _) rfl hin_X8 5 (by decide) hF_X5_94 rfl rfl dX5_faultOfNumber_30 ?_
      refine g_iload_n C dX5_faultOfNumber_33 rfl 1 rfl ?_
      rcases oi_e hf with ⟨c3, hf⟩ | ⟨c3, hf⟩
      · refine g_icmp_lt_t (tgt := 48) C dX5_faultOfNumber_34 (by decide) c3 ?_
        exact g_sub [] rfl (fX5_faultOfNumber_b48_ok C σ hf)
      · refine g_icmp_lt_f (tgt := 48) C dX5_faultOfNumber_34 (by decide) c3 ?_
        refine g_aload_n C dX5_faultOfNumber_37 rfl 0 rfl ?_
        refine g_get C (a_3 ad cy _) rfl hin_X5 0 (by decide) hF_X5_18 rfl rfl dX5_faultOfNumber_38 ?_
        refine g_get C (a_1 ad cy _) rfl hin_X8 5 (by decide) hF_X5_94 rfl rfl dX5_faultOfNumber_41 ?_
        refine g_iload_n C dX5_faultOfNumber_44 rfl 2 rfl ?_
        rcases oi_e hf with ⟨c4, hf⟩ | ⟨c4, hf⟩
        · refine g_icmp_le_t (tgt := 52) C dX5_faultOfNumber_45 (by decide) c4 ?_
          refine g_iconst (v := 0) C dX5_faultOfNumber_52 (by decide) ?_
          obtain ⟨rfl, rfl⟩ := os_e hf
          exact g_iret C rfl dX5_faultOfNumber_53
        · refine g_icmp_le_f (tgt := 52) C dX5_faultOfNumber_45 (by decide) c4 ?_
          exact g_sub [] rfl (fX5_faultOfNumber_b48_ok C σ hf)
    · refine g_icmp_eq_f (tgt := 26) C dX5_faultOfNumber_21 (by decide) c2 ?_
      refine g_iconst (v := 2) C dX5_faultOfNumber_24 (by decide) ?_
      obtain ⟨rfl, rfl⟩ := os_e hf
      exact g_iret C rfl dX5_faultOfNumber_25
  · refine g_icmp_ne_f (tgt := 13) C dX5_faultOfNumber_8 (by decide) (Decidable.of_not_not c1) ?_
    refine g_iconst (v := 1) C dX5_faultOfNumber_11 (by decide) ?_
    obtain ⟨rfl, rfl⟩ := os_e hf
    exact g_iret C rfl dX5_faultOfNumber_12
theorem c_X5_faultOfNumber (l : Launch) (dC : Nat → ClassId) (dI : Nat → Nat → Nat) (ad : Nat → Nat) (cy : Nat → ClassId) (x1 : Int32) (x2 : Int32) : ConI l yX5_faultOfNumber cX5_faultOfNumber 3 (some .int) rm_X5_faultOfNumber dC dI ad cy [.ref (ad 3), .int x1, .int x2] (fun σ => fX5_faultOfNumber σ x1 x2) := con_i (own := RX5) (by decide) rfl (Nat.le_of_ble_eq_true rfl) (fun _ _ _ _ _ _ _ _ σ _ _ C hf => fX5_faultOfNumber_ok C σ x1 x2 hf)
theorem cal_X5_faultOfNumber : CalV yX5_faultOfNumber RX5 cX5_faultOfNumber 3 (some .int) 2 := ⟨hI_X5_faultOfNumber, hS_X5_faultOfNumber, hIni_X5, hC_X5_faultOfNumber, by decide +kernel⟩
abbrev rm_X5_nextNumber : Room := { frames := 1, cells := 0, slots := 0, locals := 22 }
def fX5_nextNumber_b26  (σ : S0)  : Option (Int32 × S0) := some (1, σ)
set_option maxHeartbeats 1000000 in
set_option maxRecDepth 100000 in
theorem fX5_nextNumber_b26_ok {p : Program} {l : Launch} {e : Env} {s : State} {m : MethodId} {args : Array Value} {below : List Frame} {meth : Method} {c : Code} {dC : Nat → ClassId} {dI : Nat → Nat → Nat} {ad : Nat → Nat} {cy : Nat → ClassId} {sz : Nat} (C : Cx p s m args meth c RX5 cX5_nextNumber 4 (some .boolean) dC dI ad cy sz) {rr : Int32} {ρ : S0}  (σ : S0)   (hf : fX5_nextNumber_b26 σ = some (rr, ρ)) : Gw p l e rm_X5_nextNumber s m args below meth c (MQ below (QcI dC dI ad cy sz rr ρ) args s 0 0 (AW ad sz)) dC dI ad cy 4 sz 0 0 26 [] [] σ := by
  unfold fX5_nextNumber_b26 at hf
  refine g_iconst (v := 1) C dX5_nextNumber_26 (by decide) ?_
  refine g_goto (tgt := 31) C dX5_nextNumber_27 (by decide) ?_
  obtain ⟨rfl, rfl⟩ := os_e hf
  exact g_zret C rfl (by decide) dX5_nextNumber_31
def fX5_nextNumber (σ : S0) (x1 : Int32) (x2 : Int32) : Option (Int32 × S0) := obp (fX8_readToken σ) (fun r1 σ2 => obp (fX5_faultOfNumber σ2 x1 x2) (fun r4 σ5 => if r4 = 0 then (fX5_nextNumber_b26 σ5) else (obp (fX5_refuse σ5 r4) (fun r8 σ9 => if r8 = 0 then (some (0, σ9)) else (fX5_nextNumber_b26 σ9)))))
set_option maxHeartbeats 1000000 in
set_option maxRecDepth 100000 in
theorem fX5_nextNumber_ok {p : Program} {l : Launch} {e : Env} {s : State} {m : MethodId} {args : Array Value} {below : List Frame} {meth : Method} {c : Code} {dC : Nat → ClassId} {dI : Nat → Nat → Nat} {ad : Nat → Nat} {cy : Nat → ClassId} {sz : Nat} (C : Cx p s m args meth c RX5 cX5_nextNumber 4 (some .boolean) dC dI ad cy sz) {rr : Int32} {ρ : S0} (σ : S0) (x1 : Int32) (x2 : Int32)  (hf : fX5_nextNumber σ x1 x2 = some (rr, ρ)) : Gw p l e rm_X5_nextNumber s m args below meth c (MQ below (QcI dC dI ad cy sz rr ρ) args s 0 0 (AW ad sz)) dC dI ad cy 4 sz 0 0 0 [(0, .ref (ad 3)), (1, .int x1), (2, .int x2)] [] σ := by
  unfold fX5_nextNumber at hf
  refine g_aload_n C dX5_nextNumber_0 rfl 0 rfl ?_
  refine g_get C (a_3 ad cy _) rfl hin_X5 0 (by decide) hF_X5_18 rfl rfl dX5_nextNumber_1 ?_
  obtain ⟨r1, σ2, h3, hf⟩ := obp_e hf
  refine g_callVv (As := []) (rest := []) C (a_1 ad cy _) rfl (c_X8_readToken l dC dI ad cy ) h3 hM_X5_159 cal_X8_readToken ⟨Nat.zero_le _, Nat.zero_le _⟩ ⟨rfl, rfl⟩ ⟨Nat.le_of_ble_eq_true rfl, Nat.le_of_ble_eq_true rfl⟩ rfl rfl (Nat.le_of_ble_eq_true rfl) dX5_nextNumber_4 ?_
  refine g_aload_n C dX5_nextNumber_7 rfl 0 rfl ?_
  refine g_iload_n C dX5_nextNumber_8 rfl 1 rfl ?_
  refine g_iload_n C dX5_nextNumber_9 rfl 2 rfl ?_
  obtain ⟨r4, σ5, h6, hf⟩ := obp_e hf
  refine g_callVi (As := [.int x1, .int x2]) (rest := []) C (a_3 ad cy _) rfl (c_X5_faultOfNumber l dC dI ad cy x1 x2) h6 hM_X5_144 cal_X5_faultOfNumber ⟨Nat.zero_le _, Nat.zero_le _⟩ ⟨rfl, rfl⟩ ⟨Nat.le_of_ble_eq_true rfl, Nat.le_of_ble_eq_true rfl⟩ rfl rfl (Nat.le_of_ble_eq_true rfl) dX5_nextNumber_10 ?_
  refine g_istore_n (lv2 := [(0, .ref (ad 3)), (1, .int x1), (2, .int x2), (3, .int r4)]) C dX5_nextNumber_13 rfl (by decide) [1, 2, 3, 0] rfl ?_
  refine g_iload_n C dX5_nextNumber_14 rfl 3 rfl ?_
  rcases oi_e hf with ⟨c7, hf⟩ | ⟨c7, hf⟩
  · refine g_if_eq_t (tgt := 26) C dX5_nextNumber_15 (by decide) c7 ?_
    exact g_sub [] rfl (fX5_nextNumber_b26_ok C σ5 hf)
  · refine g_if_eq_f (tgt := 26) C dX5_nextNumber_15 (by decide) c7 ?_
    refine g_aload_n C dX5_nextNumber_18 rfl 0 rfl ?_
    refine g_iload_n C dX5_nextNumber_19 rfl 3 rfl ?_
    obtain ⟨r8, σ9, h10, hf⟩ := obp_e hf
    refine g_callVi (As := [.int r4]) (rest := []) C (a_3 ad cy _) rfl (c_X5_refuse l dC dI ad cy r4) h10 hM_X5_57 cal_X5_refuse ⟨Nat.zero_le _, Nat.zero_le _⟩ ⟨rfl, rfl⟩ ⟨Nat.le_of_ble_eq_true rfl, Nat.le_of_ble_eq_true rfl⟩ rfl rfl (Nat.le_of_ble_eq_true rfl) dX5_nextNumber_20 ?_
    rcases oi_e hf with ⟨c11, hf⟩ | ⟨c11, hf⟩
    · refine g_if_eq_t (tgt := 30) C dX5_nextNumber_23 (by decide) c11 ?_
      refine g_iconst (v := 0) C dX5_nextNumber_30 (by decide) ?_
      obtain ⟨rfl, rfl⟩ := os_e hf
      exact g_zret C rfl (by decide) dX5_nextNumber_31
    · refine g_if_eq_f (tgt := 30) C dX5_nextNumber_23 (by decide) c11 ?_
      exact g_sub [] rfl (fX5_nextNumber_b26_ok C σ9 hf)
theorem c_X5_nextNumber (l : Launch) (dC : Nat → ClassId) (dI : Nat → Nat → Nat) (ad : Nat → Nat) (cy : Nat → ClassId) (x1 : Int32) (x2 : Int32) : ConI l yX5_nextNumber cX5_nextNumber 4 (some .boolean) rm_X5_nextNumber dC dI ad cy [.ref (ad 3), .int x1, .int x2] (fun σ => fX5_nextNumber σ x1 x2) := con_i (own := RX5) (by decide) rfl (Nat.le_of_ble_eq_true rfl) (fun _ _ _ _ _ _ _ _ σ _ _ C hf => fX5_nextNumber_ok C σ x1 x2 hf)
theorem cal_X5_nextNumber : CalV yX5_nextNumber RX5 cX5_nextNumber 4 (some .boolean) 2 := ⟨hI_X5_nextNumber, hS_X5_nextNumber, hIni_X5, hC_X5_nextNumber, by decide +kernel⟩
abbrev rm_X5_endLine : Room := { frames := 2, cells := 0, slots := 0, locals := 41 }
def fX5_endLine (σ : S0)  : Option (Int32 × S0) := if ¬ (σ 1 3) = 3 then (obp (fX5_refuse σ ((2 : Int32))) (fun r2 σ3 => og (r2 = 0 ∨ r2 = 1) (some (r2, σ3)))) else (obp (fX5_advance σ) (fun r6 σ7 => og (r6 = 0 ∨ r6 = 1) (some (r6, σ7))))
set_option maxHeartbeats 1000000 in
set_option maxRecDepth 100000 in
theorem fX5_endLine_ok {p : Program} {l : Launch} {e : Env} {s : State} {m : MethodId} {args : Array Value} {below : List Frame} {meth : Method} {c : Code} {dC : Nat → ClassId} {dI : Nat → Nat → Nat} {ad : Nat → Nat} {cy : Nat → ClassId} {sz : Nat} (C : Cx p s m args meth c RX5 cX5_endLine 1 (some .boolean) dC dI ad cy sz) {rr : Int32} {ρ : S0} (σ : S0)   (hf : fX5_endLine σ = some (rr, ρ)) : Gw p l e rm_X5_endLine s m args below meth c (MQ below (QcI dC dI ad cy sz rr ρ) args s 0 0 (AW ad sz)) dC dI ad cy 1 sz 0 0 0 [(0, .ref (ad 3))] [] σ := by
  unfold fX5_endLine at hf
  refine g_aload_n C dX5_endLine_0 rfl 0 rfl ?_
  refine g_get C (a_3 ad cy _) rfl hin_X5 0 (by decide) hF_X5_18 rfl rfl dX5_endLine_1 ?_
  refine g_get C (a_1 ad cy _) rfl hin_X8 3 (by decide) hF_X5_48 rfl rfl dX5_endLine_4 ?_
  refine g_iconst (v := 3) C dX5_endLine_7 (by decide) ?_
  rcases oi_e hf with ⟨c1, hf⟩ | ⟨c1, hf⟩
  · refine g_icmp_ne_t (tgt := 18) C dX5_endLine_8 (by decide) c1 ?_
    refine g_aload_n C dX5_endLine_18 rfl 0 rfl ?_
    refine g_iconst (v := 2) C dX5_endLine_19 (by decide) ?_
    obtain ⟨r2, σ3, h4, hf⟩ := obp_e hf
    refine g_callVi (As := [.int 2]) (rest := []) C (a_3 ad cy _) rfl (c_X5_refuse l dC dI ad cy ((2 : Int32))) h4 hM_X5_57 cal_X5_refuse ⟨Nat.zero_le _, Nat.zero_le _⟩ ⟨rfl, rfl⟩ ⟨Nat.le_of_ble_eq_true rfl, Nat.le_of_ble_eq_true rfl⟩ rfl rfl (Nat.le_of_ble_eq_true rfl) dX5_endLine_20 ?_
    obtain ⟨h5, hf⟩ := og_e hf
    obtain ⟨rfl, rfl⟩ := os_e hf
    exact g_zret C rfl (zb_ok h5) dX5_endLine_23
  · refine g_icmp_ne_f (tgt := 18) C dX5_endLine_8 (by decide) (Decidable.of_not_not c1) ?_
    refine g_aload_n C dX5_endLine_11 rfl 0 rfl ?_
    obtain ⟨r6, σ7, h8, hf⟩ := obp_e hf
    refine g_callVi (As := []) (rest := []) C (a_3 ad cy _) rfl (c_X5_advance l dC dI ad cy ) h8 hM_X5_44 cal_X5_advance ⟨Nat.zero_le _, Nat.zero_le _⟩ ⟨rfl, rfl⟩ ⟨Nat.le_of_ble_eq_true rfl, Nat.le_of_ble_eq_true rfl⟩ rfl rfl (Nat.le_of_ble_eq_true rfl) dX5_endLine_12 ?_
    refine g_goto (tgt := 23) C dX5_endLine_15 (by decide) ?_
    obtain ⟨h9, hf⟩ := og_e hf
    obtain ⟨rfl, rfl⟩ := os_e hf
    exact g_zret C rfl (zb_ok h9) dX5_endLine_23
theorem c_X5_endLine (l : Launch) (dC : Nat → ClassId) (dI : Nat → Nat → Nat) (ad : Nat → Nat) (cy : Nat → ClassId)  : ConI l yX5_endLine cX5_endLine 1 (some .boolean) rm_X5_endLine dC dI ad cy [.ref (ad 3)] (fun σ => fX5_endLine σ) := con_i (own := RX5) (by decide) rfl (Nat.le_of_ble_eq_true rfl) (fun _ _ _ _ _ _ _ _ σ _ _ C hf => fX5_endLine_ok C σ  hf)
theorem cal_X5_endLine : CalV yX5_endLine RX5 cX5_endLine 1 (some .boolean) 0 := ⟨hI_X5_endLine, hS_X5_endLine, hIni_X5, hC_X5_endLine, by decide +kernel⟩
abbrev rm_X5_readHouses : Room := { frames := 3, cells := 0, slots := 0, locals := 61 }
def fX5_readHouses (σ : S0)  : Option (Int32 × S0) := if (σ 3 2) = 0 then (ol (su σ 3 2 1) (fun σ2 => obp (fX5_nextNumber σ2 ((1 : Int32)) ((6 : Int32))) (fun r3 σ4 => if ¬ r3 = 0 then (ol (σ4 1 5) (fun v7 => ol (su σ4 4 0 v7) (fun σ8 => obp (fX5_advance σ8) (fun r9 σ10 => if r9 = 0 then (some (0, σ10)) else (obp (fX5_endLine σ10) (fun r13 σ14 => if r13 = 0 then (some (0, σ14)) else (some (1, σ14)))))))) else (some (0, σ4))))) else (obp (fX5_refuse σ ((4 : Int32))) (fun r17 σ18 => og (r17 = 0 ∨ r17 = 1) (some (r17, σ18))))
set_option maxHeartbeats 1000000 in
set_option maxRecDepth 100000 in
theorem fX5_readHouses_ok {p : Program} {l : Launch} {e : Env} {s : State} {m : MethodId} {args : Array Value} {below : List Frame} {meth : Method} {c : Code} {dC : Nat → ClassId} {dI : Nat → Nat → Nat} {ad : Nat → Nat} {cy : Nat → ClassId} {sz : Nat} (C : Cx p s m args meth c RX5 cX5_readHouses 1 (some .boolean) dC dI ad cy sz) {rr : Int32} {ρ : S0} (σ : S0)   (hf : fX5_readHouses σ = some (rr, ρ)) : Gw p l e rm_X5_readHouses s m args below meth c (MQ below (QcI dC dI ad cy sz rr ρ) args s 0 0 (AW ad sz)) dC dI ad cy 1 sz 0 0 0 [(0, .ref (ad 3))] [] σ := by
  unfold fX5_readHouses at hf
  refine g_aload_n C dX5_readHouses_0 rfl 0 rfl ?_
  refine g_get C (a_3 ad cy _) rfl hin_X5 2 (by decide) hF_X5_25 rfl rfl dX5_readHouses_1 ?_
  rcases oi_e hf with ⟨c1, hf⟩ | ⟨c1, hf⟩
  · refine g_if_eq_t (tgt := 13) C dX5_readHouses_4 (by decide) c1 ?_
    refine g_aload_n C dX5_readHouses_13 rfl 0 rfl ?_
    refine g_iconst (v := 1) C dX5_readHouses_14 (by decide) ?_
    obtain ⟨σ2, eσ2, hf⟩ := ol_e hf
    refine g_put (ty := .boolean) C (a_3 ad cy _) rfl hin_X5 tyX5 tyX5_ok nmX5 2 (by decide) hF_X5_25 rfl rfl (by decide +kernel) rfl rfl (Nat.le_of_ble_eq_true rfl) (p_3_2 ad cy _ _) eσ2 dX5_readHouses_15 ?_
    refine g_aload_n C dX5_readHouses_18 rfl 0 rfl ?_
    refine g_iconst (v := 1) C dX5_readHouses_19 (by decide) ?_
    refine g_bipush (v := 6) C dX5_readHouses_20 (by decide) ?_
    obtain ⟨r3, σ4, h5, hf⟩ := obp_e hf
    refine g_callVi (As := [.int 1, .int 6]) (rest := []) C (a_3 ad cy _) rfl (c_X5_nextNumber l dC dI ad cy ((1 : Int32)) ((6 : Int32))) h5 hM_X5_90 cal_X5_nextNumber ⟨Nat.zero_le _, Nat.zero_le _⟩ ⟨rfl, rfl⟩ ⟨Nat.le_of_ble_eq_true rfl, Nat.le_of_ble_eq_true rfl⟩ rfl rfl (Nat.le_of_ble_eq_true rfl) dX5_readHouses_22 ?_
    rcases oi_e hf with ⟨c6, hf⟩ | ⟨c6, hf⟩
    · refine g_if_ne_t (tgt := 30) C dX5_readHouses_25 (by decide) c6 ?_
      refine g_aload_n C dX5_readHouses_30 rfl 0 rfl ?_
      refine g_get C (a_3 ad cy _) rfl hin_X5 1 (by decide) hF_X5_12 rfl rfl dX5_readHouses_31 ?_
      refine g_aload_n C dX5_readHouses_34 rfl 0 rfl ?_
      refine g_get C (a_3 ad cy _) rfl hin_X5 0 (by decide) hF_X5_18 rfl rfl dX5_readHouses_35 ?_
      refine g_get C (a_1 ad cy _) rfl hin_X8 5 (by decide) hF_X5_94 rfl rfl dX5_readHouses_38 ?_
      obtain ⟨v7, ev7, hf⟩ := ol_e hf
      refine g_nm ev7 ?_
      obtain ⟨σ8, eσ8, hf⟩ := ol_e hf
      refine g_put (ty := .int) C (a_4 ad cy _) rfl hin_X9 tyX9 tyX9_ok nmX9 0 (by decide) hF_X5_97 rfl rfl (by decide +kernel) rfl rfl (Nat.le_of_ble_eq_true rfl) (p_4_0 ad cy _ _) eσ8 dX5_readHouses_41 ?_
      refine g_aload_n C dX5_readHouses_44 rfl 0 rfl ?_
      obtain ⟨r9, σ10, h11, hf⟩ := obp_e hf
      refine g_callVi (As := []) (rest := []) C (a_3 ad cy _) rfl (c_X5_advance l dC dI ad cy ) h11 hM_X5_44 cal_X5_advance ⟨Nat.zero_le _, Nat.zero_le _⟩ ⟨rfl, rfl⟩ ⟨Nat.le_of_ble_eq_true rfl, Nat.le_of_ble_eq_true rfl⟩ rfl rfl (Nat.le_of_ble_eq_true rfl) dX5_readHouses_45 ?_
      rcases oi_e hf with ⟨c12, hf⟩ | ⟨c12, hf⟩
      · refine g_if_eq_t (tgt := 62) C dX5_readHouses_48 (by decide) c12 ?_
        refine g_iconst (v := 0) C dX5_readHouses_62 (by decide) ?_
        obtain ⟨rfl, rfl⟩ := os_e hf
        exact g_zret C rfl (by decide) dX5_readHouses_63
      · refine g_if_eq_f (tgt := 62) C dX5_readHouses_48 (by decide) c12 ?_
        refine g_aload_n C dX5_readHouses_51 rfl 0 rfl ?_
        obtain ⟨r13, σ14, h15, hf⟩ := obp_e hf
        refine g_callVi (As := []) (rest := []) C (a_3 ad cy _) rfl (c_X5_endLine l dC dI ad cy ) h15 hM_X5_99 cal_X5_endLine ⟨Nat.zero_le _, Nat.zero_le _⟩ ⟨rfl, rfl⟩ ⟨Nat.le_of_ble_eq_true rfl, Nat.le_of_ble_eq_true rfl⟩ rfl rfl (Nat.le_of_ble_eq_true rfl) dX5_readHouses_52 ?_
        rcases oi_e hf with ⟨c16, hf⟩ | ⟨c16, hf⟩
        · refine g_if_eq_t (tgt := 62) C dX5_readHouses_55 (by decide) c16 ?_
          refine g_iconst (v := 0) C dX5_readHouses_62 (by decide) ?_
          obtain ⟨rfl, rfl⟩ := os_e hf
          exact g_zret C rfl (by decide) dX5_readHouses_63
        · refine g_if_eq_f (tgt := 62) C dX5_readHouses_55 (by decide) c16 ?_
          refine g_iconst (v := 1) C dX5_readHouses_58 (by decide) ?_
          refine g_goto (tgt := 63) C dX5_readHouses_59 (by decide) ?_
          obtain ⟨rfl, rfl⟩ := os_e hf
          exact g_zret C rfl (by decide) dX5_readHouses_63
    · refine g_if_ne_f (tgt := 30) C dX5_readHouses_25 (by decide) (Decidable.of_not_not c6) ?_
      refine g_iconst (v := 0) C dX5_readHouses_28 (by decide) ?_
      obtain ⟨rfl, rfl⟩ := os_e hf
      exact g_zret C rfl (by decide) dX5_readHouses_29
  · refine g_if_eq_f (tgt := 13) C dX5_readHouses_4 (by decide) c1 ?_
    refine g_aload_n C dX5_readHouses_7 rfl 0 rfl ?_
    refine g_iconst (v := 4) C dX5_readHouses_8 (by decide) ?_
    obtain ⟨r17, σ18, h19, hf⟩ := obp_e hf
    refine g_callVi (As := [.int 4]) (rest := []) C (a_3 ad cy _) rfl (c_X5_refuse l dC dI ad cy ((4 : Int32))) h19 hM_X5_57 cal_X5_refuse ⟨Nat.zero_le _, Nat.zero_le _⟩ ⟨rfl, rfl⟩ ⟨Nat.le_of_ble_eq_true rfl, Nat.le_of_ble_eq_true rfl⟩ rfl rfl (Nat.le_of_ble_eq_true rfl) dX5_readHouses_9 ?_
    obtain ⟨h20, hf⟩ := og_e hf
    obtain ⟨rfl, rfl⟩ := os_e hf
    exact g_zret C rfl (zb_ok h20) dX5_readHouses_12
theorem c_X5_readHouses (l : Launch) (dC : Nat → ClassId) (dI : Nat → Nat → Nat) (ad : Nat → Nat) (cy : Nat → ClassId)  : ConI l yX5_readHouses cX5_readHouses 1 (some .boolean) rm_X5_readHouses dC dI ad cy [.ref (ad 3)] (fun σ => fX5_readHouses σ) := con_i (own := RX5) (by decide) rfl (Nat.le_of_ble_eq_true rfl) (fun _ _ _ _ _ _ _ _ σ _ _ C hf => fX5_readHouses_ok C σ  hf)
theorem cal_X5_readHouses : CalV yX5_readHouses RX5 cX5_readHouses 1 (some .boolean) 0 := ⟨hI_X5_readHouses, hS_X5_readHouses, hIni_X5, hC_X5_readHouses, by decide +kernel⟩
abbrev rm_X5_readGap : Room := { frames := 3, cells := 0, slots := 0, locals := 61 }
def fX5_readGap (σ : S0)  : Option (Int32 × S0) := if (σ 3 3) = 0 then (ol (su σ 3 3 1) (fun σ2 => obp (fX5_nextNumber σ2 ((0 : Int32)) ((9 : Int32))) (fun r3 σ4 => if ¬ r3 = 0 then (ol (σ4 1 5) (fun v7 => ol (su σ4 4 1 v7) (fun σ8 => obp (fX5_advance σ8) (fun r9 σ10 => if r9 = 0 then (some (0, σ10)) else (obp (fX5_endLine σ10) (fun r13 σ14 => if r13 = 0 then (some (0, σ14)) else (some (1, σ14)))))))) else (some (0, σ4))))) else (obp (fX5_refuse σ ((4 : Int32))) (fun r17 σ18 => og (r17 = 0 ∨ r17 = 1) (some (r17, σ18))))
set_option maxHeartbeats 1000000 in
set_option maxRecDepth 100000 in
theorem fX5_readGap_ok {p : Program} {l : Launch} {e : Env} {s : State} {m : MethodId} {args : Array Value} {below : List Frame} {meth : Method} {c : Code} {dC : Nat → ClassId} {dI : Nat → Nat → Nat} {ad : Nat → Nat} {cy : Nat → ClassId} {sz : Nat} (C : Cx p s m args meth c RX5 cX5_readGap 1 (some .boolean) dC dI ad cy sz) {rr : Int32} {ρ : S0} (σ : S0)   (hf : fX5_readGap σ = some (rr, ρ)) : Gw p l e rm_X5_readGap s m args below meth c (MQ below (QcI dC dI ad cy sz rr ρ) args s 0 0 (AW ad sz)) dC dI ad cy 1 sz 0 0 0 [(0, .ref (ad 3))] [] σ := by
  unfold fX5_readGap at hf
  refine g_aload_n C dX5_readGap_0 rfl 0 rfl ?_
  refine g_get C (a_3 ad cy _) rfl hin_X5 3 (by decide) hF_X5_29 rfl rfl dX5_readGap_1 ?_
  rcases oi_e hf with ⟨c1, hf⟩ | ⟨c1, hf⟩
  · refine g_if_eq_t (tgt := 13) C dX5_readGap_4 (by decide) c1 ?_
    refine g_aload_n C dX5_readGap_13 rfl 0 rfl ?_
    refine g_iconst (v := 1) C dX5_readGap_14 (by decide) ?_
    obtain ⟨σ2, eσ2, hf⟩ := ol_e hf
    refine g_put (ty := .boolean) C (a_3 ad cy _) rfl hin_X5 tyX5 tyX5_ok nmX5 3 (by decide) hF_X5_29 rfl rfl (by decide +kernel) rfl rfl (Nat.le_of_ble_eq_true rfl) (p_3_3 ad cy _ _) eσ2 dX5_readGap_15 ?_
    refine g_aload_n C dX5_readGap_18 rfl 0 rfl ?_
    refine g_iconst (v := 0) C dX5_readGap_19 (by decide) ?_
    refine g_bipush (v := 9) C dX5_readGap_20 (by decide) ?_
    obtain ⟨r3, σ4, h5, hf⟩ := obp_e hf
    refine g_callVi (As := [.int 0, .int 9]) (rest := []) C (a_3 ad cy _) rfl (c_X5_nextNumber l dC dI ad cy ((0 : Int32)) ((9 : Int32))) h5 hM_X5_90 cal_X5_nextNumber ⟨Nat.zero_le _, Nat.zero_le _⟩ ⟨rfl, rfl⟩ ⟨Nat.le_of_ble_eq_true rfl, Nat.le_of_ble_eq_true rfl⟩ rfl rfl (Nat.le_of_ble_eq_true rfl) dX5_readGap_22 ?_
    rcases oi_e hf with ⟨c6, hf⟩ | ⟨c6, hf⟩
    · refine g_if_ne_t (tgt := 30) C dX5_readGap_25 (by decide) c6 ?_
      refine g_aload_n C dX5_readGap_30 rfl 0 rfl ?_
      refine g_get C (a_3 ad cy _) rfl hin_X5 1 (by decide) hF_X5_12 rfl rfl dX5_readGap_31 ?_
      refine g_aload_n C dX5_readGap_34 rfl 0 rfl ?_
      refine g_get C (a_3 ad cy _) rfl hin_X5 0 (by decide) hF_X5_18 rfl rfl dX5_readGap_35 ?_
      refine g_get C (a_1 ad cy _) rfl hin_X8 5 (by decide) hF_X5_94 rfl rfl dX5_readGap_38 ?_
      obtain ⟨v7, ev7, hf⟩ := ol_e hf
      refine g_nm ev7 ?_
      obtain ⟨σ8, eσ8, hf⟩ := ol_e hf
      refine g_put (ty := .int) C (a_4 ad cy _) rfl hin_X9 tyX9 tyX9_ok nmX9 1 (by decide) hF_X5_102 rfl rfl (by decide +kernel) rfl rfl (Nat.le_of_ble_eq_true rfl) (p_4_1 ad cy _ _) eσ8 dX5_readGap_41 ?_
      refine g_aload_n C dX5_readGap_44 rfl 0 rfl ?_
      obtain ⟨r9, σ10, h11, hf⟩ := obp_e hf
      refine g_callVi (As := []) (rest := []) C (a_3 ad cy _) rfl (c_X5_advance l dC dI ad cy ) h11 hM_X5_44 cal_X5_advance ⟨Nat.zero_le _, Nat.zero_le _⟩ ⟨rfl, rfl⟩ ⟨Nat.le_of_ble_eq_true rfl, Nat.le_of_ble_eq_true rfl⟩ rfl rfl (Nat.le_of_ble_eq_true rfl) dX5_readGap_45 ?_
      rcases oi_e hf with ⟨c12, hf⟩ | ⟨c12, hf⟩
      · refine g_if_eq_t (tgt := 62) C dX5_readGap_48 (by decide) c12 ?_
        refine g_iconst (v := 0) C dX5_readGap_62 (by decide) ?_
        obtain ⟨rfl, rfl⟩ := os_e hf
        exact g_zret C rfl (by decide) dX5_readGap_63
      · refine g_if_eq_f (tgt := 62) C dX5_readGap_48 (by decide) c12 ?_
        refine g_aload_n C dX5_readGap_51 rfl 0 rfl ?_
        obtain ⟨r13, σ14, h15, hf⟩ := obp_e hf
        refine g_callVi (As := []) (rest := []) C (a_3 ad cy _) rfl (c_X5_endLine l dC dI ad cy ) h15 hM_X5_99 cal_X5_endLine ⟨Nat.zero_le _, Nat.zero_le _⟩ ⟨rfl, rfl⟩ ⟨Nat.le_of_ble_eq_true rfl, Nat.le_of_ble_eq_true rfl⟩ rfl rfl (Nat.le_of_ble_eq_true rfl) dX5_readGap_52 ?_
        rcases oi_e hf with ⟨c16, hf⟩ | ⟨c16, hf⟩
        · refine g_if_eq_t (tgt := 62) C dX5_readGap_55 (by decide) c16 ?_
          refine g_iconst (v := 0) C dX5_readGap_62 (by decide) ?_
          obtain ⟨rfl, rfl⟩ := os_e hf
          exact g_zret C rfl (by decide) dX5_readGap_63
        · refine g_if_eq_f (tgt := 62) C dX5_readGap_55 (by decide) c16 ?_
          refine g_iconst (v := 1) C dX5_readGap_58 (by decide) ?_
          refine g_goto (tgt := 63) C dX5_readGap_59 (by decide) ?_
          obtain ⟨rfl, rfl⟩ := os_e hf
          exact g_zret C rfl (by decide) dX5_readGap_63
    · refine g_if_ne_f (tgt := 30) C dX5_readGap_25 (by decide) (Decidable.of_not_not c6) ?_
      refine g_iconst (v := 0) C dX5_readGap_28 (by decide) ?_
      obtain ⟨rfl, rfl⟩ := os_e hf
      exact g_zret C rfl (by decide) dX5_readGap_29
  · refine g_if_eq_f (tgt := 13) C dX5_readGap_4 (by decide) c1 ?_
    refine g_aload_n C dX5_readGap_7 rfl 0 rfl ?_
    refine g_iconst (v := 4) C dX5_readGap_8 (by decide) ?_
    obtain ⟨r17, σ18, h19, hf⟩ := obp_e hf
    refine g_callVi (As := [.int 4]) (rest := []) C (a_3 ad cy _) rfl (c_X5_refuse l dC dI ad cy ((4 : Int32))) h19 hM_X5_57 cal_X5_refuse ⟨Nat.zero_le _, Nat.zero_le _⟩ ⟨rfl, rfl⟩ ⟨Nat.le_of_ble_eq_true rfl, Nat.le_of_ble_eq_true rfl⟩ rfl rfl (Nat.le_of_ble_eq_true rfl) dX5_readGap_9 ?_
    obtain ⟨h20, hf⟩ := og_e hf
    obtain ⟨rfl, rfl⟩ := os_e hf
    exact g_zret C rfl (zb_ok h20) dX5_readGap_12
theorem c_X5_readGap (l : Launch) (dC : Nat → ClassId) (dI : Nat → Nat → Nat) (ad : Nat → Nat) (cy : Nat → ClassId)  : ConI l yX5_readGap cX5_readGap 1 (some .boolean) rm_X5_readGap dC dI ad cy [.ref (ad 3)] (fun σ => fX5_readGap σ) := con_i (own := RX5) (by decide) rfl (Nat.le_of_ble_eq_true rfl) (fun _ _ _ _ _ _ _ _ σ _ _ C hf => fX5_readGap_ok C σ  hf)
theorem cal_X5_readGap : CalV yX5_readGap RX5 cX5_readGap 1 (some .boolean) 0 := ⟨hI_X5_readGap, hS_X5_readGap, hIni_X5, hC_X5_readGap, by decide +kernel⟩
abbrev rm_X5_readWiths : Room := { frames := 5, cells := 0, slots := 0, locals := 107 }
def fX5_readWiths_b65  (σ : S0)  : Option (Int32 × S0) := obp (fX5_refuse σ ((4 : Int32))) (fun r1 σ2 => og (r1 = 0 ∨ r1 = 1) (some (r1, σ2)))
set_option maxHeartbeats 1000000 in
set_option maxRecDepth 100000 in
theorem fX5_readWiths_b65_ok {p : Program} {l : Launch} {e : Env} {s : State} {m : MethodId} {args : Array Value} {below : List Frame} {meth : Method} {c : Code} {dC : Nat → ClassId} {dI : Nat → Nat → Nat} {ad : Nat → Nat} {cy : Nat → ClassId} {sz : Nat} (C : Cx p s m args meth c RX5 cX5_readWiths 5 (some .boolean) dC dI ad cy sz) {rr : Int32} {ρ : S0}  (σ : S0)   (hf : fX5_readWiths_b65 σ = some (rr, ρ)) : Gw p l e rm_X5_readWiths s m args below meth c (MQ below (QcI dC dI ad cy sz rr ρ) args s 0 0 (AW ad sz)) dC dI ad cy 5 sz 0 0 65 [(0, .ref (ad 3))] [] σ := by
  unfold fX5_readWiths_b65 at hf
  refine g_aload_n C dX5_readWiths_65 rfl 0 rfl ?_
  refine g_iconst (v := 4) C dX5_readWiths_66 (by decide) ?_
  obtain ⟨r1, σ2, h3, hf⟩ := obp_e hf
  refine g_callVi (As := [.int 4]) (rest := []) C (a_3 ad cy _) rfl (c_X5_refuse l dC dI ad cy ((4 : Int32))) h3 hM_X5_57 cal_X5_refuse ⟨Nat.zero_le _, Nat.zero_le _⟩ ⟨rfl, rfl⟩ ⟨Nat.le_of_ble_eq_true rfl, Nat.le_of_ble_eq_true rfl⟩ rfl rfl (Nat.le_of_ble_eq_true rfl) dX5_readWiths_67 ?_
  obtain ⟨h4, hf⟩ := og_e hf
  obtain ⟨rfl, rfl⟩ := os_e hf
  exact g_zret C rfl (zb_ok h4) dX5_readWiths_70
def fX5_readWiths_b132 (sf_2 : S0 → Nat → Int32 → Int32 → Option (Int32 × S0)) (σ : S0) (x1 : Nat) (x2 : Int32) (x3 : Int32) : Option (Int32 × S0) := obp (fX5_advance σ) (fun r1 σ2 => if ¬ r1 = 0 then (ol (x3 + 1) (fun v5 => sf_2 σ2 x1 x2 v5)) else (some (0, σ2)))
set_option maxHeartbeats 1000000 in
set_option maxRecDepth 100000 in
theorem fX5_readWiths_b132_ok {p : Program} {l : Launch} {e : Env} {s : State} {m : MethodId} {args : Array Value} {below : List Frame} {meth : Method} {c : Code} {dC : Nat → ClassId} {dI : Nat → Nat → Nat} {ad : Nat → Nat} {cy : Nat → ClassId} {sz : Nat} (C : Cx p s m args meth c RX5 cX5_readWiths 5 (some .boolean) dC dI ad cy sz) {rr : Int32} {ρ : S0} (sf_2 : S0 → Nat → Int32 → Int32 → Option (Int32 × S0)) (hs_2 : ∀ (σ : S0) (x1 : Nat) (x2 : Int32) (x3 : Int32) (hx1 : isChimes x1), sf_2 σ x1 x2 x3 = some (rr, ρ) → Gw p l e rm_X5_readWiths s m args below meth c (MQ below (QcI dC dI ad cy sz rr ρ) args s 0 0 (AW ad sz)) dC dI ad cy 5 sz 0 0 2 [(0, .ref (ad 3)), (1, .ref (ad x1)), (2, .int x2), (3, .int x3)] [] σ) (σ : S0) (x1 : Nat) (x2 : Int32) (x3 : Int32) (hx1 : isChimes x1) (hf : fX5_readWiths_b132 sf_2 σ x1 x2 x3 = some (rr, ρ)) : Gw p l e rm_X5_readWiths s m args below meth c (MQ below (QcI dC dI ad cy sz rr ρ) args s 0 0 (AW ad sz)) dC dI ad cy 5 sz 0 0 132 [(0, .ref (ad 3)), (1, .ref (ad x1)), (2, .int x2), (3, .int x3)] [] σ := by
  unfold fX5_readWiths_b132 at hf
  refine g_aload_n C dX5_readWiths_132 rfl 0 rfl ?_
  obtain ⟨r1, σ2, h3, hf⟩ := obp_e hf
  refine g_callVi (As := []) (rest := []) C (a_3 ad cy _) rfl (c_X5_advance l dC dI ad cy ) h3 hM_X5_44 cal_X5_advance ⟨Nat.zero_le _, Nat.zero_le _⟩ ⟨rfl, rfl⟩ ⟨Nat.le_of_ble_eq_true rfl, Nat.le_of_ble_eq_true rfl⟩ rfl rfl (Nat.le_of_ble_eq_true rfl) dX5_readWiths_133 ?_
  rcases oi_e hf with ⟨c4, hf⟩ | ⟨c4, hf⟩
  · refine g_if_ne_t (tgt := 141) C dX5_readWiths_136 (by decide) c4 ?_
    obtain ⟨v5, ev5, hf⟩ := ol_e hf
    refine g_iinc (j := 3) (w := 1) (lv2 := [(0, .ref (ad 3)), (1, .ref (ad x1)), (2, .int x2), (3, .int v5)]) C dX5_readWiths_141 rfl (by decide) ev5 (by decide) [1, 2, 3, 0] rfl ?_
    refine g_goto (tgt := 2) C dX5_readWiths_144 (by decide) ?_
    exact g_sub [0, 1, 2, 3] rfl (hs_2 σ2 x1 x2 v5 hx1 hf)
  · refine g_if_ne_f (tgt := 141) C dX5_readWiths_136 (by decide) (Decidable.of_not_not c4) ?_
    refine g_iconst (v := 0) C dX5_readWiths_139 (by decide) ?_
    obtain ⟨rfl, rfl⟩ := os_e hf
    exact g_zret C rfl (by decide) dX5_readWiths_140
def fX5_readWiths_b71 (sf_2 : S0 → Nat → Int32 → Int32 → Option (Int32 × S0)) (σ : S0) (x1 : Nat) (x2 : Int32) (x3 : Int32) (x4 : Int32) : Option (Int32 × S0) := if ¬ x4 = 0 then (obp (fX5_nextNumber σ ((0 : Int32)) ((5 : Int32))) (fun r2 σ3 => if ¬ r2 = 0 then (og (¬ (x2 < 0 ∨ 12 ≤ x2.toNatClampNeg)) (ol (σ3 (x1 + 1) x2.toNatClampNeg) (fun v7 => if ¬ (σ3 1 5) = v7 then (ol (σ3 1 5) (fun v9 => og (¬ (x2 < 0 ∨ 12 ≤ x2.toNatClampNeg)) (ol (su σ3 (x1 + 5) x2.toNatClampNeg v9) (fun σ11 => fX5_readWiths_b132 sf_2 σ11 x1 x2 x3)))) else (obp (fX5_refuse σ3 ((4 : Int32))) (fun r12 σ13 => og (r12 = 0 ∨ r12 = 1) (some (r12, σ13))))))) else (some (0, σ3)))) else (og (¬ (x2 < 0 ∨ 12 ≤ x2.toNatClampNeg)) (ol (su σ (x1 + 4) x2.toNatClampNeg 1) (fun σ17 => fX5_readWiths_b132 sf_2 σ17 x1 x2 x3)))
set_option maxHeartbeats 1000000 in
set_option maxRecDepth 100000 in
theorem fX5_readWiths_b71_ok {p : Program} {l : Launch} {e : Env} {s : State} {m : MethodId} {args : Array Value} {below : List Frame} {meth : Method} {c : Code} {dC : Nat → ClassId} {dI : Nat → Nat → Nat} {ad : Nat → Nat} {cy : Nat → ClassId} {sz : Nat} (C : Cx p s m args meth c RX5 cX5_readWiths 5 (some .boolean) dC dI ad cy sz) {rr : Int32} {ρ : S0} (sf_2 : S0 → Nat → Int32 → Int32 → Option (Int32 × S0)) (hs_2 : ∀ (σ : S0) (x1 : Nat) (x2 : Int32) (x3 : Int32) (hx1 : isChimes x1), sf_2 σ x1 x2 x3 = some (rr, ρ) → Gw p l e rm_X5_readWiths s m args below meth c (MQ below (QcI dC dI ad cy sz rr ρ) args s 0 0 (AW ad sz)) dC dI ad cy 5 sz 0 0 2 [(0, .ref (ad 3)), (1, .ref (ad x1)), (2, .int x2), (3, .int x3)] [] σ) (σ : S0) (x1 : Nat) (x2 : Int32) (x3 : Int32) (x4 : Int32) (hx1 : isChimes x1) (hf : fX5_readWiths_b71 sf_2 σ x1 x2 x3 x4 = some (rr, ρ)) : Gw p l e rm_X5_readWiths s m args below meth c (MQ below (QcI dC dI ad cy sz rr ρ) args s 0 0 (AW ad sz)) dC dI ad cy 5 sz 0 0 71 [(0, .ref (ad 3)), (1, .ref (ad x1)), (2, .int x2), (3, .int x3), (4, .int x4)] [] σ := by
  unfold fX5_readWiths_b71 at hf
  refine g_iload C dX5_readWiths_71 4 rfl ?_
  rcases oi_e hf with ⟨c1, hf⟩ | ⟨c1, hf⟩
  · refine g_if_ne_t (tgt := 86) C dX5_readWiths_73 (by decide) c1 ?_
    refine g_aload_n C dX5_readWiths_86 rfl 0 rfl ?_
    refine g_iconst (v := 0) C dX5_readWiths_87 (by decide) ?_
    refine g_iconst (v := 5) C dX5_readWiths_88 (by decide) ?_
    obtain ⟨r2, σ3, h4, hf⟩ := obp_e hf
    refine g_callVi (As := [.int 0, .int 5]) (rest := []) C (a_3 ad cy _) rfl (c_X5_nextNumber l dC dI ad cy ((0 : Int32)) ((5 : Int32))) h4 hM_X5_90 cal_X5_nextNumber ⟨Nat.zero_le _, Nat.zero_le _⟩ ⟨rfl, rfl⟩ ⟨Nat.le_of_ble_eq_true rfl, Nat.le_of_ble_eq_true rfl⟩ rfl rfl (Nat.le_of_ble_eq_true rfl) dX5_readWiths_89 ?_
    rcases oi_e hf with ⟨c5, hf⟩ | ⟨c5, hf⟩
    · refine g_if_ne_t (tgt := 97) C dX5_readWiths_92 (by decide) c5 ?_
      refine g_aload_n C dX5_readWiths_97 rfl 0 rfl ?_
      refine g_get C (a_3 ad cy _) rfl hin_X5 0 (by decide) hF_X5_18 rfl rfl dX5_readWiths_98 ?_
      refine g_get C (a_1 ad cy _) rfl hin_X8 5 (by decide) hF_X5_94 rfl rfl dX5_readWiths_101 ?_
      refine g_aload_n C dX5_readWiths_104 rfl 1 rfl ?_
      refine g_get C (s_isChimes hx1 ad cy _) rfl hin_X1 1 (by decide) hF_X5_120 rfl rfl dX5_readWiths_105 ?_
      refine g_iload_n C dX5_readWiths_108 rfl 2 rfl ?_
      obtain ⟨h6, hf⟩ := og_e hf
      refine g_iald C (s_row hx1.r1 ad cy _) h6 dX5_readWiths_109 ?_
      obtain ⟨v7, ev7, hf⟩ := ol_e hf
      refine g_nm ev7 ?_
      rcases oi_e hf with ⟨c8, hf⟩ | ⟨c8, hf⟩
      · refine g_icmp_ne_t (tgt := 119) C dX5_readWiths_110 (by decide) c8 ?_
        refine g_aload_n C dX5_readWiths_119 rfl 1 rfl ?_
        refine g_get C (s_isChimes hx1 ad cy _) rfl hin_X1 5 (by decide) hF_X5_113 rfl rfl dX5_readWiths_120 ?_
        refine g_iload_n C dX5_readWiths_123 rfl 2 rfl ?_
        refine g_aload_n C dX5_readWiths_124 rfl 0 rfl ?_
        refine g_get C (a_3 ad cy _) rfl hin_X5 0 (by decide) hF_X5_18 rfl rfl dX5_readWiths_125 ?_
        refine g_get C (a_1 ad cy _) rfl hin_X8 5 (by decide) hF_X5_94 rfl rfl dX5_readWiths_128 ?_
        obtain ⟨v9, ev9, hf⟩ := ol_e hf
        refine g_nm ev9 ?_
        obtain ⟨h10, hf⟩ := og_e hf
        obtain ⟨σ11, eσ11, hf⟩ := ol_e hf
        refine g_iast C (s_row hx1.r5 ad cy _) h10 (ws_row hx1.r5 ad cy _) eσ11 dX5_readWiths_131 ?_
        exact g_sub [0, 1, 2, 3] rfl (fX5_readWiths_b132_ok C sf_2 hs_2 σ11 x1 x2 x3 hx1 hf)
      · refine g_icmp_ne_f (tgt := 119) C dX5_readWiths_110 (by decide) (Decidable.of_not_not c8) ?_
        refine g_aload_n C dX5_readWiths_113 rfl 0 rfl ?_
        refine g_iconst (v := 4) C dX5_readWiths_114 (by decide) ?_
        obtain ⟨r12, σ13, h14, hf⟩ := obp_e hf
        refine g_callVi (As := [.int 4]) (rest := []) C (a_3 ad cy _) rfl (c_X5_refuse l dC dI ad cy ((4 : Int32))) h14 hM_X5_57 cal_X5_refuse ⟨Nat.zero_le _, Nat.zero_le _⟩ ⟨rfl, rfl⟩ ⟨Nat.le_of_ble_eq_true rfl, Nat.le_of_ble_eq_true rfl⟩ rfl rfl (Nat.le_of_ble_eq_true rfl) dX5_readWiths_115 ?_
        obtain ⟨h15, hf⟩ := og_e hf
        obtain ⟨rfl, rfl⟩ := os_e hf
        exact g_zret C rfl (zb_ok h15) dX5_readWiths_118
    · refine g_if_ne_f (tgt := 97) C dX5_readWiths_92 (by decide) (Decidable.of_not_not c5) ?_
      refine g_iconst (v := 0) C dX5_readWiths_95 (by decide) ?_
      obtain ⟨rfl, rfl⟩ := os_e hf
      exact g_zret C rfl (by decide) dX5_readWiths_96
  · refine g_if_ne_f (tgt := 86) C dX5_readWiths_73 (by decide) (Decidable.of_not_not c1) ?_
    refine g_aload_n C dX5_readWiths_76 rfl 1 rfl ?_
    refine g_get C (s_isChimes hx1 ad cy _) rfl hin_X1 4 (by decide) hF_X5_117 rfl rfl dX5_readWiths_77 ?_
    refine g_iload_n C dX5_readWiths_80 rfl 2 rfl ?_
    refine g_iconst (v := 1) C dX5_readWiths_81 (by decide) ?_
    obtain ⟨h16, hf⟩ := og_e hf
    obtain ⟨σ17, eσ17, hf⟩ := ol_e hf
    refine g_iast C (s_row hx1.r4 ad cy _) h16 (ws_row hx1.r4 ad cy _) eσ17 dX5_readWiths_82 ?_
    refine g_goto (tgt := 132) C dX5_readWiths_83 (by decide) ?_
    exact g_sub [0, 1, 2, 3] rfl (fX5_readWiths_b132_ok C sf_2 hs_2 σ17 x1 x2 x3 hx1 hf)
def fX5_readWiths_b37 (sf_2 : S0 → Nat → Int32 → Int32 → Option (Int32 × S0)) (σ : S0) (x1 : Nat) (x2 : Int32) (x3 : Int32) (x4 : Int32) : Option (Int32 × S0) := if x4 = 0 then (og (¬ (x2 < 0 ∨ 12 ≤ x2.toNatClampNeg)) (ol (σ (x1 + 4) x2.toNatClampNeg) (fun v3 => if v3 = 0 then (fX5_readWiths_b71 sf_2 σ x1 x2 x3 x4) else (fX5_readWiths_b65 σ)))) else (og (¬ (x2 < 0 ∨ 12 ≤ x2.toNatClampNeg)) (ol (σ (x1 + 5) x2.toNatClampNeg) (fun v6 => if v6 = ((-4)) then (fX5_readWiths_b71 sf_2 σ x1 x2 x3 x4) else (fX5_readWiths_b65 σ))))
set_option maxHeartbeats 1000000 in
set_option maxRecDepth 100000 in
theorem fX5_readWiths_b37_ok {p : Program} {l : Launch} {e : Env} {s : State} {m : MethodId} {args : Array Value} {below : List Frame} {meth : Method} {c : Code} {dC : Nat → ClassId} {dI : Nat → Nat → Nat} {ad : Nat → Nat} {cy : Nat → ClassId} {sz : Nat} (C : Cx p s m args meth c RX5 cX5_readWiths 5 (some .boolean) dC dI ad cy sz) {rr : Int32} {ρ : S0} (sf_2 : S0 → Nat → Int32 → Int32 → Option (Int32 × S0)) (hs_2 : ∀ (σ : S0) (x1 : Nat) (x2 : Int32) (x3 : Int32) (hx1 : isChimes x1), sf_2 σ x1 x2 x3 = some (rr, ρ) → Gw p l e rm_X5_readWiths s m args below meth c (MQ below (QcI dC dI ad cy sz rr ρ) args s 0 0 (AW ad sz)) dC dI ad cy 5 sz 0 0 2 [(0, .ref (ad 3)), (1, .ref (ad x1)), (2, .int x2), (3, .int x3)] [] σ) (σ : S0) (x1 : Nat) (x2 : Int32) (x3 : Int32) (x4 : Int32) (hx1 : isChimes x1) (hf : fX5_readWiths_b37 sf_2 σ x1 x2 x3 x4 = some (rr, ρ)) : Gw p l e rm_X5_readWiths s m args below meth c (MQ below (QcI dC dI ad cy sz rr ρ) args s 0 0 (AW ad sz)) dC dI ad cy 5 sz 0 0 37 [(0, .ref (ad 3)), (1, .ref (ad x1)), (2, .int x2), (3, .int x3), (4, .int x4)] [] σ := by
  unfold fX5_readWiths_b37 at hf
  refine g_iload C dX5_readWiths_37 4 rfl ?_
  rcases oi_e hf with ⟨c1, hf⟩ | ⟨c1, hf⟩
  · refine g_if_eq_t (tgt := 56) C dX5_readWiths_39 (by decide) c1 ?_
    refine g_aload_n C dX5_readWiths_56 rfl 1 rfl ?_
    refine g_get C (s_isChimes hx1 ad cy _) rfl hin_X1 4 (by decide) hF_X5_117 rfl rfl dX5_readWiths_57 ?_
    refine g_iload_n C dX5_readWiths_60 rfl 2 rfl ?_
    obtain ⟨h2, hf⟩ := og_e hf
    refine g_iald C (s_row hx1.r4 ad cy _) h2 dX5_readWiths_61 ?_
    obtain ⟨v3, ev3, hf⟩ := ol_e hf
    refine g_nm ev3 ?_
    rcases oi_e hf with ⟨c4, hf⟩ | ⟨c4, hf⟩
    · refine g_if_eq_t (tgt := 71) C dX5_readWiths_62 (by decide) c4 ?_
      exact g_sub [0, 1, 2, 3, 4] rfl (fX5_readWiths_b71_ok C sf_2 hs_2 σ x1 x2 x3 x4 hx1 hf)
    · refine g_if_eq_f (tgt := 71) C dX5_readWiths_62 (by decide) c4 ?_
      exact g_sub [0] rfl (fX5_readWiths_b65_ok C σ hf)
  · refine g_if_eq_f (tgt := 56) C dX5_readWiths_39 (by decide) c1 ?_
    refine g_aload_n C dX5_readWiths_42 rfl 1 rfl ?_
    refine g_get C (s_isChimes hx1 ad cy _) rfl hin_X1 5 (by decide) hF_X5_113 rfl rfl dX5_readWiths_43 ?_
    refine g_iload_n C dX5_readWiths_46 rfl 2 rfl ?_
    obtain ⟨h5, hf⟩ := og_e hf
    refine g_iald C (s_row hx1.r5 ad cy _) h5 dX5_readWiths_47 ?_
    obtain ⟨v6, ev6, hf⟩ := ol_e hf
    refine g_nm ev6 ?_
    refine g_bipush (v := (-4)) C dX5_readWiths_48 (by decide) ?_
    rcases oi_e hf with ⟨c7, hf⟩ | ⟨c7, hf⟩
    · refine g_icmp_eq_t (tgt := 71) C dX5_readWiths_50 (by decide) c7 ?_
      exact g_sub [0, 1, 2, 3, 4] rfl (fX5_readWiths_b71_ok C sf_2 hs_2 σ x1 x2 x3 x4 hx1 hf)
    · refine g_icmp_eq_f (tgt := 71) C dX5_readWiths_50 (by decide) c7 ?_
      refine g_goto (tgt := 65) C dX5_readWiths_53 (by decide) ?_
      exact g_sub [0] rfl (fX5_readWiths_b65_ok C σ hf)
def fX5_readWiths_b2 (sf_2 : S0 → Nat → Int32 → Int32 → Option (Int32 × S0)) (σ : S0) (x1 : Nat) (x2 : Int32) (x3 : Int32) : Option (Int32 × S0) := if (3 : Int32) ≤ x3 then (some (1, σ)) else (obp (fX8_isName σ 5) (fun r2 σ3 => if ¬ r2 = 0 then (fX5_readWiths_b37 sf_2 σ3 x1 x2 x3 r2) else (obp (fX8_isName σ3 6) (fun r6 σ7 => if ¬ r6 = 0 then (fX5_readWiths_b37 sf_2 σ7 x1 x2 x3 r2) else (some (1, σ7))))))
set_option maxHeartbeats 1000000 in
set_option maxRecDepth 100000 in
theorem fX5_readWiths_b2_ok {p : Program} {l : Launch} {e : Env} {s : State} {m : MethodId} {args : Array Value} {below : List Frame} {meth : Method} {c : Code} {dC : Nat → ClassId} {dI : Nat → Nat → Nat} {ad : Nat → Nat} {cy : Nat → ClassId} {sz : Nat} (C : Cx p s m args meth c RX5 cX5_readWiths 5 (some .boolean) dC dI ad cy sz) {rr : Int32} {ρ : S0} (sf_2 : S0 → Nat → Int32 → Int32 → Option (Int32 × S0)) (hs_2 : ∀ (σ : S0) (x1 : Nat) (x2 : Int32) (x3 : Int32) (hx1 : isChimes x1), sf_2 σ x1 x2 x3 = some (rr, ρ) → Gw p l e rm_X5_readWiths s m args below meth c (MQ below (QcI dC dI ad cy sz rr ρ) args s 0 0 (AW ad sz)) dC dI ad cy 5 sz 0 0 2 [(0, .ref (ad 3)), (1, .ref (ad x1)), (2, .int x2), (3, .int x3)] [] σ) (σ : S0) (x1 : Nat) (x2 : Int32) (x3 : Int32) (hx1 : isChimes x1) (hf : fX5_readWiths_b2 sf_2 σ x1 x2 x3 = some (rr, ρ)) : Gw p l e rm_X5_readWiths s m args below meth c (MQ below (QcI dC dI ad cy sz rr ρ) args s 0 0 (AW ad sz)) dC dI ad cy 5 sz 0 0 2 [(0, .ref (ad 3)), (1, .ref (ad x1)), (2, .int x2), (3, .int x3)] [] σ := by
  unfold fX5_readWiths_b2 at hf
  refine g_iload_n C dX5_readWiths_2 rfl 3 rfl ?_
  refine g_iconst (v := 3) C dX5_readWiths_3 (by decide) ?_
  rcases oi_e hf with ⟨c1, hf⟩ | ⟨c1, hf⟩
  · refine g_icmp_ge_t (tgt := 147) C dX5_readWiths_4 (by decide) c1 ?_
    refine g_iconst (v := 1) C dX5_readWiths_147 (by decide) ?_
    obtain ⟨rfl, rfl⟩ := os_e hf
    exact g_zret C rfl (by decide) dX5_readWiths_148
  · refine g_icmp_ge_f (tgt := 147) C dX5_readWiths_4 (by decide) c1 ?_
    refine g_aload_n C dX5_readWiths_7 rfl 0 rfl ?_
    refine g_get C (a_3 ad cy _) rfl hin_X5 0 (by decide) hF_X5_18 rfl rfl dX5_readWiths_8 ?_
    refine g_ldcs C (i := 5) (by decide) rfl dX5_readWiths_11 ?_
    obtain ⟨r2, σ3, h4, hf⟩ := obp_e hf
    refine g_callVi (As := [.ref (ad (200 + 5))]) (rest := []) C (a_1 ad cy _) rfl (c_X8_isName l dC dI ad cy 5 ((by decide : isStr 5))) h4 hM_X5_63 cal_X8_isName ⟨Nat.zero_le _, Nat.zero_le _⟩ ⟨rfl, rfl⟩ ⟨Nat.le_of_ble_eq_true rfl, Nat.le_of_ble_eq_true rfl⟩ rfl rfl (Nat.le_of_ble_eq_true rfl) dX5_readWiths_13 ?_
    refine g_istore (lv2 := [(0, .ref (ad 3)), (1, .ref (ad x1)), (2, .int x2), (3, .int x3), (4, .int r2)]) C dX5_readWiths_16 (by decide) [1, 2, 3, 4, 0] rfl ?_
    refine g_iload C dX5_readWiths_18 4 rfl ?_
    rcases oi_e hf with ⟨c5, hf⟩ | ⟨c5, hf⟩
    · refine g_if_ne_t (tgt := 37) C dX5_readWiths_20 (by decide) c5 ?_
      exact g_sub [0, 1, 2, 3, 4] rfl (fX5_readWiths_b37_ok C sf_2 hs_2 σ3 x1 x2 x3 r2 hx1 hf)
    · refine g_if_ne_f (tgt := 37) C dX5_readWiths_20 (by decide) (Decidable.of_not_not c5) ?_
      refine g_aload_n C dX5_readWiths_23 rfl 0 rfl ?_
      refine g_get C (a_3 ad cy _) rfl hin_X5 0 (by decide) hF_X5_18 rfl rfl dX5_readWiths_24 ?_
      refine g_ldcs C (i := 6) (by decide) rfl dX5_readWiths_27 ?_
      obtain ⟨r6, σ7, h8, hf⟩ := obp_e hf
      refine g_callVi (As := [.ref (ad (200 + 6))]) (rest := []) C (a_1 ad cy _) rfl (c_X8_isName l dC dI ad cy 6 ((by decide : isStr 6))) h8 hM_X5_63 cal_X8_isName ⟨Nat.zero_le _, Nat.zero_le _⟩ ⟨rfl, rfl⟩ ⟨Nat.le_of_ble_eq_true rfl, Nat.le_of_ble_eq_true rfl⟩ rfl rfl (Nat.le_of_ble_eq_true rfl) dX5_readWiths_29 ?_
      rcases oi_e hf with ⟨c9, hf⟩ | ⟨c9, hf⟩
      · refine g_if_ne_t (tgt := 37) C dX5_readWiths_32 (by decide) c9 ?_
        exact g_sub [0, 1, 2, 3, 4] rfl (fX5_readWiths_b37_ok C sf_2 hs_2 σ7 x1 x2 x3 r2 hx1 hf)
      · refine g_if_ne_f (tgt := 37) C dX5_readWiths_32 (by decide) (Decidable.of_not_not c9) ?_
        refine g_iconst (v := 1) C dX5_readWiths_35 (by decide) ?_
        obtain ⟨rfl, rfl⟩ := os_e hf
        exact g_zret C rfl (by decide) dX5_readWiths_36
def fX5_readWiths_h2  : Nat → S0 → Nat → Int32 → Int32 → Option (Int32 × S0)
  | 0 => fun _ _ _ _ => none
  | n + 1 => fun σ x1 x2 x3 => fX5_readWiths_b2  (fX5_readWiths_h2  n) σ x1 x2 x3
set_option maxHeartbeats 1000000 in
set_option maxRecDepth 100000 in
theorem fX5_readWiths_h2_ok {p : Program} {l : Launch} {e : Env} {s : State} {m : MethodId} {args : Array Value} {below : List Frame} {meth : Method} {c : Code} {dC : Nat → ClassId} {dI : Nat → Nat → Nat} {ad : Nat → Nat} {cy : Nat → ClassId} {sz : Nat} (C : Cx p s m args meth c RX5 cX5_readWiths 5 (some .boolean) dC dI ad cy sz) {rr : Int32} {ρ : S0}  : ∀ (n : Nat) (σ : S0) (x1 : Nat) (x2 : Int32) (x3 : Int32) (hx1 : isChimes x1) (_hf : fX5_readWiths_h2  n σ x1 x2 x3 = some (rr, ρ)), Gw p l e rm_X5_readWiths s m args below meth c (MQ below (QcI dC dI ad cy sz rr ρ) args s 0 0 (AW ad sz)) dC dI ad cy 5 sz 0 0 2 [(0, .ref (ad 3)), (1, .ref (ad x1)), (2, .int x2), (3, .int x3)] [] σ
  | 0, _, _, _, _, _, hf => by cases hf
  | n + 1, σ, x1, x2, x3, hx1, hf => fX5_readWiths_b2_ok C  (fX5_readWiths_h2  n) (fX5_readWiths_h2_ok C  n) σ x1 x2 x3 hx1 hf
def fX5_readWiths (σ : S0) (k1 : Nat) (x2 : Int32) : Option (Int32 × S0) := fX5_readWiths_h2 400 σ k1 x2 0
set_option maxHeartbeats 1000000 in
set_option maxRecDepth 100000 in
theorem fX5_readWiths_ok {p : Program} {l : Launch} {e : Env} {s : State} {m : MethodId} {args : Array Value} {below : List Frame} {meth : Method} {c : Code} {dC : Nat → ClassId} {dI : Nat → Nat → Nat} {ad : Nat → Nat} {cy : Nat → ClassId} {sz : Nat} (C : Cx p s m args meth c RX5 cX5_readWiths 5 (some .boolean) dC dI ad cy sz) {rr : Int32} {ρ : S0} (σ : S0) (k1 : Nat) (x2 : Int32) (hk1 : isChimes k1) (hf : fX5_readWiths σ k1 x2 = some (rr, ρ)) : Gw p l e rm_X5_readWiths s m args below meth c (MQ below (QcI dC dI ad cy sz rr ρ) args s 0 0 (AW ad sz)) dC dI ad cy 5 sz 0 0 0 [(0, .ref (ad 3)), (1, .ref (ad k1)), (2, .int x2)] [] σ := by
  unfold fX5_readWiths at hf
  refine g_iconst (v := 0) C dX5_readWiths_0 (by decide) ?_
  refine g_istore_n (lv2 := [(0, .ref (ad 3)), (1, .ref (ad k1)), (2, .int x2), (3, .int 0)]) C dX5_readWiths_1 rfl (by decide) [1, 2, 3, 0] rfl ?_
  exact g_sub [0, 1, 2, 3] rfl (fX5_readWiths_h2_ok C 400 σ k1 x2 0 hk1 hf)
theorem c_X5_readWiths (l : Launch) (dC : Nat → ClassId) (dI : Nat → Nat → Nat) (ad : Nat → Nat) (cy : Nat → ClassId) (k1 : Nat) (hk1 : isChimes k1) (x2 : Int32) : ConI l yX5_readWiths cX5_readWiths 5 (some .boolean) rm_X5_readWiths dC dI ad cy [.ref (ad 3), .ref (ad k1), .int x2] (fun σ => fX5_readWiths σ k1 x2) := con_i (own := RX5) (by decide) rfl (Nat.le_of_ble_eq_true rfl) (fun _ _ _ _ _ _ _ _ σ _ _ C hf => fX5_readWiths_ok C σ k1 x2 hk1 hf)
theorem cal_X5_readWiths : CalV yX5_readWiths RX5 cX5_readWiths 5 (some .boolean) 2 := ⟨hI_X5_readWiths, hS_X5_readWiths, hIni_X5, hC_X5_readWiths, by decide +kernel⟩
abbrev rm_X5_readBell : Room := { frames := 6, cells := 0, slots := 0, locals := 131 }
def fX5_readBell (σ : S0)  : Option (Int32 × S0) := if (σ 14 0) < 12 then (ol (σ 14 0) (fun v2 => og (¬ (v2 < 0 ∨ 12 ≤ v2.toNatClampNeg)) (ol (su σ 19 v2.toNatClampNeg ((-4))) (fun σ4 => og (¬ (v2 < 0 ∨ 12 ≤ v2.toNatClampNeg)) (ol (su σ4 18 v2.toNatClampNeg 0) (fun σ6 => obp (fX5_nextNumber σ6 ((0 : Int32)) ((5 : Int32))) (fun r7 σ8 => if ¬ r7 = 0 then (ol (σ8 1 5) (fun v11 => og (¬ (v2 < 0 ∨ 12 ≤ v2.toNatClampNeg)) (ol (su σ8 15 v2.toNatClampNeg v11) (fun σ13 => obp (fX5_nextNumber σ13 ((0 : Int32)) ((20 : Int32))) (fun r14 σ15 => if ¬ r14 = 0 then (ol (σ15 1 5) (fun v18 => og (¬ (v2 < 0 ∨ 12 ≤ v2.toNatClampNeg)) (ol (su σ15 16 v2.toNatClampNeg v18) (fun σ20 => obp (fX5_nextNumber σ20 ((0 : Int32)) ((9 : Int32))) (fun r21 σ22 => if ¬ r21 = 0 then (ol (σ22 1 5) (fun v25 => og (¬ (v2 < 0 ∨ 12 ≤ v2.toNatClampNeg)) (ol (su σ22 17 v2.toNatClampNeg v25) (fun σ27 => ol ((σ27 14 0) + 1) (fun v28 => ol (su σ27 14 0 v28) (fun σ29 => obp (fX5_advance σ29) (fun r30 σ31 => if r30 = 0 then (some (0, σ31)) else (obp (fX5_readWiths σ31 14 v2) (fun r34 σ35 => if r34 = 0 then (some (0, σ35)) else (obp (fX5_endLine σ35) (fun r38 σ39 => if r38 = 0 then (some (0, σ39)) else (some (1, σ39))))))))))))) else (some (0, σ22))))))) else (some (0, σ15))))))) else (some (0, σ8))))))))) else (obp (fX5_refuse σ ((5 : Int32))) (fun r42 σ43 => og (r42 = 0 ∨ r42 = 1) (some (r42, σ43))))
set_option maxHeartbeats 1000000 in
set_option maxRecDepth 100000 in
theorem fX5_readBell_ok {p : Program} {l : Launch} {e : Env} {s : State} {m : MethodId} {args : Array Value} {below : List Frame} {meth : Method} {c : Code} {dC : Nat → ClassId} {dI : Nat → Nat → Nat} {ad : Nat → Nat} {cy : Nat → ClassId} {sz : Nat} (C : Cx p s m args meth c RX5 cX5_readBell 3 (some .boolean) dC dI ad cy sz) {rr : Int32} {ρ : S0} (σ : S0)   (hf : fX5_readBell σ = some (rr, ρ)) : Gw p l e rm_X5_readBell s m args below meth c (MQ below (QcI dC dI ad cy sz rr ρ) args s 0 0 (AW ad sz)) dC dI ad cy 3 sz 0 0 0 [(0, .ref (ad 3))] [] σ := by
  unfold fX5_readBell at hf
  refine g_aload_n C dX5_readBell_0 rfl 0 rfl ?_
  refine g_get C (a_3 ad cy _) rfl hin_X5 1 (by decide) hF_X5_12 rfl rfl dX5_readBell_1 ?_
  refine g_get C (a_4 ad cy _) rfl hin_X9 6 (by decide) hF_X5_104 rfl rfl dX5_readBell_4 ?_
  refine g_astore_n (lv2 := [(0, .ref (ad 3)), (1, .ref (ad 14))]) C dX5_readBell_7 rfl (by decide) [1, 0] rfl ?_
  refine g_aload_n C dX5_readBell_8 rfl 1 rfl ?_
  refine g_get C (a_14 ad cy _) rfl hin_X1 0 (by decide) hF_X5_108 rfl rfl dX5_readBell_9 ?_
  refine g_bipush (v := 12) C dX5_readBell_12 (by decide) ?_
  rcases oi_e hf with ⟨c1, hf⟩ | ⟨c1, hf⟩
  · refine g_icmp_lt_t (tgt := 23) C dX5_readBell_14 (by decide) c1 ?_
    refine g_aload_n C dX5_readBell_23 rfl 1 rfl ?_
    refine g_get C (a_14 ad cy _) rfl hin_X1 0 (by decide) hF_X5_108 rfl rfl dX5_readBell_24 ?_
    obtain ⟨v2, ev2, hf⟩ := ol_e hf
    refine g_nm ev2 ?_
    refine g_istore_n (lv2 := [(0, .ref (ad 3)), (1, .ref (ad 14)), (2, .int v2)]) C dX5_readBell_27 rfl (by decide) [1, 2, 0] rfl ?_
    refine g_aload_n C dX5_readBell_28 rfl 1 rfl ?_
    refine g_get C (a_14 ad cy _) rfl hin_X1 5 (by decide) hF_X5_113 rfl rfl dX5_readBell_29 ?_
    refine g_iload_n C dX5_readBell_32 rfl 2 rfl ?_
    refine g_bipush (v := (-4)) C dX5_readBell_33 (by decide) ?_
    obtain ⟨h3, hf⟩ := og_e hf
    obtain ⟨σ4, eσ4, hf⟩ := ol_e hf
    refine g_iast C (a_19 ad cy _) h3 (w_19 ad cy _) eσ4 dX5_readBell_35 ?_
    refine g_aload_n C dX5_readBell_36 rfl 1 rfl ?_
    refine g_get C (a_14 ad cy _) rfl hin_X1 4 (by decide) hF_X5_117 rfl rfl dX5_readBell_37 ?_
    refine g_iload_n C dX5_readBell_40 rfl 2 rfl ?_
    refine g_iconst (v := 0) C dX5_readBell_41 (by decide) ?_
    obtain ⟨h5, hf⟩ := og_e hf
    obtain ⟨σ6, eσ6, hf⟩ := ol_e hf
    refine g_iast C (a_18 ad cy _) h5 (w_18 ad cy _) eσ6 dX5_readBell_42 ?_
    refine g_aload_n C dX5_readBell_43 rfl 0 rfl ?_
    refine g_iconst (v := 0) C dX5_readBell_44 (by decide) ?_
    refine g_iconst (v := 5) C dX5_readBell_45 (by decide) ?_
    obtain ⟨r7, σ8, h9, hf⟩ := obp_e hf
    refine g_callVi (As := [.int 0, .int 5]) (rest := []) C (a_3 ad cy _) rfl (c_X5_nextNumber l dC dI ad cy ((0 : Int32)) ((5 : Int32))) h9 hM_X5_90 cal_X5_nextNumber ⟨Nat.zero_le _, Nat.zero_le _⟩ ⟨rfl, rfl⟩ ⟨Nat.le_of_ble_eq_true rfl, Nat.le_of_ble_eq_true rfl⟩ rfl rfl (Nat.le_of_ble_eq_true rfl) dX5_readBell_46 ?_
    rcases oi_e hf with ⟨c10, hf⟩ | ⟨c10, hf⟩
    · refine g_if_ne_t (tgt := 54) C dX5_readBell_49 (by decide) c10 ?_
      refine g_aload_n C dX5_readBell_54 rfl 1 rfl ?_
      refine g_get C (a_14 ad cy _) rfl hin_X1 1 (by decide) hF_X5_120 rfl rfl dX5_readBell_55 ?_
      refine g_iload_n C dX5_readBell_58 rfl 2 rfl ?_
      refine g_aload_n C dX5_readBell_59 rfl 0 rfl ?_
      refine g_get C (a_3 ad cy _) rfl hin_X5 0 (by decide) hF_X5_18 rfl rfl dX5_readBell_60 ?_
      refine g_get C (a_1 ad cy _) rfl hin_X8 5 (by decide) hF_X5_94 rfl rfl dX5_readBell_63 ?_
      obtain ⟨v11, ev11, hf⟩ := ol_e hf
      refine g_nm ev11 ?_
      obtain ⟨h12, hf⟩ := og_e hf
      obtain ⟨σ13, eσ13, hf⟩ := ol_e hf
      refine g_iast C (a_15 ad cy _) h12 (w_15 ad cy _) eσ13 dX5_readBell_66 ?_
      refine g_aload_n C dX5_readBell_67 rfl 0 rfl ?_
      refine g_iconst (v := 0) C dX5_readBell_68 (by decide) ?_
      refine g_bipush (v := 20) C dX5_readBell_69 (by decide) ?_
      obtain ⟨r14, σ15, h16, hf⟩ := obp_e hf
      refine g_callVi (As := [.int 0, .int 20]) (rest := []) C (a_3 ad cy _) rfl (c_X5_nextNumber l dC dI ad cy ((0 : Int32)) ((20 : Int32))) h16 hM_X5_90 cal_X5_nextNumber ⟨Nat.zero_le _, Nat.zero_le _⟩ ⟨rfl, rfl⟩ ⟨Nat.le_of_ble_eq_true rfl, Nat.le_of_ble_eq_true rfl⟩ rfl rfl (Nat.le_of_ble_eq_true rfl) dX5_readBell_71 ?_
      rcases oi_e hf with ⟨c17, hf⟩ | ⟨c17, hf⟩
      · refine g_if_ne_t (tgt := 79) C dX5_readBell_74 (by decide) c17 ?_
        refine g_aload_n C dX5_readBell_79 rfl 1 rfl ?_
        refine g_get C (a_14 ad cy _) rfl hin_X1 2 (by decide) hF_X5_123 rfl rfl dX5_readBell_80 ?_
        refine g_iload_n C dX5_readBell_83 rfl 2 rfl ?_
        refine g_aload_n C dX5_readBell_84 rfl 0 rfl ?_
        refine g_get C (a_3 ad cy _) rfl hin_X5 0 (by decide) hF_X5_18 rfl rfl dX5_readBell_85 ?_
        refine g_get C (a_1 ad cy _) rfl hin_X8 5 (by decide) hF_X5_94 rfl rfl dX5_readBell_88 ?_
        obtain ⟨v18, ev18, hf⟩ := ol_e hf
        refine g_nm ev18 ?_
        obtain ⟨h19, hf⟩ := og_e hf
        obtain ⟨σ20, eσ20, hf⟩ := ol_e hf
        refine g_iast C (a_16 ad cy _) h19 (w_16 ad cy _) eσ20 dX5_readBell_91 ?_
        refine g_aload_n C dX5_readBell_92 rfl 0 rfl ?_
        refine g_iconst (v := 0) C dX5_readBell_93 (by decide) ?_
        refine g_bipush (v := 9) C dX5_readBell_94 (by decide) ?_
        obtain ⟨r21, σ22, h23, hf⟩ := obp_e hf
        refine g_callVi (As := [.int 0, .int 9]) (rest := []) C (a_3 ad cy _) rfl (c_X5_nextNumber l dC dI ad cy ((0 : Int32)) ((9 : Int32))) h23 hM_X5_90 cal_X5_nextNumber ⟨Nat.zero_le _, Nat.zero_le _⟩ ⟨rfl, rfl⟩ ⟨Nat.le_of_ble_eq_true rfl, Nat.le_of_ble_eq_true rfl⟩ rfl rfl (Nat.le_of_ble_eq_true rfl) dX5_readBell_96 ?_
        rcases oi_e hf with ⟨c24, hf⟩ | ⟨c24, hf⟩
        · refine g_if_ne_t (tgt := 104) C dX5_readBell_99 (by decide) c24 ?_
          refine g_aload_n C dX5_readBell_104 rfl 1 rfl ?_
          refine g_get C (a_14 ad cy _) rfl hin_X1 3 (by decide) hF_X5_126 rfl rfl dX5_readBell_105 ?_
          refine g_iload_n C dX5_readBell_108 rfl 2 rfl ?_
          refine g_aload_n C dX5_readBell_109 rfl 0 rfl ?_
          refine g_get C (a_3 ad cy _) rfl hin_X5 0 (by decide) hF_X5_18 rfl rfl dX5_readBell_110 ?_
          refine g_get C (a_1 ad cy _) rfl hin_X8 5 (by decide) hF_X5_94 rfl rfl dX5_readBell_113 ?_
          obtain ⟨v25, ev25, hf⟩ := ol_e hf
          refine g_nm ev25 ?_
          obtain ⟨h26, hf⟩ := og_e hf
          obtain ⟨σ27, eσ27, hf⟩ := ol_e hf
          refine g_iast C (a_17 ad cy _) h26 (w_17 ad cy _) eσ27 dX5_readBell_116 ?_
          refine g_aload_n C dX5_readBell_117 rfl 1 rfl ?_
          refine g_dup C dX5_readBell_118 rfl ?_
          refine g_get C (a_14 ad cy _) rfl hin_X1 0 (by decide) hF_X5_108 rfl rfl dX5_readBell_119 ?_
          refine g_iconst (v := 1) C dX5_readBell_122 (by decide) ?_
          refine g_iadd C dX5_readBell_123 ?_
          obtain ⟨v28, ev28, hf⟩ := ol_e hf
          refine g_nm ev28 ?_
          obtain ⟨σ29, eσ29, hf⟩ := ol_e hf
          refine g_put (ty := .int) C (a_14 ad cy _) rfl hin_X1 tyX1 tyX1_ok nmX1 0 (by decide) hF_X5_108 rfl rfl (by decide +kernel) rfl rfl (Nat.le_of_ble_eq_true rfl) (p_14_0 ad cy _ _) eσ29 dX5_readBell_124 ?_
          refine g_aload_n C dX5_readBell_127 rfl 0 rfl ?_
          obtain ⟨r30, σ31, h32, hf⟩ := obp_e hf
          refine g_callVi (As := []) (rest := []) C (a_3 ad cy _) rfl (c_X5_advance l dC dI ad cy ) h32 hM_X5_44 cal_X5_advance ⟨Nat.zero_le _, Nat.zero_le _⟩ ⟨rfl, rfl⟩ ⟨Nat.le_of_ble_eq_true rfl, Nat.le_of_ble_eq_true rfl⟩ rfl rfl (Nat.le_of_ble_eq_true rfl) dX5_readBell_128 ?_
          rcases oi_e hf with ⟨c33, hf⟩ | ⟨c33, hf⟩
          · refine g_if_eq_t (tgt := 154) C dX5_readBell_131 (by decide) c33 ?_
            refine g_iconst (v := 0) C dX5_readBell_154 (by decide) ?_
            obtain ⟨rfl, rfl⟩ := os_e hf
            exact g_zret C rfl (by decide) dX5_readBell_155
          · refine g_if_eq_f (tgt := 154) C dX5_readBell_131 (by decide) c33 ?_
            refine g_aload_n C dX5_readBell_134 rfl 0 rfl ?_
            refine g_aload_n C dX5_readBell_135 rfl 1 rfl ?_
            refine g_iload_n C dX5_readBell_136 rfl 2 rfl ?_
            obtain ⟨r34, σ35, h36, hf⟩ := obp_e hf
            refine g_callVi (As := [.ref (ad 14), .int v2]) (rest := []) C (a_3 ad cy _) rfl (c_X5_readWiths l dC dI ad cy 14 k_isChimes_14 v2) h36 hM_X5_129 cal_X5_readWiths ⟨Nat.zero_le _, Nat.zero_le _⟩ ⟨rfl, rfl⟩ ⟨Nat.le_of_ble_eq_true rfl, Nat.le_of_ble_eq_true rfl⟩ rfl rfl (Nat.le_of_ble_eq_true rfl) dX5_readBell_137 ?_
            rcases oi_e hf with ⟨c37, hf⟩ | ⟨c37, hf⟩
            · refine g_if_eq_t (tgt := 154) C dX5_readBell_140 (by decide) c37 ?_
              refine g_iconst (v := 0) C dX5_readBell_154 (by decide) ?_
              obtain ⟨rfl, rfl⟩ := os_e hf
              exact g_zret C rfl (by decide) dX5_readBell_155
            · refine g_if_eq_f (tgt := 154) C dX5_readBell_140 (by decide) c37 ?_
              refine g_aload_n C dX5_readBell_143 rfl 0 rfl ?_
              obtain ⟨r38, σ39, h40, hf⟩ := obp_e hf
              refine g_callVi (As := []) (rest := []) C (a_3 ad cy _) rfl (c_X5_endLine l dC dI ad cy ) h40 hM_X5_99 cal_X5_endLine ⟨Nat.zero_le _, Nat.zero_le _⟩ ⟨rfl, rfl⟩ ⟨Nat.le_of_ble_eq_true rfl, Nat.le_of_ble_eq_true rfl⟩ rfl rfl (Nat.le_of_ble_eq_true rfl) dX5_readBell_144 ?_
              rcases oi_e hf with ⟨c41, hf⟩ | ⟨c41, hf⟩
              · refine g_if_eq_t (tgt := 154) C dX5_readBell_147 (by decide) c41 ?_
                refine g_iconst (v := 0) C dX5_readBell_154 (by decide) ?_
                obtain ⟨rfl, rfl⟩ := os_e hf
                exact g_zret C rfl (by decide) dX5_readBell_155
              · refine g_if_eq_f (tgt := 154) C dX5_readBell_147 (by decide) c41 ?_
                refine g_iconst (v := 1) C dX5_readBell_150 (by decide) ?_
                refine g_goto (tgt := 155) C dX5_readBell_151 (by decide) ?_
                obtain ⟨rfl, rfl⟩ := os_e hf
                exact g_zret C rfl (by decide) dX5_readBell_155
        · refine g_if_ne_f (tgt := 104) C dX5_readBell_99 (by decide) (Decidable.of_not_not c24) ?_
          refine g_iconst (v := 0) C dX5_readBell_102 (by decide) ?_
          obtain ⟨rfl, rfl⟩ := os_e hf
          exact g_zret C rfl (by decide) dX5_readBell_103
      · refine g_if_ne_f (tgt := 79) C dX5_readBell_74 (by decide) (Decidable.of_not_not c17) ?_
        refine g_iconst (v := 0) C dX5_readBell_77 (by decide) ?_
        obtain ⟨rfl, rfl⟩ := os_e hf
        exact g_zret C rfl (by decide) dX5_readBell_78
    · refine g_if_ne_f (tgt := 54) C dX5_readBell_49 (by decide) (Decidable.of_not_not c10) ?_
      refine g_iconst (v := 0) C dX5_readBell_52 (by decide) ?_
      obtain ⟨rfl, rfl⟩ := os_e hf
      exact g_zret C rfl (by decide) dX5_readBell_53
  · refine g_icmp_lt_f (tgt := 23) C dX5_readBell_14 (by decide) c1 ?_
    refine g_aload_n C dX5_readBell_17 rfl 0 rfl ?_
    refine g_iconst (v := 5) C dX5_readBell_18 (by decide) ?_
    obtain ⟨r42, σ43, h44, hf⟩ := obp_e hf
    refine g_callVi (As := [.int 5]) (rest := []) C (a_3 ad cy _) rfl (c_X5_refuse l dC dI ad cy ((5 : Int32))) h44 hM_X5_57 cal_X5_refuse ⟨Nat.zero_le _, Nat.zero_le _⟩ ⟨rfl, rfl⟩ ⟨Nat.le_of_ble_eq_true rfl, Nat.le_of_ble_eq_true rfl⟩ rfl rfl (Nat.le_of_ble_eq_true rfl) dX5_readBell_19 ?_
    obtain ⟨h45, hf⟩ := og_e hf
    obtain ⟨rfl, rfl⟩ := os_e hf
    exact g_zret C rfl (zb_ok h45) dX5_readBell_22
theorem c_X5_readBell (l : Launch) (dC : Nat → ClassId) (dI : Nat → Nat → Nat) (ad : Nat → Nat) (cy : Nat → ClassId)  : ConI l yX5_readBell cX5_readBell 3 (some .boolean) rm_X5_readBell dC dI ad cy [.ref (ad 3)] (fun σ => fX5_readBell σ) := con_i (own := RX5) (by decide) rfl (Nat.le_of_ble_eq_true rfl) (fun _ _ _ _ _ _ _ _ σ _ _ C hf => fX5_readBell_ok C σ  hf)
theorem cal_X5_readBell : CalV yX5_readBell RX5 cX5_readBell 3 (some .boolean) 0 := ⟨hI_X5_readBell, hS_X5_readBell, hIni_X5, hC_X5_readBell, by decide +kernel⟩
abbrev rm_X5_readStrokes : Room := { frames := 2, cells := 0, slots := 0, locals := 41 }
def fX5_readStrokes_b25 (sf_2 : S0 → Int32 → Int32 → Option (Int32 × S0)) (σ : S0) (x1 : Int32) (x2 : Int32) : Option (Int32 × S0) := obp (fX5_faultOfNumber σ ((0 : Int32)) ((11 : Int32))) (fun r1 σ2 => if r1 = 0 then (if x2 < 12 then (og (¬ (x1 < 0 ∨ 6 ≤ x1.toNatClampNeg)) (ol (8 + 1 * x1.toNatClampNeg) (fun q7 => ol (σ2 1 5) (fun v8 => og (¬ (x2 < 0 ∨ 12 ≤ x2.toNatClampNeg)) (ol (su σ2 q7 x2.toNatClampNeg v8) (fun σ10 => ol (x2 + 1) (fun v11 => og (¬ (x1 < 0 ∨ 6 ≤ x1.toNatClampNeg)) (ol (su σ10 6 x1.toNatClampNeg v11) (fun σ13 => obp (fX5_advance σ13) (fun r14 σ15 => if ¬ r14 = 0 then (ol (x2 + 1) (fun v18 => sf_2 σ15 x1 v18)) else (some (0, σ15)))))))))))) else (obp (fX5_refuse σ2 ((5 : Int32))) (fun r19 σ20 => og (r19 = 0 ∨ r19 = 1) (some (r19, σ20))))) else (obp (fX5_refuse σ2 r1) (fun r23 σ24 => og (r23 = 0 ∨ r23 = 1) (some (r23, σ24)))))
set_option maxHeartbeats 1000000 in
set_option maxRecDepth 100000 in
theorem fX5_readStrokes_b25_ok {p : Program} {l : Launch} {e : Env} {s : State} {m : MethodId} {args : Array Value} {below : List Frame} {meth : Method} {c : Code} {dC : Nat → ClassId} {dI : Nat → Nat → Nat} {ad : Nat → Nat} {cy : Nat → ClassId} {sz : Nat} (C : Cx p s m args meth c RX5 cX5_readStrokes 4 (some .boolean) dC dI ad cy sz) {rr : Int32} {ρ : S0} (sf_2 : S0 → Int32 → Int32 → Option (Int32 × S0)) (hs_2 : ∀ (σ : S0) (x1 : Int32) (x2 : Int32) , sf_2 σ x1 x2 = some (rr, ρ) → Gw p l e rm_X5_readStrokes s m args below meth c (MQ below (QcI dC dI ad cy sz rr ρ) args s 0 0 (AW ad sz)) dC dI ad cy 4 sz 0 0 2 [(0, .ref (ad 3)), (1, .int x1), (2, .int x2)] [] σ) (σ : S0) (x1 : Int32) (x2 : Int32)  (hf : fX5_readStrokes_b25 sf_2 σ x1 x2 = some (rr, ρ)) : Gw p l e rm_X5_readStrokes s m args below meth c (MQ below (QcI dC dI ad cy sz rr ρ) args s 0 0 (AW ad sz)) dC dI ad cy 4 sz 0 0 25 [(0, .ref (ad 3)), (1, .int x1), (2, .int x2)] [] σ := by
  unfold fX5_readStrokes_b25 at hf
  refine g_aload_n C dX5_readStrokes_25 rfl 0 rfl ?_
  refine g_iconst (v := 0) C dX5_readStrokes_26 (by decide) ?_
  refine g_bipush (v := 11) C dX5_readStrokes_27 (by decide) ?_
  obtain ⟨r1, σ2, h3, hf⟩ := obp_e hf
  refine g_callVi (As := [.int 0, .int 11]) (rest := []) C (a_3 ad cy _) rfl (c_X5_faultOfNumber l dC dI ad cy ((0 : Int32)) ((11 : Int32))) h3 hM_X5_144 cal_X5_faultOfNumber ⟨Nat.zero_le _, Nat.zero_le _⟩ ⟨rfl, rfl⟩ ⟨Nat.le_of_ble_eq_true rfl, Nat.le_of_ble_eq_true rfl⟩ rfl rfl (Nat.le_of_ble_eq_true rfl) dX5_readStrokes_29 ?_
  refine g_istore_n (lv2 := [(0, .ref (ad 3)), (1, .int x1), (2, .int x2), (3, .int r1)]) C dX5_readStrokes_32 rfl (by decide) [1, 2, 3, 0] rfl ?_
  refine g_iload_n C dX5_readStrokes_33 rfl 3 rfl ?_
  rcases oi_e hf with ⟨c4, hf⟩ | ⟨c4, hf⟩
  · refine g_if_eq_t (tgt := 43) C dX5_readStrokes_34 (by decide) c4 ?_
    refine g_iload_n C dX5_readStrokes_43 rfl 2 rfl ?_
    refine g_bipush (v := 12) C dX5_readStrokes_44 (by decide) ?_
    rcases oi_e hf with ⟨c5, hf⟩ | ⟨c5, hf⟩
    · refine g_icmp_lt_t (tgt := 55) C dX5_readStrokes_46 (by decide) c5 ?_
      refine g_aload_n C dX5_readStrokes_55 rfl 0 rfl ?_
      refine g_get C (a_3 ad cy _) rfl hin_X5 1 (by decide) hF_X5_12 rfl rfl dX5_readStrokes_56 ?_
      refine g_get C (a_4 ad cy _) rfl hin_X9 5 (by decide) hF_X5_148 rfl rfl dX5_readStrokes_59 ?_
      refine g_iload_n C dX5_readStrokes_62 rfl 1 rfl ?_
      obtain ⟨h6, hf⟩ := og_e hf
      obtain ⟨q7, eq7, hf⟩ := ol_e hf
      refine g_aald C (a_7 ad cy _) rfl rfl h6 dX5_readStrokes_63 ?_
      refine g_nmr eq7 ?_
      have hq7 := (o_7 h6 eq7)
      refine g_iload_n C dX5_readStrokes_64 rfl 2 rfl ?_
      refine g_aload_n C dX5_readStrokes_65 rfl 0 rfl ?_
      refine g_get C (a_3 ad cy _) rfl hin_X5 0 (by decide) hF_X5_18 rfl rfl dX5_readStrokes_66 ?_
      refine g_get C (a_1 ad cy _) rfl hin_X8 5 (by decide) hF_X5_94 rfl rfl dX5_readStrokes_69 ?_
      obtain ⟨v8, ev8, hf⟩ := ol_e hf
      refine g_nm ev8 ?_
      obtain ⟨h9, hf⟩ := og_e hf
      obtain ⟨σ10, eσ10, hf⟩ := ol_e hf
      refine g_iast C (s_row hq7 ad cy _) h9 (ws_row hq7 ad cy _) eσ10 dX5_readStrokes_72 ?_
      refine g_aload_n C dX5_readStrokes_73 rfl 0 rfl ?_
      refine g_get C (a_3 ad cy _) rfl hin_X5 1 (by decide) hF_X5_12 rfl rfl dX5_readStrokes_74 ?_
      refine g_get C (a_4 ad cy _) rfl hin_X9 4 (by decide) hF_X5_152 rfl rfl dX5_readStrokes_77 ?_
      refine g_iload_n C dX5_readStrokes_80 rfl 1 rfl ?_
      refine g_iload_n C dX5_readStrokes_81 rfl 2 rfl ?_
      refine g_iconst (v := 1) C dX5_readStrokes_82 (by decide) ?_
      refine g_iadd C dX5_readStrokes_83 ?_
      obtain ⟨v11, ev11, hf⟩ := ol_e hf
      refine g_nm ev11 ?_
      obtain ⟨h12, hf⟩ := og_e hf
      obtain ⟨σ13, eσ13, hf⟩ := ol_e hf
      refine g_iast C (a_6 ad cy _) h12 (w_6 ad cy _) eσ13 dX5_readStrokes_84 ?_
      refine g_aload_n C dX5_readStrokes_85 rfl 0 rfl ?_
      obtain ⟨r14, σ15, h16, hf⟩ := obp_e hf
      refine g_callVi (As := []) (rest := []) C (a_3 ad cy _) rfl (c_X5_advance l dC dI ad cy ) h16 hM_X5_44 cal_X5_advance ⟨Nat.zero_le _, Nat.zero_le _⟩ ⟨rfl, rfl⟩ ⟨Nat.le_of_ble_eq_true rfl, Nat.le_of_ble_eq_true rfl⟩ rfl rfl (Nat.le_of_ble_eq_true rfl) dX5_readStrokes_86 ?_
      rcases oi_e hf with ⟨c17, hf⟩ | ⟨c17, hf⟩
      · refine g_if_ne_t (tgt := 94) C dX5_readStrokes_89 (by decide) c17 ?_
        obtain ⟨v18, ev18, hf⟩ := ol_e hf
        refine g_iinc (j := 2) (w := 1) (lv2 := [(0, .ref (ad 3)), (1, .int x1), (2, .int v18), (3, .int r1)]) C dX5_readStrokes_94 rfl (by decide) ev18 (by decide) [1, 2, 0, 3] rfl ?_
        refine g_goto (tgt := 2) C dX5_readStrokes_97 (by decide) ?_
        exact g_sub [0, 1, 2] rfl (hs_2 σ15 x1 v18 hf)
      · refine g_if_ne_f (tgt := 94) C dX5_readStrokes_89 (by decide) (Decidable.of_not_not c17) ?_
        refine g_iconst (v := 0) C dX5_readStrokes_92 (by decide) ?_
        obtain ⟨rfl, rfl⟩ := os_e hf
        exact g_zret C rfl (by decide) dX5_readStrokes_93
    · refine g_icmp_lt_f (tgt := 55) C dX5_readStrokes_46 (by decide) c5 ?_
      refine g_aload_n C dX5_readStrokes_49 rfl 0 rfl ?_
      refine g_iconst (v := 5) C dX5_readStrokes_50 (by decide) ?_
      obtain ⟨r19, σ20, h21, hf⟩ := obp_e hf
      refine g_callVi (As := [.int 5]) (rest := []) C (a_3 ad cy _) rfl (c_X5_refuse l dC dI ad cy ((5 : Int32))) h21 hM_X5_57 cal_X5_refuse ⟨Nat.zero_le _, Nat.zero_le _⟩ ⟨rfl, rfl⟩ ⟨Nat.le_of_ble_eq_true rfl, Nat.le_of_ble_eq_true rfl⟩ rfl rfl (Nat.le_of_ble_eq_true rfl) dX5_readStrokes_51 ?_
      obtain ⟨h22, hf⟩ := og_e hf
      obtain ⟨rfl, rfl⟩ := os_e hf
      exact g_zret C rfl (zb_ok h22) dX5_readStrokes_54
  · refine g_if_eq_f (tgt := 43) C dX5_readStrokes_34 (by decide) c4 ?_
    refine g_aload_n C dX5_readStrokes_37 rfl 0 rfl ?_
    refine g_iload_n C dX5_readStrokes_38 rfl 3 rfl ?_
    obtain ⟨r23, σ24, h25, hf⟩ := obp_e hf
    refine g_callVi (As := [.int r1]) (rest := []) C (a_3 ad cy _) rfl (c_X5_refuse l dC dI ad cy r1) h25 hM_X5_57 cal_X5_refuse ⟨Nat.zero_le _, Nat.zero_le _⟩ ⟨rfl, rfl⟩ ⟨Nat.le_of_ble_eq_true rfl, Nat.le_of_ble_eq_true rfl⟩ rfl rfl (Nat.le_of_ble_eq_true rfl) dX5_readStrokes_39 ?_
    obtain ⟨h26, hf⟩ := og_e hf
    obtain ⟨rfl, rfl⟩ := os_e hf
    exact g_zret C rfl (zb_ok h26) dX5_readStrokes_42
def fX5_readStrokes_b2 (sf_2 : S0 → Int32 → Int32 → Option (Int32 × S0)) (σ : S0) (x1 : Int32) (x2 : Int32) : Option (Int32 × S0) := if (12 : Int32) < x2 then (some (1, σ)) else (if x2 ≤ 0 then (fX5_readStrokes_b25 sf_2 σ x1 x2) else (if (σ 1 3) = 2 then (fX5_readStrokes_b25 sf_2 σ x1 x2) else (some (1, σ))))
set_option maxHeartbeats 1000000 in
set_option maxRecDepth 100000 in
theorem fX5_readStrokes_b2_ok {p : Program} {l : Launch} {e : Env} {s : State} {m : MethodId} {args : Array Value} {below : List Frame} {meth : Method} {c : Code} {dC : Nat → ClassId} {dI : Nat → Nat → Nat} {ad : Nat → Nat} {cy : Nat → ClassId} {sz : Nat} (C : Cx p s m args meth c RX5 cX5_readStrokes 4 (some .boolean) dC dI ad cy sz) {rr : Int32} {ρ : S0} (sf_2 : S0 → Int32 → Int32 → Option (Int32 × S0)) (hs_2 : ∀ (σ : S0) (x1 : Int32) (x2 : Int32) , sf_2 σ x1 x2 = some (rr, ρ) → Gw p l e rm_X5_readStrokes s m args below meth c (MQ below (QcI dC dI ad cy sz rr ρ) args s 0 0 (AW ad sz)) dC dI ad cy 4 sz 0 0 2 [(0, .ref (ad 3)), (1, .int x1), (2, .int x2)] [] σ) (σ : S0) (x1 : Int32) (x2 : Int32)  (hf : fX5_readStrokes_b2 sf_2 σ x1 x2 = some (rr, ρ)) : Gw p l e rm_X5_readStrokes s m args below meth c (MQ below (QcI dC dI ad cy sz rr ρ) args s 0 0 (AW ad sz)) dC dI ad cy 4 sz 0 0 2 [(0, .ref (ad 3)), (1, .int x1), (2, .int x2)] [] σ := by
  unfold fX5_readStrokes_b2 at hf
  refine g_iload_n C dX5_readStrokes_2 rfl 2 rfl ?_
  refine g_bipush (v := 12) C dX5_readStrokes_3 (by decide) ?_
  rcases oi_e hf with ⟨c1, hf⟩ | ⟨c1, hf⟩
  · refine g_icmp_gt_t (tgt := 100) C dX5_readStrokes_5 (by decide) c1 ?_
    refine g_iconst (v := 1) C dX5_readStrokes_100 (by decide) ?_
    obtain ⟨rfl, rfl⟩ := os_e hf
    exact g_zret C rfl (by decide) dX5_readStrokes_101
  · refine g_icmp_gt_f (tgt := 100) C dX5_readStrokes_5 (by decide) c1 ?_
    refine g_iload_n C dX5_readStrokes_8 rfl 2 rfl ?_
    rcases oi_e hf with ⟨c2, hf⟩ | ⟨c2, hf⟩
    · refine g_if_le_t (tgt := 25) C dX5_readStrokes_9 (by decide) c2 ?_
      exact g_sub [0, 1, 2] rfl (fX5_readStrokes_b25_ok C sf_2 hs_2 σ x1 x2 hf)
    · refine g_if_le_f (tgt := 25) C dX5_readStrokes_9 (by decide) c2 ?_
      refine g_aload_n C dX5_readStrokes_12 rfl 0 rfl ?_
      refine g_get C (a_3 ad cy _) rfl hin_X5 0 (by decide) hF_X5_18 rfl rfl dX5_readStrokes_13 ?_
      refine g_get C (a_1 ad cy _) rfl hin_X8 3 (by decide) hF_X5_48 rfl rfl dX5_readStrokes_16 ?_
      refine g_iconst (v := 2) C dX5_readStrokes_19 (by decide) ?_
      rcases oi_e hf with ⟨c3, hf⟩ | ⟨c3, hf⟩
      · refine g_icmp_eq_t (tgt := 25) C dX5_readStrokes_20 (by decide) c3 ?_
        exact g_sub [0, 1, 2] rfl (fX5_readStrokes_b25_ok C sf_2 hs_2 σ x1 x2 hf)
      · refine g_icmp_eq_f (tgt := 25) C dX5_readStrokes_20 (by decide) c3 ?_
        refine g_iconst (v := 1) C dX5_readStrokes_23 (by decide) ?_
        obtain ⟨rfl, rfl⟩ := os_e hf
        exact g_zret C rfl (by decide) dX5_readStrokes_24
def fX5_readStrokes_h2  : Nat → S0 → Int32 → Int32 → Option (Int32 × S0)
  | 0 => fun _ _ _ => none
  | n + 1 => fun σ x1 x2 => fX5_readStrokes_b2  (fX5_readStrokes_h2  n) σ x1 x2
set_option maxHeartbeats 1000000 in
set_option maxRecDepth 100000 in
theorem fX5_readStrokes_h2_ok {p : Program} {l : Launch} {e : Env} {s : State} {m : MethodId} {args : Array Value} {below : List Frame} {meth : Method} {c : Code} {dC : Nat → ClassId} {dI : Nat → Nat → Nat} {ad : Nat → Nat} {cy : Nat → ClassId} {sz : Nat} (C : Cx p s m args meth c RX5 cX5_readStrokes 4 (some .boolean) dC dI ad cy sz) {rr : Int32} {ρ : S0}  : ∀ (n : Nat) (σ : S0) (x1 : Int32) (x2 : Int32)  (_hf : fX5_readStrokes_h2  n σ x1 x2 = some (rr, ρ)), Gw p l e rm_X5_readStrokes s m args below meth c (MQ below (QcI dC dI ad cy sz rr ρ) args s 0 0 (AW ad sz)) dC dI ad cy 4 sz 0 0 2 [(0, .ref (ad 3)), (1, .int x1), (2, .int x2)] [] σ
  | 0, _, _, _, hf => by cases hf
  | n + 1, σ, x1, x2, hf => fX5_readStrokes_b2_ok C  (fX5_readStrokes_h2  n) (fX5_readStrokes_h2_ok C  n) σ x1 x2 hf
def fX5_readStrokes (σ : S0) (x1 : Int32) : Option (Int32 × S0) := fX5_readStrokes_h2 400 σ x1 0
set_option maxHeartbeats 1000000 in
set_option maxRecDepth 100000 in
theorem fX5_readStrokes_ok {p : Program} {l : Launch} {e : Env} {s : State} {m : MethodId} {args : Array Value} {below : List Frame} {meth : Method} {c : Code} {dC : Nat → ClassId} {dI : Nat → Nat → Nat} {ad : Nat → Nat} {cy : Nat → ClassId} {sz : Nat} (C : Cx p s m args meth c RX5 cX5_readStrokes 4 (some .boolean) dC dI ad cy sz) {rr : Int32} {ρ : S0} (σ : S0) (x1 : Int32)  (hf : fX5_readStrokes σ x1 = some (rr, ρ)) : Gw p l e rm_X5_readStrokes s m args below meth c (MQ below (QcI dC dI ad cy sz rr ρ) args s 0 0 (AW ad sz)) dC dI ad cy 4 sz 0 0 0 [(0, .ref (ad 3)), (1, .int x1)] [] σ := by
  unfold fX5_readStrokes at hf
  refine g_iconst (v := 0) C dX5_readStrokes_0 (by decide) ?_
  refine g_istore_n (lv2 := [(0, .ref (ad 3)), (1, .int x1), (2, .int 0)]) C dX5_readStrokes_1 rfl (by decide) [1, 2, 0] rfl ?_
  exact g_sub [0, 1, 2] rfl (fX5_readStrokes_h2_ok C 400 σ x1 0 hf)
theorem c_X5_readStrokes (l : Launch) (dC : Nat → ClassId) (dI : Nat → Nat → Nat) (ad : Nat → Nat) (cy : Nat → ClassId) (x1 : Int32) : ConI l yX5_readStrokes cX5_readStrokes 4 (some .boolean) rm_X5_readStrokes dC dI ad cy [.ref (ad 3), .int x1] (fun σ => fX5_readStrokes σ x1) := con_i (own := RX5) (by decide) rfl (Nat.le_of_ble_eq_true rfl) (fun _ _ _ _ _ _ _ _ σ _ _ C hf => fX5_readStrokes_ok C σ x1 hf)
theorem cal_X5_readStrokes : CalV yX5_readStrokes RX5 cX5_readStrokes 4 (some .boolean) 1 := ⟨hI_X5_readStrokes, hS_X5_readStrokes, hIni_X5, hC_X5_readStrokes, by decide +kernel⟩
abbrev rm_X5_readTune : Room := { frames := 3, cells := 0, slots := 0, locals := 64 }
def fX5_readTune (σ : S0)  : Option (Int32 × S0) := if (σ 4 2) < 6 then (ol (σ 4 2) (fun v2 => obp (fX5_nextNumber σ ((0 : Int32)) ((99 : Int32))) (fun r3 σ4 => if ¬ r3 = 0 then (ol (σ4 1 5) (fun v7 => og (¬ (v2 < 0 ∨ 6 ≤ v2.toNatClampNeg)) (ol (su σ4 5 v2.toNatClampNeg v7) (fun σ9 => ol ((σ9 4 2) + 1) (fun v10 => ol (su σ9 4 2 v10) (fun σ11 => obp (fX5_advance σ11) (fun r12 σ13 => if r12 = 0 then (some (0, σ13)) else (obp (fX5_readStrokes σ13 v2) (fun r16 σ17 => if r16 = 0 then (some (0, σ17)) else (obp (fX5_endLine σ17) (fun r20 σ21 => if r20 = 0 then (some (0, σ21)) else (some (1, σ21))))))))))))) else (some (0, σ4))))) else (obp (fX5_refuse σ ((5 : Int32))) (fun r24 σ25 => og (r24 = 0 ∨ r24 = 1) (some (r24, σ25))))
set_option maxHeartbeats 1000000 in
set_option maxRecDepth 100000 in
theorem fX5_readTune_ok {p : Program} {l : Launch} {e : Env} {s : State} {m : MethodId} {args : Array Value} {below : List Frame} {meth : Method} {c : Code} {dC : Nat → ClassId} {dI : Nat → Nat → Nat} {ad : Nat → Nat} {cy : Nat → ClassId} {sz : Nat} (C : Cx p s m args meth c RX5 cX5_readTune 2 (some .boolean) dC dI ad cy sz) {rr : Int32} {ρ : S0} (σ : S0)   (hf : fX5_readTune σ = some (rr, ρ)) : Gw p l e rm_X5_readTune s m args below meth c (MQ below (QcI dC dI ad cy sz rr ρ) args s 0 0 (AW ad sz)) dC dI ad cy 2 sz 0 0 0 [(0, .ref (ad 3))] [] σ := by
  unfold fX5_readTune at hf
  refine g_aload_n C dX5_readTune_0 rfl 0 rfl ?_
  refine g_get C (a_3 ad cy _) rfl hin_X5 1 (by decide) hF_X5_12 rfl rfl dX5_readTune_1 ?_
  refine g_get C (a_4 ad cy _) rfl hin_X9 2 (by decide) hF_X5_135 rfl rfl dX5_readTune_4 ?_
  refine g_bipush (v := 6) C dX5_readTune_7 (by decide) ?_
  rcases oi_e hf with ⟨c1, hf⟩ | ⟨c1, hf⟩
  · refine g_icmp_lt_t (tgt := 18) C dX5_readTune_9 (by decide) c1 ?_
    refine g_aload_n C dX5_readTune_18 rfl 0 rfl ?_
    refine g_get C (a_3 ad cy _) rfl hin_X5 1 (by decide) hF_X5_12 rfl rfl dX5_readTune_19 ?_
    refine g_get C (a_4 ad cy _) rfl hin_X9 2 (by decide) hF_X5_135 rfl rfl dX5_readTune_22 ?_
    obtain ⟨v2, ev2, hf⟩ := ol_e hf
    refine g_nm ev2 ?_
    refine g_istore_n (lv2 := [(0, .ref (ad 3)), (1, .int v2)]) C dX5_readTune_25 rfl (by decide) [1, 0] rfl ?_
    refine g_aload_n C dX5_readTune_26 rfl 0 rfl ?_
    refine g_iconst (v := 0) C dX5_readTune_27 (by decide) ?_
    refine g_bipush (v := 99) C dX5_readTune_28 (by decide) ?_
    obtain ⟨r3, σ4, h5, hf⟩ := obp_e hf
    refine g_callVi (As := [.int 0, .int 99]) (rest := []) C (a_3 ad cy _) rfl (c_X5_nextNumber l dC dI ad cy ((0 : Int32)) ((99 : Int32))) h5 hM_X5_90 cal_X5_nextNumber ⟨Nat.zero_le _, Nat.zero_le _⟩ ⟨rfl, rfl⟩ ⟨Nat.le_of_ble_eq_true rfl, Nat.le_of_ble_eq_true rfl⟩ rfl rfl (Nat.le_of_ble_eq_true rfl) dX5_readTune_30 ?_
    rcases oi_e hf with ⟨c6, hf⟩ | ⟨c6, hf⟩
    · refine g_if_ne_t (tgt := 38) C dX5_readTune_33 (by decide) c6 ?_
      refine g_aload_n C dX5_readTune_38 rfl 0 rfl ?_
      refine g_get C (a_3 ad cy _) rfl hin_X5 1 (by decide) hF_X5_12 rfl rfl dX5_readTune_39 ?_
      refine g_get C (a_4 ad cy _) rfl hin_X9 3 (by decide) hF_X5_138 rfl rfl dX5_readTune_42 ?_
      refine g_iload_n C dX5_readTune_45 rfl 1 rfl ?_
      refine g_aload_n C dX5_readTune_46 rfl 0 rfl ?_
      refine g_get C (a_3 ad cy _) rfl hin_X5 0 (by decide) hF_X5_18 rfl rfl dX5_readTune_47 ?_
      refine g_get C (a_1 ad cy _) rfl hin_X8 5 (by decide) hF_X5_94 rfl rfl dX5_readTune_50 ?_
      obtain ⟨v7, ev7, hf⟩ := ol_e hf
      refine g_nm ev7 ?_
      obtain ⟨h8, hf⟩ := og_e hf
      obtain ⟨σ9, eσ9, hf⟩ := ol_e hf
      refine g_iast C (a_5 ad cy _) h8 (w_5 ad cy _) eσ9 dX5_readTune_53 ?_
      refine g_aload_n C dX5_readTune_54 rfl 0 rfl ?_
      refine g_get C (a_3 ad cy _) rfl hin_X5 1 (by decide) hF_X5_12 rfl rfl dX5_readTune_55 ?_
      refine g_dup C dX5_readTune_58 rfl ?_
      refine g_get C (a_4 ad cy _) rfl hin_X9 2 (by decide) hF_X5_135 rfl rfl dX5_readTune_59 ?_
      refine g_iconst (v := 1) C dX5_readTune_62 (by decide) ?_
      refine g_iadd C dX5_readTune_63 ?_
      obtain ⟨v10, ev10, hf⟩ := ol_e hf
      refine g_nm ev10 ?_
      obtain ⟨σ11, eσ11, hf⟩ := ol_e hf
      refine g_put (ty := .int) C (a_4 ad cy _) rfl hin_X9 tyX9 tyX9_ok nmX9 2 (by decide) hF_X5_135 rfl rfl (by decide +kernel) rfl rfl (Nat.le_of_ble_eq_true rfl) (p_4_2 ad cy _ _) eσ11 dX5_readTune_64 ?_
      refine g_aload_n C dX5_readTune_67 rfl 0 rfl ?_
      obtain ⟨r12, σ13, h14, hf⟩ := obp_e hf
      refine g_callVi (As := []) (rest := []) C (a_3 ad cy _) rfl (c_X5_advance l dC dI ad cy ) h14 hM_X5_44 cal_X5_advance ⟨Nat.zero_le _, Nat.zero_le _⟩ ⟨rfl, rfl⟩ ⟨Nat.le_of_ble_eq_true rfl, Nat.le_of_ble_eq_true rfl⟩ rfl rfl (Nat.le_of_ble_eq_true rfl) dX5_readTune_68 ?_
      rcases oi_e hf with ⟨c15, hf⟩ | ⟨c15, hf⟩
      · refine g_if_eq_t (tgt := 93) C dX5_readTune_71 (by decide) c15 ?_
        refine g_iconst (v := 0) C dX5_readTune_93 (by decide) ?_
        obtain ⟨rfl, rfl⟩ := os_e hf
        exact g_zret C rfl (by decide) dX5_readTune_94
      · refine g_if_eq_f (tgt := 93) C dX5_readTune_71 (by decide) c15 ?_
        refine g_aload_n C dX5_readTune_74 rfl 0 rfl ?_
        refine g_iload_n C dX5_readTune_75 rfl 1 rfl ?_
        obtain ⟨r16, σ17, h18, hf⟩ := obp_e hf
        refine g_callVi (As := [.int v2]) (rest := []) C (a_3 ad cy _) rfl (c_X5_readStrokes l dC dI ad cy v2) h18 hM_X5_141 cal_X5_readStrokes ⟨Nat.zero_le _, Nat.zero_le _⟩ ⟨rfl, rfl⟩ ⟨Nat.le_of_ble_eq_true rfl, Nat.le_of_ble_eq_true rfl⟩ rfl rfl (Nat.le_of_ble_eq_true rfl) dX5_readTune_76 ?_
        rcases oi_e hf with ⟨c19, hf⟩ | ⟨c19, hf⟩
        · refine g_if_eq_t (tgt := 93) C dX5_readTune_79 (by decide) c19 ?_
          refine g_iconst (v := 0) C dX5_readTune_93 (by decide) ?_
          obtain ⟨rfl, rfl⟩ := os_e hf
          exact g_zret C rfl (by decide) dX5_readTune_94
        · refine g_if_eq_f (tgt := 93) C dX5_readTune_79 (by decide) c19 ?_
          refine g_aload_n C dX5_readTune_82 rfl 0 rfl ?_
          obtain ⟨r20, σ21, h22, hf⟩ := obp_e hf
          refine g_callVi (As := []) (rest := []) C (a_3 ad cy _) rfl (c_X5_endLine l dC dI ad cy ) h22 hM_X5_99 cal_X5_endLine ⟨Nat.zero_le _, Nat.zero_le _⟩ ⟨rfl, rfl⟩ ⟨Nat.le_of_ble_eq_true rfl, Nat.le_of_ble_eq_true rfl⟩ rfl rfl (Nat.le_of_ble_eq_true rfl) dX5_readTune_83 ?_
          rcases oi_e hf with ⟨c23, hf⟩ | ⟨c23, hf⟩
          · refine g_if_eq_t (tgt := 93) C dX5_readTune_86 (by decide) c23 ?_
            refine g_iconst (v := 0) C dX5_readTune_93 (by decide) ?_
            obtain ⟨rfl, rfl⟩ := os_e hf
            exact g_zret C rfl (by decide) dX5_readTune_94
          · refine g_if_eq_f (tgt := 93) C dX5_readTune_86 (by decide) c23 ?_
            refine g_iconst (v := 1) C dX5_readTune_89 (by decide) ?_
            refine g_goto (tgt := 94) C dX5_readTune_90 (by decide) ?_
            obtain ⟨rfl, rfl⟩ := os_e hf
            exact g_zret C rfl (by decide) dX5_readTune_94
    · refine g_if_ne_f (tgt := 38) C dX5_readTune_33 (by decide) (Decidable.of_not_not c6) ?_
      refine g_iconst (v := 0) C dX5_readTune_36 (by decide) ?_
      obtain ⟨rfl, rfl⟩ := os_e hf
      exact g_zret C rfl (by decide) dX5_readTune_37
  · refine g_icmp_lt_f (tgt := 18) C dX5_readTune_9 (by decide) c1 ?_
    refine g_aload_n C dX5_readTune_12 rfl 0 rfl ?_
    refine g_iconst (v := 5) C dX5_readTune_13 (by decide) ?_
    obtain ⟨r24, σ25, h26, hf⟩ := obp_e hf
    refine g_callVi (As := [.int 5]) (rest := []) C (a_3 ad cy _) rfl (c_X5_refuse l dC dI ad cy ((5 : Int32))) h26 hM_X5_57 cal_X5_refuse ⟨Nat.zero_le _, Nat.zero_le _⟩ ⟨rfl, rfl⟩ ⟨Nat.le_of_ble_eq_true rfl, Nat.le_of_ble_eq_true rfl⟩ rfl rfl (Nat.le_of_ble_eq_true rfl) dX5_readTune_14 ?_
    obtain ⟨h27, hf⟩ := og_e hf
    obtain ⟨rfl, rfl⟩ := os_e hf
    exact g_zret C rfl (zb_ok h27) dX5_readTune_17
theorem c_X5_readTune (l : Launch) (dC : Nat → ClassId) (dI : Nat → Nat → Nat) (ad : Nat → Nat) (cy : Nat → ClassId)  : ConI l yX5_readTune cX5_readTune 2 (some .boolean) rm_X5_readTune dC dI ad cy [.ref (ad 3)] (fun σ => fX5_readTune σ) := con_i (own := RX5) (by decide) rfl (Nat.le_of_ble_eq_true rfl) (fun _ _ _ _ _ _ _ _ σ _ _ C hf => fX5_readTune_ok C σ  hf)
theorem cal_X5_readTune : CalV yX5_readTune RX5 cX5_readTune 2 (some .boolean) 0 := ⟨hI_X5_readTune, hS_X5_readTune, hIni_X5, hC_X5_readTune, by decide +kernel⟩
