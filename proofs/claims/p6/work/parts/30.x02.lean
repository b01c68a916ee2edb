abbrev rm_X0_choose : Room := { frames := 3, cells := 0, slots := 0, locals := 73 }
def fX0_choose_b51 (sf_21 : S0 → Int32 → Option (Int32 × S0)) (σ : S0) (x2 : Int32) : Option (Int32 × S0) := ol (x2 + 1) (fun v1 => sf_21 σ v1)
set_option maxHeartbeats 1000000 in
set_option maxRecDepth 100000 in
theorem fX0_choose_b51_ok {p : Program} {l : Launch} {e : Env} {s : State} {m : MethodId} {args : Array Value} {below : List Frame} {meth : Method} {c : Code} {dC : Nat → ClassId} {dI : Nat → Nat → Nat} {ad : Nat → Nat} {cy : Nat → ClassId} {sz : Nat} (C : Cx p s m args meth c RX0 cX0_choose 4 none dC dI ad cy sz) {rr : Int32} {ρ : S0} (sf_21 : S0 → Int32 → Option (Int32 × S0)) (hs_21 : ∀ (σ : S0) (x2 : Int32) , sf_21 σ x2 = some (rr, ρ) → Gw p l e rm_X0_choose s m args below meth c (MQ below (QcV dC dI ad cy sz ρ) args s 0 0 (AW ad sz)) dC dI ad cy 4 sz 0 0 21 [(0, .ref (ad 41)), (2, .int x2)] [] σ) (σ : S0) (x2 : Int32)  (hf : fX0_choose_b51 sf_21 σ x2 = some (rr, ρ)) : Gw p l e rm_X0_choose s m args below meth c (MQ below (QcV dC dI ad cy sz ρ) args s 0 0 (AW ad sz)) dC dI ad cy 4 sz 0 0 51 [(0, .ref (ad 41)), (2, .int x2)] [] σ := by
  unfold fX0_choose_b51 at hf
  obtain ⟨v1, ev1, hf⟩ := ol_e hf
  refine g_iinc (j := 1) (w := 1) (lv2 := [(0, .ref (ad 41)), (2, .int v1)]) C dX0_choose_51 rfl (by decide) ev1 (by decide) [1, 0] rfl ?_
  refine g_goto (tgt := 21) C dX0_choose_54 (by decide) ?_
  exact g_sub [0, 1] rfl (hs_21 σ v1 hf)
def fX0_choose_b21 (sf_21 : S0 → Int32 → Option (Int32 × S0)) (σ : S0) (x2 : Int32) : Option (Int32 × S0) := if (20 : Int32) < x2 then (some (0, σ)) else (obp (fX0_bringsAt σ x2) (fun r2 σ3 => if r2 ≤ (σ3 41 8) then (fX0_choose_b51 sf_21 σ3 x2) else (ol (su σ3 41 8 r2) (fun σ6 => ol (su σ6 41 7 x2) (fun σ7 => fX0_choose_b51 sf_21 σ7 x2)))))
set_option maxHeartbeats 1000000 in
set_option maxRecDepth 100000 in
theorem fX0_choose_b21_ok {p : Program} {l : Launch} {e : Env} {s : State} {m : MethodId} {args : Array Value} {below : List Frame} {meth : Method} {c : Code} {dC : Nat → ClassId} {dI : Nat → Nat → Nat} {ad : Nat → Nat} {cy : Nat → ClassId} {sz : Nat} (C : Cx p s m args meth c RX0 cX0_choose 4 none dC dI ad cy sz) {rr : Int32} {ρ : S0} (sf_21 : S0 → Int32 → Option (Int32 × S0)) (hs_21 : ∀ (σ : S0) (x2 : Int32) , sf_21 σ x2 = some (rr, ρ) → Gw p l e rm_X0_choose s m args below meth c (MQ below (QcV dC dI ad cy sz ρ) args s 0 0 (AW ad sz)) dC dI ad cy 4 sz 0 0 21 [(0, .ref (ad 41)), (2, .int x2)] [] σ) (σ : S0) (x2 : Int32)  (hf : fX0_choose_b21 sf_21 σ x2 = some (rr, ρ)) : Gw p l e rm_X0_choose s m args below meth c (MQ below (QcV dC dI ad cy sz ρ) args s 0 0 (AW ad sz)) dC dI ad cy 4 sz 0 0 21 [(0, .ref (ad 41)), (2, .int x2)] [] σ := by
  unfold fX0_choose_b21 at hf
  refine g_iload_n C dX0_choose_21 rfl 1 rfl ?_
  refine g_bipush (v := 20) C dX0_choose_22 (by decide) ?_
  rcases oi_e hf with ⟨c1, hf⟩ | ⟨c1, hf⟩
  · refine g_icmp_gt_t (tgt := 57) C dX0_choose_24 (by decide) c1 ?_
    obtain ⟨rfl, rfl⟩ := os_e hf
    exact g_vret C rfl dX0_choose_57
  · refine g_icmp_gt_f (tgt := 57) C dX0_choose_24 (by decide) c1 ?_
    refine g_aload_n C dX0_choose_27 rfl 0 rfl ?_
    refine g_iload_n C dX0_choose_28 rfl 1 rfl ?_
    obtain ⟨r2, σ3, h4, hf⟩ := obp_e hf
    refine g_callVi (As := [.int x2]) (rest := []) C (a_41 ad cy _) rfl (c_X0_bringsAt l dC dI ad cy x2) h4 hM_X0_85 cal_X0_bringsAt ⟨Nat.zero_le _, Nat.zero_le _⟩ ⟨rfl, rfl⟩ ⟨Nat.le_of_ble_eq_true rfl, Nat.le_of_ble_eq_true rfl⟩ rfl rfl (Nat.le_of_ble_eq_true rfl) dX0_choose_29 ?_
    refine g_istore_n (lv2 := [(0, .ref (ad 41)), (2, .int x2), (3, .int r2)]) C dX0_choose_32 rfl (by decide) [1, 2, 0] rfl ?_
    refine g_iload_n C dX0_choose_33 rfl 2 rfl ?_
    refine g_aload_n C dX0_choose_34 rfl 0 rfl ?_
    refine g_get C (a_41 ad cy _) rfl hin_X0 8 (by decide) hF_X0_89 rfl rfl dX0_choose_35 ?_
    rcases oi_e hf with ⟨c5, hf⟩ | ⟨c5, hf⟩
    · refine g_icmp_le_t (tgt := 51) C dX0_choose_38 (by decide) c5 ?_
      exact g_sub [0, 1] rfl (fX0_choose_b51_ok C sf_21 hs_21 σ3 x2 hf)
    · refine g_icmp_le_f (tgt := 51) C dX0_choose_38 (by decide) c5 ?_
      refine g_aload_n C dX0_choose_41 rfl 0 rfl ?_
      refine g_iload_n C dX0_choose_42 rfl 2 rfl ?_
      obtain ⟨σ6, eσ6, hf⟩ := ol_e hf
      refine g_put (ty := .int) C (a_41 ad cy _) rfl hin_X0 tyX0 tyX0_ok nmX0 8 (by decide) hF_X0_89 rfl rfl (by decide +kernel) rfl rfl (Nat.le_of_ble_eq_true rfl) (p_41_8 ad cy _ _) eσ6 dX0_choose_43 ?_
      refine g_aload_n C dX0_choose_46 rfl 0 rfl ?_
      refine g_iload_n C dX0_choose_47 rfl 1 rfl ?_
      obtain ⟨σ7, eσ7, hf⟩ := ol_e hf
      refine g_put (ty := .int) C (a_41 ad cy _) rfl hin_X0 tyX0 tyX0_ok nmX0 7 (by decide) hF_X0_82 rfl rfl (by decide +kernel) rfl rfl (Nat.le_of_ble_eq_true rfl) (p_41_7 ad cy _ _) eσ7 dX0_choose_48 ?_
      exact g_sub [0, 1] rfl (fX0_choose_b51_ok C sf_21 hs_21 σ7 x2 hf)
def fX0_choose_h21  : Nat → S0 → Int32 → Option (Int32 × S0)
  | 0 => fun _ _ => none
  | n + 1 => fun σ x2 => fX0_choose_b21  (fX0_choose_h21  n) σ x2
set_option maxHeartbeats 1000000 in
set_option maxRecDepth 100000 in
theorem fX0_choose_h21_ok {p : Program} {l : Launch} {e : Env} {s : State} {m : MethodId} {args : Array Value} {below : List Frame} {meth : Method} {c : Code} {dC : Nat → ClassId} {dI : Nat → Nat → Nat} {ad : Nat → Nat} {cy : Nat → ClassId} {sz : Nat} (C : Cx p s m args meth c RX0 cX0_choose 4 none dC dI ad cy sz) {rr : Int32} {ρ : S0}  : ∀ (n : Nat) (σ : S0) (x2 : Int32)  (_hf : fX0_choose_h21  n σ x2 = some (rr, ρ)), Gw p l e rm_X0_choose s m args below meth c (MQ below (QcV dC dI ad cy sz ρ) args s 0 0 (AW ad sz)) dC dI ad cy 4 sz 0 0 21 [(0, .ref (ad 41)), (2, .int x2)] [] σ
  | 0, _, _, hf => by cases hf
  | n + 1, σ, x2, hf => fX0_choose_b21_ok C  (fX0_choose_h21  n) (fX0_choose_h21_ok C  n) σ x2 hf
def fX0_choose (σ : S0) (x1 : Int32) : Option (Int32 × S0) := obp (fX0_weigh σ x1) (fun r1 σ2 => ol (su σ2 41 7 0) (fun σ4 => obp (fX0_bringsAt σ4 ((0 : Int32))) (fun r5 σ6 => ol (su σ6 41 8 r5) (fun σ8 => fX0_choose_h21 400 σ8 1))))
set_option maxHeartbeats 1000000 in
set_option maxRecDepth 100000 in
theorem fX0_choose_ok {p : Program} {l : Launch} {e : Env} {s : State} {m : MethodId} {args : Array Value} {below : List Frame} {meth : Method} {c : Code} {dC : Nat → ClassId} {dI : Nat → Nat → Nat} {ad : Nat → Nat} {cy : Nat → ClassId} {sz : Nat} (C : Cx p s m args meth c RX0 cX0_choose 4 none dC dI ad cy sz) {rr : Int32} {ρ : S0} (σ : S0) (x1 : Int32)  (hf : fX0_choose σ x1 = some (rr, ρ)) : Gw p l e rm_X0_choose s m args below meth c (MQ below (QcV dC dI ad cy sz ρ) args s 0 0 (AW ad sz)) dC dI ad cy 4 sz 0 0 0 [(0, .ref (ad 41)), (1, .int x1)] [] σ := by
  unfold fX0_choose at hf
  refine g_aload_n C dX0_choose_0 rfl 0 rfl ?_
  refine g_iload_n C dX0_choose_1 rfl 1 rfl ?_
  obtain ⟨r1, σ2, h3, hf⟩ := obp_e hf
  refine g_callVv (As := [.int x1]) (rest := []) C (a_41 ad cy _) rfl (c_X0_weigh l dC dI ad cy x1) h3 hM_X0_79 cal_X0_weigh ⟨Nat.zero_le _, Nat.zero_le _⟩ ⟨rfl, rfl⟩ ⟨Nat.le_of_ble_eq_true rfl, Nat.le_of_ble_eq_true rfl⟩ rfl rfl (Nat.le_of_ble_eq_true rfl) dX0_choose_2 ?_
  refine g_aload_n C dX0_choose_5 rfl 0 rfl ?_
  refine g_iconst (v := 0) C dX0_choose_6 (by decide) ?_
  obtain ⟨σ4, eσ4, hf⟩ := ol_e hf
  refine g_put (ty := .int) C (a_41 ad cy _) rfl hin_X0 tyX0 tyX0_ok nmX0 7 (by decide) hF_X0_82 rfl rfl (by decide +kernel) rfl rfl (Nat.le_of_ble_eq_true rfl) (p_41_7 ad cy _ _) eσ4 dX0_choose_7 ?_
  refine g_aload_n C dX0_choose_10 rfl 0 rfl ?_
  refine g_aload_n C dX0_choose_11 rfl 0 rfl ?_
  refine g_iconst (v := 0) C dX0_choose_12 (by decide) ?_
  obtain ⟨r5, σ6, h7, hf⟩ := obp_e hf
  refine g_callVi (As := [.int 0]) (rest := [.ref (ad 41)]) C (a_41 ad cy _) rfl (c_X0_bringsAt l dC dI ad cy ((0 : Int32))) h7 hM_X0_85 cal_X0_bringsAt ⟨Nat.zero_le _, Nat.zero_le _⟩ ⟨rfl, rfl⟩ ⟨Nat.le_of_ble_eq_true rfl, Nat.le_of_ble_eq_true rfl⟩ rfl rfl (Nat.le_of_ble_eq_true rfl) dX0_choose_13 ?_
  obtain ⟨σ8, eσ8, hf⟩ := ol_e hf
  refine g_put (ty := .int) C (a_41 ad cy _) rfl hin_X0 tyX0 tyX0_ok nmX0 8 (by decide) hF_X0_89 rfl rfl (by decide +kernel) rfl rfl (Nat.le_of_ble_eq_true rfl) (p_41_8 ad cy _ _) eσ8 dX0_choose_16 ?_
  refine g_iconst (v := 1) C dX0_choose_19 (by decide) ?_
  refine g_istore_n (lv2 := [(0, .ref (ad 41)), (1, .int x1), (2, .int 1)]) C dX0_choose_20 rfl (by decide) [1, 2, 0] rfl ?_
  exact g_sub [0, 2] rfl (fX0_choose_h21_ok C 400 σ8 1 hf)
theorem c_X0_choose (l : Launch) (dC : Nat → ClassId) (dI : Nat → Nat → Nat) (ad : Nat → Nat) (cy : Nat → ClassId) (x1 : Int32) : ConV l yX0_choose cX0_choose 4 none rm_X0_choose dC dI ad cy [.ref (ad 41), .int x1] (fun σ => fX0_choose σ x1) := con_v (own := RX0) (by decide) rfl (Nat.le_of_ble_eq_true rfl) (fun _ _ _ _ _ _ _ _ σ _ _ C hf => fX0_choose_ok C σ x1 hf)
theorem cal_X0_choose : CalV yX0_choose RX0 cX0_choose 4 none 1 := ⟨hI_X0_choose, hS_X0_choose, hIni_X0, hC_X0_choose, by decide +kernel⟩
abbrev rm_X0_wantsOther : Room := { frames := 4, cells := 0, slots := 0, locals := 96 }
def fX0_wantsOther (σ : S0) (x1 : Int32) : Option (Int32 × S0) := obp (fX0_choose σ x1) (fun r1 σ2 => obp (fX6_wageOf σ2 x1) (fun r4 σ5 => if (σ2 41 8) ≤ r4 then (some (0, σ5)) else (some (1, σ5))))
set_option maxHeartbeats 1000000 in
set_option maxRecDepth 100000 in
theorem fX0_wantsOther_ok {p : Program} {l : Launch} {e : Env} {s : State} {m : MethodId} {args : Array Value} {below : List Frame} {meth : Method} {c : Code} {dC : Nat → ClassId} {dI : Nat → Nat → Nat} {ad : Nat → Nat} {cy : Nat → ClassId} {sz : Nat} (C : Cx p s m args meth c RX0 cX0_wantsOther 2 (some .boolean) dC dI ad cy sz) {rr : Int32} {ρ : S0} (σ : S0) (x1 : Int32)  (hf : fX0_wantsOther σ x1 = some (rr, ρ)) : Gw p l e rm_X0_wantsOther s m args below meth c (MQ below (QcI dC dI ad cy sz rr ρ) args s 0 0 (AW ad sz)) dC dI ad cy 2 sz 0 0 0 [(0, .ref (ad 41)), (1, .int x1)] [] σ := by
  unfold fX0_wantsOther at hf
  refine g_aload_n C dX0_wantsOther_0 rfl 0 rfl ?_
  refine g_iload_n C dX0_wantsOther_1 rfl 1 rfl ?_
  obtain ⟨r1, σ2, h3, hf⟩ := obp_e hf
  refine g_callVv (As := [.int x1]) (rest := []) C (a_41 ad cy _) rfl (c_X0_choose l dC dI ad cy x1) h3 hM_X0_92 cal_X0_choose ⟨Nat.zero_le _, Nat.zero_le _⟩ ⟨rfl, rfl⟩ ⟨Nat.le_of_ble_eq_true rfl, Nat.le_of_ble_eq_true rfl⟩ rfl rfl (Nat.le_of_ble_eq_true rfl) dX0_wantsOther_2 ?_
  refine g_aload_n C dX0_wantsOther_5 rfl 0 rfl ?_
  refine g_get C (a_41 ad cy _) rfl hin_X0 8 (by decide) hF_X0_89 rfl rfl dX0_wantsOther_6 ?_
  refine g_aload_n C dX0_wantsOther_9 rfl 0 rfl ?_
  refine g_get C (a_41 ad cy _) rfl hin_X0 2 (by decide) hF_X0_35 rfl rfl dX0_wantsOther_10 ?_
  refine g_iload_n C dX0_wantsOther_13 rfl 1 rfl ?_
  obtain ⟨r4, σ5, h6, hf⟩ := obp_e hf
  refine g_callVi (As := [.int x1]) (rest := [.int (σ2 41 8)]) C (a_40 ad cy _) rfl (c_X6_wageOf l dC dI ad cy x1) h6 hM_X0_95 cal_X6_wageOf ⟨Nat.zero_le _, Nat.zero_le _⟩ ⟨rfl, rfl⟩ ⟨Nat.le_of_ble_eq_true rfl, Nat.le_of_ble_eq_true rfl⟩ rfl rfl (Nat.le_of_ble_eq_true rfl) dX0_wantsOther_14 ?_
  rcases oi_e hf with ⟨c7, hf⟩ | ⟨c7, hf⟩
  · refine g_icmp_le_t (tgt := 24) C dX0_wantsOther_17 (by decide) c7 ?_
    refine g_iconst (v := 0) C dX0_wantsOther_24 (by decide) ?_
    obtain ⟨rfl, rfl⟩ := os_e hf
    exact g_zret C rfl (by decide) dX0_wantsOther_25
  · refine g_icmp_le_f (tgt := 24) C dX0_wantsOther_17 (by decide) c7 ?_
    refine g_iconst (v := 1) C dX0_wantsOther_20 (by decide) ?_
    refine g_goto (tgt := 25) C dX0_wantsOther_21 (by decide) ?_
    obtain ⟨rfl, rfl⟩ := os_e hf
    exact g_zret C rfl (by decide) dX0_wantsOther_25
theorem c_X0_wantsOther (l : Launch) (dC : Nat → ClassId) (dI : Nat → Nat → Nat) (ad : Nat → Nat) (cy : Nat → ClassId) (x1 : Int32) : ConI l yX0_wantsOther cX0_wantsOther 2 (some .boolean) rm_X0_wantsOther dC dI ad cy [.ref (ad 41), .int x1] (fun σ => fX0_wantsOther σ x1) := con_i (own := RX0) (by decide) rfl (Nat.le_of_ble_eq_true rfl) (fun _ _ _ _ _ _ _ _ σ _ _ C hf => fX0_wantsOther_ok C σ x1 hf)
theorem cal_X0_wantsOther : CalV yX0_wantsOther RX0 cX0_wantsOther 2 (some .boolean) 1 := ⟨hI_X0_wantsOther, hS_X0_wantsOther, hIni_X0, hC_X0_wantsOther, by decide +kernel⟩
abbrev rm_X0_setFees : Room := { frames := 0, cells := 0, slots := 0, locals := 0 }
def fX0_setFees_b36 (sf_2 : S0 → Int32 → Int32 → Int32 → Option (Int32 × S0)) (σ : S0) (x1 : Int32) (x2 : Int32) (x3 : Int32) : Option (Int32 × S0) := ol (x3 + 1) (fun v1 => sf_2 σ x1 x2 v1)
set_option maxHeartbeats 1000000 in
set_option maxRecDepth 100000 in
theorem fX0_setFees_b36_ok {p : Program} {l : Launch} {e : Env} {s : State} {m : MethodId} {args : Array Value} {below : List Frame} {meth : Method} {c : Code} {dC : Nat → ClassId} {dI : Nat → Nat → Nat} {ad : Nat → Nat} {cy : Nat → ClassId} {sz : Nat} (C : Cx p s m args meth c RX0 cX0_setFees 4 none dC dI ad cy sz) {rr : Int32} {ρ : S0} (sf_2 : S0 → Int32 → Int32 → Int32 → Option (Int32 × S0)) (hs_2 : ∀ (σ : S0) (x1 : Int32) (x2 : Int32) (x3 : Int32) , sf_2 σ x1 x2 x3 = some (rr, ρ) → Gw p l e rm_X0_setFees s m args below meth c (MQ below (QcV dC dI ad cy sz ρ) args s 0 0 (AW ad sz)) dC dI ad cy 4 sz 0 0 2 [(0, .ref (ad 41)), (1, .int x1), (2, .int x2), (3, .int x3)] [] σ) (σ : S0) (x1 : Int32) (x2 : Int32) (x3 : Int32)  (hf : fX0_setFees_b36 sf_2 σ x1 x2 x3 = some (rr, ρ)) : Gw p l e rm_X0_setFees s m args below meth c (MQ below (QcV dC dI ad cy sz ρ) args s 0 0 (AW ad sz)) dC dI ad cy 4 sz 0 0 36 [(0, .ref (ad 41)), (1, .int x1), (2, .int x2), (3, .int x3)] [] σ := by
  unfold fX0_setFees_b36 at hf
  obtain ⟨v1, ev1, hf⟩ := ol_e hf
  refine g_iinc (j := 3) (w := 1) (lv2 := [(0, .ref (ad 41)), (1, .int x1), (2, .int x2), (3, .int v1)]) C dX0_setFees_36 rfl (by decide) ev1 (by decide) [1, 2, 3, 0] rfl ?_
  refine g_goto (tgt := 2) C dX0_setFees_39 (by decide) ?_
  exact g_sub [0, 1, 2, 3] rfl (hs_2 σ x1 x2 v1 hf)
def fX0_setFees_b2 (sf_2 : S0 → Int32 → Int32 → Int32 → Option (Int32 × S0)) (σ : S0) (x1 : Int32) (x2 : Int32) (x3 : Int32) : Option (Int32 × S0) := if (σ 32 0) ≤ x3 then (some (0, σ)) else (og (¬ (x3 < 0 ∨ 12 ≤ x3.toNatClampNeg)) (ol (σ 33 x3.toNatClampNeg) (fun v3 => if ¬ v3 = x1 then (fX0_setFees_b36 sf_2 σ x1 x2 x3) else (og (¬ (x3 < 0 ∨ 12 ≤ x3.toNatClampNeg)) (ol (su σ 34 x3.toNatClampNeg x2) (fun σ6 => fX0_setFees_b36 sf_2 σ6 x1 x2 x3))))))
set_option maxHeartbeats 1000000 in
set_option maxRecDepth 100000 in
theorem fX0_setFees_b2_ok {p : Program} {l : Launch} {e : Env} {s : State} {m : MethodId} {args : Array Value} {below : List Frame} {meth : Method} {c : Code} {dC : Nat → ClassId} {dI : Nat → Nat → Nat} {ad : Nat → Nat} {cy : Nat → ClassId} {sz : Nat} (C : Cx p s m args meth c RX0 cX0_setFees 4 none dC dI ad cy sz) {rr : Int32} {ρ : S0} (sf_2 : S0 → Int32 → Int32 → Int32 → Option (Int32 × S0)) (hs_2 : ∀ (σ : S0) (x1 : Int32) (x2 : Int32) (x3 : Int32) , sf_2 σ x1 x2 x3 = some (rr, ρ) → Gw p l e rm_X0_setFees s m args below meth c (MQ below (QcV dC dI ad cy sz ρ) args s 0 0 (AW ad sz)) dC dI ad cy 4 sz 0 0 2 [(0, .ref (ad 41)), (1, .int x1), (2, .int x2), (3, .int x3)] [] σ) (σ : S0) (x1 : Int32) (x2 : Int32) (x3 : Int32)  (hf : fX0_setFees_b2 sf_2 σ x1 x2 x3 = some (rr, ρ)) : Gw p l e rm_X0_setFees s m args below meth c (MQ below (QcV dC dI ad cy sz ρ) args s 0 0 (AW ad sz)) dC dI ad cy 4 sz 0 0 2 [(0, .ref (ad 41)), (1, .int x1), (2, .int x2), (3, .int x3)] [] σ := by
  unfold fX0_setFees_b2 at hf
  refine g_iload_n C dX0_setFees_2 rfl 3 rfl ?_
  refine g_aload_n C dX0_setFees_3 rfl 0 rfl ?_
  refine g_get C (a_41 ad cy _) rfl hin_X0 1 (by decide) hF_X0_34 rfl rfl dX0_setFees_4 ?_
  refine g_get C (a_32 ad cy _) rfl hin_X1 0 (by decide) hF_X0_107 rfl rfl dX0_setFees_7 ?_
  rcases oi_e hf with ⟨c1, hf⟩ | ⟨c1, hf⟩
  · refine g_icmp_ge_t (tgt := 42) C dX0_setFees_10 (by decide) c1 ?_
    obtain ⟨rfl, rfl⟩ := os_e hf
    exact g_vret C rfl dX0_setFees_42
  · refine g_icmp_ge_f (tgt := 42) C dX0_setFees_10 (by decide) c1 ?_
    refine g_aload_n C dX0_setFees_13 rfl 0 rfl ?_
    refine g_get C (a_41 ad cy _) rfl hin_X0 1 (by decide) hF_X0_34 rfl rfl dX0_setFees_14 ?_
    refine g_get C (a_32 ad cy _) rfl hin_X1 1 (by decide) hF_X0_73 rfl rfl dX0_setFees_17 ?_
    refine g_iload_n C dX0_setFees_20 rfl 3 rfl ?_
    obtain ⟨h2, hf⟩ := og_e hf
    refine g_iald C (a_33 ad cy _) h2 dX0_setFees_21 ?_
    obtain ⟨v3, ev3, hf⟩ := ol_e hf
    refine g_nm ev3 ?_
    refine g_iload_n C dX0_setFees_22 rfl 1 rfl ?_
    rcases oi_e hf with ⟨c4, hf⟩ | ⟨c4, hf⟩
    · refine g_icmp_ne_t (tgt := 36) C dX0_setFees_23 (by decide) c4 ?_
      exact g_sub [0, 1, 2, 3] rfl (fX0_setFees_b36_ok C sf_2 hs_2 σ x1 x2 x3 hf)
    · refine g_icmp_ne_f (tgt := 36) C dX0_setFees_23 (by decide) (Decidable.of_not_not c4) ?_
      refine g_aload_n C dX0_setFees_26 rfl 0 rfl ?_
      refine g_get C (a_41 ad cy _) rfl hin_X0 1 (by decide) hF_X0_34 rfl rfl dX0_setFees_27 ?_
      refine g_get C (a_32 ad cy _) rfl hin_X1 2 (by decide) hF_X0_76 rfl rfl dX0_setFees_30 ?_
      refine g_iload_n C dX0_setFees_33 rfl 3 rfl ?_
      refine g_iload_n C dX0_setFees_34 rfl 2 rfl ?_
      obtain ⟨h5, hf⟩ := og_e hf
      obtain ⟨σ6, eσ6, hf⟩ := ol_e hf
      refine g_iast C (a_34 ad cy _) h5 (w_34 ad cy _) eσ6 dX0_setFees_35 ?_
      exact g_sub [0, 1, 2, 3] rfl (fX0_setFees_b36_ok C sf_2 hs_2 σ6 x1 x2 x3 hf)
def fX0_setFees_h2  : Nat → S0 → Int32 → Int32 → Int32 → Option (Int32 × S0)
  | 0 => fun _ _ _ _ => none
  | n + 1 => fun σ x1 x2 x3 => fX0_setFees_b2  (fX0_setFees_h2  n) σ x1 x2 x3
set_option maxHeartbeats 1000000 in
set_option maxRecDepth 100000 in
theorem fX0_setFees_h2_ok {p : Program} {l : Launch} {e : Env} {s : State} {m : MethodId} {args : Array Value} {below : List Frame} {meth : Method} {c : Code} {dC : Nat → ClassId} {dI : Nat → Nat → Nat} {ad : Nat → Nat} {cy : Nat → ClassId} {sz : Nat} (C : Cx p s m args meth c RX0 cX0_setFees 4 none dC dI ad cy sz) {rr : Int32} {ρ : S0}  : ∀ (n : Nat) (σ : S0) (x1 : Int32) (x2 : Int32) (x3 : Int32)  (_hf : fX0_setFees_h2  n σ x1 x2 x3 = some (rr, ρ)), Gw p l e rm_X0_setFees s m args below meth c (MQ below (QcV dC dI ad cy sz ρ) args s 0 0 (AW ad sz)) dC dI ad cy 4 sz 0 0 2 [(0, .ref (ad 41)), (1, .int x1), (2, .int x2), (3, .int x3)] [] σ
  | 0, _, _, _, _, hf => by cases hf
  | n + 1, σ, x1, x2, x3, hf => fX0_setFees_b2_ok C  (fX0_setFees_h2  n) (fX0_setFees_h2_ok C  n) σ x1 x2 x3 hf
def fX0_setFees (σ : S0) (x1 : Int32) (x2 : Int32) : Option (Int32 × S0) := fX0_setFees_h2 400 σ x1 x2 0
set_option maxHeartbeats 1000000 in
set_option maxRecDepth 100000 in
theorem fX0_setFees_ok {p : Program} {l : Launch} {e : Env} {s : State} {m : MethodId} {args : Array Value} {below : List Frame} {meth : Method} {c : Code} {dC : Nat → ClassId} {dI : Nat → Nat → Nat} {ad : Nat → Nat} {cy : Nat → ClassId} {sz : Nat} (C : Cx p s m args meth c RX0 cX0_setFees 4 none dC dI ad cy sz) {rr : Int32} {ρ : S0} (σ : S0) (x1 : Int32) (x2 : Int32)  (hf : fX0_setFees σ x1 x2 = some (rr, ρ)) : Gw p l e rm_X0_setFees s m args below meth c (MQ below (QcV dC dI ad cy sz ρ) args s 0 0 (AW ad sz)) dC dI ad cy 4 sz 0 0 0 [(0, .ref (ad 41)), (1, .int x1), (2, .int x2)] [] σ := by
  unfold fX0_setFees at hf
  refine g_iconst (v := 0) C dX0_setFees_0 (by decide) ?_
  refine g_istore_n (lv2 := [(0, .ref (ad 41)), (1, .int x1), (2, .int x2), (3, .int 0)]) C dX0_setFees_1 rfl (by decide) [1, 2, 3, 0] rfl ?_
  exact g_sub [0, 1, 2, 3] rfl (fX0_setFees_h2_ok C 400 σ x1 x2 0 hf)
theorem c_X0_setFees (l : Launch) (dC : Nat → ClassId) (dI : Nat → Nat → Nat) (ad : Nat → Nat) (cy : Nat → ClassId) (x1 : Int32) (x2 : Int32) : ConV l yX0_setFees cX0_setFees 4 none rm_X0_setFees dC dI ad cy [.ref (ad 41), .int x1, .int x2] (fun σ => fX0_setFees σ x1 x2) := con_v (own := RX0) (by decide) rfl (Nat.le_of_ble_eq_true rfl) (fun _ _ _ _ _ _ _ _ σ _ _ C hf => fX0_setFees_ok C σ x1 x2 hf)
theorem cal_X0_setFees : CalV yX0_setFees RX0 cX0_setFees 4 none 2 := ⟨hI_X0_setFees, hS_X0_setFees, hIni_X0, hC_X0_setFees, by decide +kernel⟩
abbrev rm_X0_changeInRound : Room := { frames := 5, cells := 0, slots := 0, locals := 117 }
def fX0_changeInRound_b34 (sf_4 : S0 → Int32 → Int32 → Option (Int32 × S0)) (σ : S0) (x1 : Int32) (x2 : Int32) : Option (Int32 × S0) := ol (x2 + 1) (fun v1 => sf_4 σ x1 v1)
set_option maxHeartbeats 1000000 in
set_option maxRecDepth 100000 in
theorem fX0_changeInRound_b34_ok {p : Program} {l : Launch} {e : Env} {s : State} {m : MethodId} {args : Array Value} {below : List Frame} {meth : Method} {c : Code} {dC : Nat → ClassId} {dI : Nat → Nat → Nat} {ad : Nat → Nat} {cy : Nat → ClassId} {sz : Nat} (C : Cx p s m args meth c RX0 cX0_changeInRound 3 (some .boolean) dC dI ad cy sz) {rr : Int32} {ρ : S0} (sf_4 : S0 → Int32 → Int32 → Option (Int32 × S0)) (hs_4 : ∀ (σ : S0) (x1 : Int32) (x2 : Int32) , sf_4 σ x1 x2 = some (rr, ρ) → Gw p l e rm_X0_changeInRound s m args below meth c (MQ below (QcI dC dI ad cy sz rr ρ) args s 0 0 (AW ad sz)) dC dI ad cy 3 sz 0 0 4 [(0, .ref (ad 41)), (1, .int x1), (2, .int x2)] [] σ) (σ : S0) (x1 : Int32) (x2 : Int32)  (hf : fX0_changeInRound_b34 sf_4 σ x1 x2 = some (rr, ρ)) : Gw p l e rm_X0_changeInRound s m args below meth c (MQ below (QcI dC dI ad cy sz rr ρ) args s 0 0 (AW ad sz)) dC dI ad cy 3 sz 0 0 34 [(0, .ref (ad 41)), (1, .int x1), (2, .int x2)] [] σ := by
  unfold fX0_changeInRound_b34 at hf
  obtain ⟨v1, ev1, hf⟩ := ol_e hf
  refine g_iinc (j := 2) (w := 1) (lv2 := [(0, .ref (ad 41)), (1, .int x1), (2, .int v1)]) C dX0_changeInRound_34 rfl (by decide) ev1 (by decide) [1, 2, 0] rfl ?_
  refine g_goto (tgt := 4) C dX0_changeInRound_37 (by decide) ?_
  exact g_sub [0, 1, 2] rfl (hs_4 σ x1 v1 hf)
def fX0_changeInRound_b4 (sf_4 : S0 → Int32 → Int32 → Option (Int32 × S0)) (σ : S0) (x1 : Int32) (x2 : Int32) : Option (Int32 × S0) := if (σ 22 0) ≤ x2 then (og (x1 = 0 ∨ x1 = 1) (some (x1, σ))) else (obp (fX0_wantsOther σ x2) (fun r3 σ4 => if r3 = 0 then (fX0_changeInRound_b34 sf_4 σ4 x1 x2) else (obp (fX0_setFees σ4 x2 (σ4 41 7)) (fun r7 σ8 => fX0_changeInRound_b34 sf_4 σ8 1 x2))))
set_option maxHeartbeats 1000000 in
set_option maxRecDepth 100000 in
theorem fX0_changeInRound_b4_ok {p : Program} {l : Launch} {e : Env} {s : State} {m : MethodId} {args : Array Value} {below : List Frame} {meth : Method} {c : Code} {dC : Nat → ClassId} {dI : Nat → Nat → Nat} {ad : Nat → Nat} {cy : Nat → ClassId} {sz : Nat} (C : Cx p s m args meth c RX0 cX0_changeInRound 3 (some .boolean) dC dI ad cy sz) {rr : Int32} {ρ : S0} (sf_4 : S0 → Int32 → Int32 → Option (Int32 × S0)) (hs_4 : ∀ (σ : S0) (x1 : Int32) (x2 : Int32) , sf_4 σ x1 x2 = some (rr, ρ) → Gw p l e rm_X0_changeInRound s m args below meth c (MQ below (QcI dC dI ad cy sz rr ρ) args s 0 0 (AW ad sz)) dC dI ad cy 3 sz 0 0 4 [(0, .ref (ad 41)), (1, .int x1), (2, .int x2)] [] σ) (σ : S0) (x1 : Int32) (x2 : Int32)  (hf : fX0_changeInRound_b4 sf_4 σ x1 x2 = some (rr, ρ)) : Gw p l e rm_X0_changeInRound s m args below meth c (MQ below (QcI dC dI ad cy sz rr ρ) args s 0 0 (AW ad sz)) dC dI ad cy 3 sz 0 0 4 [(0, .ref (ad 41)), (1, .int x1), (2, .int x2)] [] σ := by
  unfold fX0_changeInRound_b4 at hf
  refine g_iload_n C dX0_changeInRound_4 rfl 2 rfl ?_
  refine g_aload_n C dX0_changeInRound_5 rfl 0 rfl ?_
  refine g_get C (a_41 ad cy _) rfl hin_X0 0 (by decide) hF_X0_24 rfl rfl dX0_changeInRound_6 ?_
  refine g_get C (a_22 ad cy _) rfl hin_X9 0 (by decide) hF_X0_98 rfl rfl dX0_changeInRound_9 ?_
  rcases oi_e hf with ⟨c1, hf⟩ | ⟨c1, hf⟩
  · refine g_icmp_ge_t (tgt := 40) C dX0_changeInRound_12 (by decide) c1 ?_
    refine g_iload_n C dX0_changeInRound_40 rfl 1 rfl ?_
    obtain ⟨h2, hf⟩ := og_e hf
    obtain ⟨rfl, rfl⟩ := os_e hf
    exact g_zret C rfl (zb_ok h2) dX0_changeInRound_41
  · refine g_icmp_ge_f (tgt := 40) C dX0_changeInRound_12 (by decide) c1 ?_
    refine g_aload_n C dX0_changeInRound_15 rfl 0 rfl ?_
    refine g_iload_n C dX0_changeInRound_16 rfl 2 rfl ?_
    obtain ⟨r3, σ4, h5, hf⟩ := obp_e hf
    refine g_callVi (As := [.int x2]) (rest := []) C (a_41 ad cy _) rfl (c_X0_wantsOther l dC dI ad cy x2) h5 hM_X0_101 cal_X0_wantsOther ⟨Nat.zero_le _, Nat.zero_le _⟩ ⟨rfl, rfl⟩ ⟨Nat.le_of_ble_eq_true rfl, Nat.le_of_ble_eq_true rfl⟩ rfl rfl (Nat.le_of_ble_eq_true rfl) dX0_changeInRound_17 ?_
    rcases oi_e hf with ⟨c6, hf⟩ | ⟨c6, hf⟩
    · refine g_if_eq_t (tgt := 34) C dX0_changeInRound_20 (by decide) c6 ?_
      exact g_sub [0, 1, 2] rfl (fX0_changeInRound_b34_ok C sf_4 hs_4 σ4 x1 x2 hf)
    · refine g_if_eq_f (tgt := 34) C dX0_changeInRound_20 (by decide) c6 ?_
      refine g_aload_n C dX0_changeInRound_23 rfl 0 rfl ?_
      refine g_iload_n C dX0_changeInRound_24 rfl 2 rfl ?_
      refine g_aload_n C dX0_changeInRound_25 rfl 0 rfl ?_
      refine g_get C (a_41 ad cy _) rfl hin_X0 7 (by decide) hF_X0_82 rfl rfl dX0_changeInRound_26 ?_
      obtain ⟨r7, σ8, h9, hf⟩ := obp_e hf
      refine g_callVv (As := [.int x2, .int (σ4 41 7)]) (rest := []) C (a_41 ad cy _) rfl (c_X0_setFees l dC dI ad cy x2 (σ4 41 7)) h9 hM_X0_104 cal_X0_setFees ⟨Nat.zero_le _, Nat.zero_le _⟩ ⟨rfl, rfl⟩ ⟨Nat.le_of_ble_eq_true rfl, Nat.le_of_ble_eq_true rfl⟩ rfl rfl (Nat.le_of_ble_eq_true rfl) dX0_changeInRound_29 ?_
      refine g_iconst (v := 1) C dX0_changeInRound_32 (by decide) ?_
      refine g_istore_n (lv2 := [(0, .ref (ad 41)), (1, .int 1), (2, .int x2)]) C dX0_changeInRound_33 rfl (by decide) [1, 0, 2] rfl ?_
      exact g_sub [0, 1, 2] rfl (fX0_changeInRound_b34_ok C sf_4 hs_4 σ8 1 x2 hf)
def fX0_changeInRound_h4  : Nat → S0 → Int32 → Int32 → Option (Int32 × S0)
  | 0 => fun _ _ _ => none
  | n + 1 => fun σ x1 x2 => fX0_changeInRound_b4  (fX0_changeInRound_h4  n) σ x1 x2
set_option maxHeartbeats 1000000 in
set_option maxRecDepth 100000 in
theorem fX0_changeInRound_h4_ok {p : Program} {l : Launch} {e : Env} {s : State} {m : MethodId} {args : Array Value} {below : List Frame} {meth : Method} {c : Code} {dC : Nat → ClassId} {dI : Nat → Nat → Nat} {ad : Nat → Nat} {cy : Nat → ClassId} {sz : Nat} (C : Cx p s m args meth c RX0 cX0_changeInRound 3 (some .boolean) dC dI ad cy sz) {rr : Int32} {ρ : S0}  : ∀ (n : Nat) (σ : S0) (x1 : Int32) (x2 : Int32)  (_hf : fX0_changeInRound_h4  n σ x1 x2 = some (rr, ρ)), Gw p l e rm_X0_changeInRound s m args below meth c (MQ below (QcI dC dI ad cy sz rr ρ) args s 0 0 (AW ad sz)) dC dI ad cy 3 sz 0 0 4 [(0, .ref (ad 41)), (1, .int x1), (2, .int x2)] [] σ
  | 0, _, _, _, hf => by cases hf
  | n + 1, σ, x1, x2, hf => fX0_changeInRound_b4_ok C  (fX0_changeInRound_h4  n) (fX0_changeInRound_h4_ok C  n) σ x1 x2 hf
def fX0_changeInRound (σ : S0)  : Option (Int32 × S0) := fX0_changeInRound_h4 400 σ 0 0
set_option maxHeartbeats 1000000 in
set_option maxRecDepth 100000 in
theorem fX0_changeInRound_ok {p : Program} {l : Launch} {e : Env} {s : State} {m : MethodId} {args : Array Value} {below : List Frame} {meth : Method} {c : Code} {dC : Nat → ClassId} {dI : Nat → Nat → Nat} {ad : Nat → Nat} {cy : Nat → ClassId} {sz : Nat} (C : Cx p s m args meth c RX0 cX0_changeInRound 3 (some .boolean) dC dI ad cy sz) {rr : Int32} {ρ : S0} (σ : S0)   (hf : fX0_changeInRound σ = some (rr, ρ)) : Gw p l e rm_X0_changeInRound s m args below meth c (MQ below (QcI dC dI ad cy sz rr ρ) args s 0 0 (AW ad sz)) dC dI ad cy 3 sz 0 0 0 [(0, .ref (ad 41))] [] σ := by
  unfold fX0_changeInRound at hf
  refine g_iconst (v := 0) C dX0_changeInRound_0 (by decide) ?_
  refine g_istore_n (lv2 := [(0, .ref (ad 41)), (1, .int 0)]) C dX0_changeInRound_1 rfl (by decide) [1, 0] rfl ?_
  refine g_iconst (v := 0) C dX0_changeInRound_2 (by decide) ?_
  refine g_istore_n (lv2 := [(0, .ref (ad 41)), (1, .int 0), (2, .int 0)]) C dX0_changeInRound_3 rfl (by decide) [1, 2, 0] rfl ?_
  exact g_sub [0, 1, 2] rfl (fX0_changeInRound_h4_ok C 400 σ 0 0 hf)
theorem c_X0_changeInRound (l : Launch) (dC : Nat → ClassId) (dI : Nat → Nat → Nat) (ad : Nat → Nat) (cy : Nat → ClassId)  : ConI l yX0_changeInRound cX0_changeInRound 3 (some .boolean) rm_X0_changeInRound dC dI ad cy [.ref (ad 41)] (fun σ => fX0_changeInRound σ) := con_i (own := RX0) (by decide) rfl (Nat.le_of_ble_eq_true rfl) (fun _ _ _ _ _ _ _ _ σ _ _ C hf => fX0_changeInRound_ok C σ  hf)
theorem cal_X0_changeInRound : CalV yX0_changeInRound RX0 cX0_changeInRound 3 (some .boolean) 0 := ⟨hI_X0_changeInRound, hS_X0_changeInRound, hIni_X0, hC_X0_changeInRound, by decide +kernel⟩
abbrev rm_X2_ringAll : Room := { frames := 1, cells := 0, slots := 0, locals := 26 }
def fX2_ringAll_b103 (sf_2 : S0 → Int32 → Option (Int32 × S0)) (sf_46 : S0 → Int32 → Int32 → Option (Int32 × S0)) (σ : S0) (x1 : Int32) (x2 : Int32) : Option (Int32 × S0) := ol (x2 + 1) (fun v1 => sf_46 σ x1 v1)
set_option maxHeartbeats 1000000 in
set_option maxRecDepth 100000 in
theorem fX2_ringAll_b103_ok {p : Program} {l : Launch} {e : Env} {s : State} {m : MethodId} {args : Array Value} {below : List Frame} {meth : Method} {c : Code} {dC : Nat → ClassId} {dI : Nat → Nat → Nat} {ad : Nat → Nat} {cy : Nat → ClassId} {sz : Nat} (C : Cx p s m args meth c RX2 cX2_ringAll 3 none dC dI ad cy sz) {rr : Int32} {ρ : S0} (sf_2 : S0 → Int32 → Option (Int32 × S0)) (hs_2 : ∀ (σ : S0) (x1 : Int32) , sf_2 σ x1 = some (rr, ρ) → Gw p l e rm_X2_ringAll s m args below meth c (MQ below (QcV dC dI ad cy sz ρ) args s 0 0 (AW ad sz)) dC dI ad cy 3 sz 0 0 2 [(0, .ref (ad 46)), (1, .int x1)] [] σ) (sf_46 : S0 → Int32 → Int32 → Option (Int32 × S0)) (hs_46 : ∀ (σ : S0) (x1 : Int32) (x2 : Int32) , sf_46 σ x1 x2 = some (rr, ρ) → Gw p l e rm_X2_ringAll s m args below meth c (MQ below (QcV dC dI ad cy sz ρ) args s 0 0 (AW ad sz)) dC dI ad cy 3 sz 0 0 46 [(0, .ref (ad 46)), (1, .int x1), (2, .int x2)] [] σ) (σ : S0) (x1 : Int32) (x2 : Int32)  (hf : fX2_ringAll_b103 sf_2 sf_46 σ x1 x2 = some (rr, ρ)) : Gw p l e rm_X2_ringAll s m args below meth c (MQ below (QcV dC dI ad cy sz ρ) args s 0 0 (AW ad sz)) dC dI ad cy 3 sz 0 0 103 [(0, .ref (ad 46)), (1, .int x1), (2, .int x2)] [] σ := by
  unfold fX2_ringAll_b103 at hf
  obtain ⟨v1, ev1, hf⟩ := ol_e hf
  refine g_iinc (j := 2) (w := 1) (lv2 := [(0, .ref (ad 46)), (1, .int x1), (2, .int v1)]) C dX2_ringAll_103 rfl (by decide) ev1 (by decide) [1, 2, 0] rfl ?_
  refine g_goto (tgt := 46) C dX2_ringAll_106 (by decide) ?_
  exact g_sub [0, 1, 2] rfl (hs_46 σ x1 v1 hf)
def fX2_ringAll_b46 (sf_2 : S0 → Int32 → Option (Int32 × S0)) (sf_46 : S0 → Int32 → Int32 → Option (Int32 × S0)) (σ : S0) (x1 : Int32) (x2 : Int32) : Option (Int32 × S0) := og (¬ (x1 < 0 ∨ 6 ≤ x1.toNatClampNeg)) (ol (σ 24 x1.toNatClampNeg) (fun v2 => if v2 ≤ x2 then (ol (x1 + 1) (fun v4 => sf_2 σ v4)) else (obp (fX6_rang σ x2) (fun r5 σ6 => if r5 = 0 then (fX2_ringAll_b103 sf_2 sf_46 σ6 x1 x2) else (og (¬ (x1 < 0 ∨ 6 ≤ x1.toNatClampNeg)) (ol (49 + 1 * x1.toNatClampNeg) (fun q10 => og (¬ (x1 < 0 ∨ 6 ≤ x1.toNatClampNeg)) (ol (26 + 1 * x1.toNatClampNeg) (fun q12 => og (¬ (x2 < 0 ∨ 12 ≤ x2.toNatClampNeg)) (ol (σ6 q12 x2.toNatClampNeg) (fun v14 => og (¬ (v14 < 0 ∨ 12 ≤ v14.toNatClampNeg)) (ol (σ6 33 v14.toNatClampNeg) (fun v16 => og (¬ (v16 < 0 ∨ 6 ≤ v16.toNatClampNeg)) (ol (σ6 q10 v16.toNatClampNeg) (fun v18 => ol (v18 + 1) (fun v19 => og (¬ (v16 < 0 ∨ 6 ≤ v16.toNatClampNeg)) (ol (su σ6 q10 v16.toNatClampNeg v19) (fun σ21 => fX2_ringAll_b103 sf_2 sf_46 σ21 x1 x2))))))))))))))))))
set_option maxHeartbeats 1000000 in
set_option maxRecDepth 100000 in
theorem fX2_ringAll_b46_ok {p : Program} {l : Launch} {e : Env} {s : State} {m : MethodId} {args : Array Value} {below : List Frame} {meth : Method} {c : Code} {dC : Nat → ClassId} {dI : Nat → Nat → Nat} {ad : Nat → Nat} {cy : Nat → ClassId} {sz : Nat} (C : Cx p s m args meth c RX2 cX2_ringAll 3 none dC dI ad cy sz) {rr : Int32} {ρ : S0} (sf_2 : S0 → Int32 → Option (Int32 × S0)) (hs_2 : ∀ (σ : S0) (x1 : Int32) , sf_2 σ x1 = some (rr, ρ) → Gw p l e rm_X2_ringAll s m args below meth c (MQ below (QcV dC dI ad cy sz ρ) args s 0 0 (AW ad sz)) dC dI ad cy 3 sz 0 0 2 [(0, .ref (ad 46)), (1, .int x1)] [] σ) (sf_46 : S0 → Int32 → Int32 → Option (Int32 × S0)) (hs_46 : ∀ (σ : S0) (x1 : Int32) (x2 : Int32) , sf_46 σ x1 x2 = some (rr, ρ) → Gw p l e rm_X2_ringAll s m args below meth c (MQ below (QcV dC dI ad cy sz ρ) args s 0 0 (AW ad sz)) dC dI ad cy 3 sz 0 0 46 [(0, .ref (ad 46)), (1, .int x1), (2, .int x2)] [] σ) (σ : S0) (x1 : Int32) (x2 : Int32)  (hf : fX2_ringAll_b46 sf_2 sf_46 σ x1 x2 = some (rr, ρ)) : Gw p l e rm_X2_ringAll s m args below meth c (MQ below (QcV dC dI ad cy sz ρ) args s 0 0 (AW ad sz)) dC dI ad cy 3 sz 0 0 46 [(0, .ref (ad 46)), (1, .int x1), (2, .int x2)] [] σ := by
  unfold fX2_ringAll_b46 at hf
  refine g_iload_n C dX2_ringAll_46 rfl 2 rfl ?_
  refine g_aload_n C dX2_ringAll_47 rfl 0 rfl ?_
  refine g_get C (a_46 ad cy _) rfl hin_X2 0 (by decide) hF_X2_20 rfl rfl dX2_ringAll_48 ?_
  refine g_get C (a_22 ad cy _) rfl hin_X9 4 (by decide) hF_X2_49 rfl rfl dX2_ringAll_51 ?_
  refine g_iload_n C dX2_ringAll_54 rfl 1 rfl ?_
  obtain ⟨h1, hf⟩ := og_e hf
  refine g_iald C (a_24 ad cy _) h1 dX2_ringAll_55 ?_
  obtain ⟨v2, ev2, hf⟩ := ol_e hf
  refine g_nm ev2 ?_
  rcases oi_e hf with ⟨c3, hf⟩ | ⟨c3, hf⟩
  · refine g_icmp_ge_t (tgt := 109) C dX2_ringAll_56 (by decide) c3 ?_
    obtain ⟨v4, ev4, hf⟩ := ol_e hf
    refine g_iinc (j := 1) (w := 1) (lv2 := [(0, .ref (ad 46)), (1, .int v4), (2, .int x2)]) C dX2_ringAll_109 rfl (by decide) ev4 (by decide) [1, 0, 2] rfl ?_
    refine g_goto (tgt := 2) C dX2_ringAll_112 (by decide) ?_
    exact g_sub [0, 1] rfl (hs_2 σ v4 hf)
  · refine g_icmp_ge_f (tgt := 109) C dX2_ringAll_56 (by decide) c3 ?_
    refine g_aload_n C dX2_ringAll_59 rfl 0 rfl ?_
    refine g_get C (a_46 ad cy _) rfl hin_X2 1 (by decide) hF_X2_24 rfl rfl dX2_ringAll_60 ?_
    refine g_iload_n C dX2_ringAll_63 rfl 2 rfl ?_
    obtain ⟨r5, σ6, h7, hf⟩ := obp_e hf
    refine g_callVi (As := [.int x2]) (rest := []) C (a_40 ad cy _) rfl (c_X6_rang l dC dI ad cy x2) h7 hM_X2_52 cal_X6_rang ⟨Nat.zero_le _, Nat.zero_le _⟩ ⟨rfl, rfl⟩ ⟨Nat.le_of_ble_eq_true rfl, Nat.le_of_ble_eq_true rfl⟩ rfl rfl (Nat.le_of_ble_eq_true rfl) dX2_ringAll_64 ?_
    rcases oi_e hf with ⟨c8, hf⟩ | ⟨c8, hf⟩
    · refine g_if_eq_t (tgt := 103) C dX2_ringAll_67 (by decide) c8 ?_
      exact g_sub [0, 1, 2] rfl (fX2_ringAll_b103_ok C sf_2 hs_2 sf_46 hs_46 σ6 x1 x2 hf)
    · refine g_if_eq_f (tgt := 103) C dX2_ringAll_67 (by decide) c8 ?_
      refine g_aload_n C dX2_ringAll_70 rfl 0 rfl ?_
      refine g_get C (a_46 ad cy _) rfl hin_X2 3 (by decide) hF_X2_17 rfl rfl dX2_ringAll_71 ?_
      refine g_iload_n C dX2_ringAll_74 rfl 1 rfl ?_
      obtain ⟨h9, hf⟩ := og_e hf
      obtain ⟨q10, eq10, hf⟩ := ol_e hf
      refine g_aald C (a_48 ad cy _) rfl rfl h9 dX2_ringAll_75 ?_
      refine g_nmr eq10 ?_
      have hq10 := (o_48 h9 eq10)
      refine g_aload_n C dX2_ringAll_76 rfl 0 rfl ?_
      refine g_get C (a_46 ad cy _) rfl hin_X2 0 (by decide) hF_X2_20 rfl rfl dX2_ringAll_77 ?_
      refine g_get C (a_22 ad cy _) rfl hin_X9 6 (by decide) hF_X2_56 rfl rfl dX2_ringAll_80 ?_
      refine g_get C (a_32 ad cy _) rfl hin_X1 1 (by decide) hF_X2_60 rfl rfl dX2_ringAll_83 ?_
      refine g_aload_n C dX2_ringAll_86 rfl 0 rfl ?_
      refine g_get C (a_46 ad cy _) rfl hin_X2 0 (by decide) hF_X2_20 rfl rfl dX2_ringAll_87 ?_
      refine g_get C (a_22 ad cy _) rfl hin_X9 5 (by decide) hF_X2_65 rfl rfl dX2_ringAll_90 ?_
      refine g_iload_n C dX2_ringAll_93 rfl 1 rfl ?_
      obtain ⟨h11, hf⟩ := og_e hf
      obtain ⟨q12, eq12, hf⟩ := ol_e hf
      refine g_aald C (a_25 ad cy _) rfl rfl h11 dX2_ringAll_94 ?_
      refine g_nmr eq12 ?_
      have hq12 := (o_25 h11 eq12)
      refine g_iload_n C dX2_ringAll_95 rfl 2 rfl ?_
      obtain ⟨h13, hf⟩ := og_e hf
      refine g_iald C (s_row hq12 ad cy _) h13 dX2_ringAll_96 ?_
      obtain ⟨v14, ev14, hf⟩ := ol_e hf
      refine g_nm ev14 ?_
      obtain ⟨h15, hf⟩ := og_e hf
      refine g_iald C (a_33 ad cy _) h15 dX2_ringAll_97 ?_
      obtain ⟨v16, ev16, hf⟩ := ol_e hf
      refine g_nm ev16 ?_
      refine g_dup2 C dX2_ringAll_98 rfl rfl ?_
      obtain ⟨h17, hf⟩ := og_e hf
      refine g_iald C (s_row hq10 ad cy _) h17 dX2_ringAll_99 ?_
      obtain ⟨v18, ev18, hf⟩ := ol_e hf
      refine g_nm ev18 ?_
      refine g_iconst (v := 1) C dX2_ringAll_100 (by decide) ?_
      refine g_iadd C dX2_ringAll_101 ?_
      obtain ⟨v19, ev19, hf⟩ := ol_e hf
      refine g_nm ev19 ?_
      obtain ⟨h20, hf⟩ := og_e hf
      obtain ⟨σ21, eσ21, hf⟩ := ol_e hf
      refine g_iast C (s_row hq10 ad cy _) h20 (ws_row hq10 ad cy _) eσ21 dX2_ringAll_102 ?_
      exact g_sub [0, 1, 2] rfl (fX2_ringAll_b103_ok C sf_2 hs_2 sf_46 hs_46 σ21 x1 x2 hf)
def fX2_ringAll_h46 (sf_2 : S0 → Int32 → Option (Int32 × S0)) : Nat → S0 → Int32 → Int32 → Option (Int32 × S0)
  | 0 => fun _ _ _ => none
  | n + 1 => fun σ x1 x2 => fX2_ringAll_b46 sf_2 (fX2_ringAll_h46 sf_2 n) σ x1 x2
set_option maxHeartbeats 1000000 in
set_option maxRecDepth 100000 in
theorem fX2_ringAll_h46_ok {p : Program} {l : Launch} {e : Env} {s : State} {m : MethodId} {args : Array Value} {below : List Frame} {meth : Method} {c : Code} {dC : Nat → ClassId} {dI : Nat → Nat → Nat} {ad : Nat → Nat} {cy : Nat → ClassId} {sz : Nat} (C : Cx p s m args meth c RX2 cX2_ringAll 3 none dC dI ad cy sz) {rr : Int32} {ρ : S0} (sf_2 : S0 → Int32 → Option (Int32 × S0)) (hs_2 : ∀ (σ : S0) (x1 : Int32) , sf_2 σ x1 = some (rr, ρ) → Gw p l e rm_X2_ringAll s m args below meth c (MQ below (QcV dC dI ad cy sz ρ) args s 0 0 (AW ad sz)) dC dI ad cy 3 sz 0 0 2 [(0, .ref (ad 46)), (1, .int x1)] [] σ) : ∀ (n : Nat) (σ : S0) (x1 : Int32) (x2 : Int32)  (_hf : fX2_ringAll_h46 sf_2 n σ x1 x2 = some (rr, ρ)), Gw p l e rm_X2_ringAll s m args below meth c (MQ below (QcV dC dI ad cy sz ρ) args s 0 0 (AW ad sz)) dC dI ad cy 3 sz 0 0 46 [(0, .ref (ad 46)), (1, .int x1), (2, .int x2)] [] σ
  | 0, _, _, _, hf => by cases hf
  | n + 1, σ, x1, x2, hf => fX2_ringAll_b46_ok C sf_2 hs_2 (fX2_ringAll_h46 sf_2 n) (fX2_ringAll_h46_ok C sf_2 hs_2 n) σ x1 x2 hf
def fX2_ringAll_b2 (sf_2 : S0 → Int32 → Option (Int32 × S0)) (σ : S0) (x1 : Int32) : Option (Int32 × S0) := if (σ 22 2) ≤ x1 then (some (0, σ)) else (obp (fX6_play σ x1) (fun r2 σ3 => ol (σ3 40 2) (fun v5 => og (¬ (x1 < 0 ∨ 6 ≤ x1.toNatClampNeg)) (ol (su σ3 47 x1.toNatClampNeg v5) (fun σ7 => og (¬ (x1 < 0 ∨ 6 ≤ x1.toNatClampNeg)) (ol (49 + 1 * x1.toNatClampNeg) (fun q9 => obp (fJ7_fill_53178 σ7 6 q9 ((0 : Int32))) (fun r10 σ11 => fX2_ringAll_h46 sf_2 400 σ11 x1 0))))))))
set_option maxHeartbeats 1000000 in
set_option maxRecDepth 100000 in
theorem fX2_ringAll_b2_ok {p : Program} {l : Launch} {e : Env} {s : State} {m : MethodId} {args : Array Value} {below : List Frame} {meth : Method} {c : Code} {dC : Nat → ClassId} {dI : Nat → Nat → Nat} {ad : Nat → Nat} {cy : Nat → ClassId} {sz : Nat} (C : Cx p s m args meth c RX2 cX2_ringAll 3 none dC dI ad cy sz) {rr : Int32} {ρ : S0} (sf_2 : S0 → Int32 → Option (Int32 × S0)) (hs_2 : ∀ (σ : S0) (x1 : Int32) , sf_2 σ x1 = some (rr, ρ) → Gw p l e rm_X2_ringAll s m args below meth c (MQ below (QcV dC dI ad cy sz ρ) args s 0 0 (AW ad sz)) dC dI ad cy 3 sz 0 0 2 [(0, .ref (ad 46)), (1, .int x1)] [] σ) (σ : S0) (x1 : Int32)  (hf : fX2_ringAll_b2 sf_2 σ x1 = some (rr, ρ)) : Gw p l e rm_X2_ringAll s m args below meth c (MQ below (QcV dC dI ad cy sz ρ) args s 0 0 (AW ad sz)) dC dI ad cy 3 sz 0 0 2 [(0, .ref (ad 46)), (1, .int x1)] [] σ := by
  unfold fX2_ringAll_b2 at hf
  refine g_iload_n C dX2_ringAll_2 rfl 1 rfl ?_
  refine g_aload_n C dX2_ringAll_3 rfl 0 rfl ?_
  refine g_get C (a_46 ad cy _) rfl hin_X2 0 (by decide) hF_X2_20 rfl rfl dX2_ringAll_4 ?_
  refine g_get C (a_22 ad cy _) rfl hin_X9 2 (by decide) hF_X2_28 rfl rfl dX2_ringAll_7 ?_
  rcases oi_e hf with ⟨c1, hf⟩ | ⟨c1, hf⟩
  · refine g_icmp_ge_t (tgt := 115) C dX2_ringAll_10 (by decide) c1 ?_
    obtain ⟨rfl, rfl⟩ := os_e hf
    exact g_vret C rfl dX2_ringAll_115
  · refine g_icmp_ge_f (tgt := 115) C dX2_ringAll_10 (by decide) c1 ?_
    refine g_aload_n C dX2_ringAll_13 rfl 0 rfl ?_
    refine g_get C (a_46 ad cy _) rfl hin_X2 1 (by decide) hF_X2_24 rfl rfl dX2_ringAll_14 ?_
    refine g_iload_n C dX2_ringAll_17 rfl 1 rfl ?_
    obtain ⟨r2, σ3, h4, hf⟩ := obp_e hf
    refine g_callVv (As := [.int x1]) (rest := []) C (a_40 ad cy _) rfl (c_X6_play l dC dI ad cy x1) h4 hM_X2_34 cal_X6_play ⟨Nat.zero_le _, Nat.zero_le _⟩ ⟨rfl, rfl⟩ ⟨Nat.le_of_ble_eq_true rfl, Nat.le_of_ble_eq_true rfl⟩ rfl rfl (Nat.le_of_ble_eq_true rfl) dX2_ringAll_18 ?_
    refine g_aload_n C dX2_ringAll_21 rfl 0 rfl ?_
    refine g_get C (a_46 ad cy _) rfl hin_X2 2 (by decide) hF_X2_9 rfl rfl dX2_ringAll_22 ?_
    refine g_iload_n C dX2_ringAll_25 rfl 1 rfl ?_
    refine g_aload_n C dX2_ringAll_26 rfl 0 rfl ?_
    refine g_get C (a_46 ad cy _) rfl hin_X2 1 (by decide) hF_X2_24 rfl rfl dX2_ringAll_27 ?_
    refine g_get C (a_40 ad cy _) rfl hin_X6 2 (by decide) hF_X2_40 rfl rfl dX2_ringAll_30 ?_
    obtain ⟨v5, ev5, hf⟩ := ol_e hf
    refine g_nm ev5 ?_
    obtain ⟨h6, hf⟩ := og_e hf
    obtain ⟨σ7, eσ7, hf⟩ := ol_e hf
    refine g_iast C (a_47 ad cy _) h6 (w_47 ad cy _) eσ7 dX2_ringAll_33 ?_
    refine g_aload_n C dX2_ringAll_34 rfl 0 rfl ?_
    refine g_get C (a_46 ad cy _) rfl hin_X2 3 (by decide) hF_X2_17 rfl rfl dX2_ringAll_35 ?_
    refine g_iload_n C dX2_ringAll_38 rfl 1 rfl ?_
    obtain ⟨h8, hf⟩ := og_e hf
    obtain ⟨q9, eq9, hf⟩ := ol_e hf
    refine g_aald C (a_48 ad cy _) rfl rfl h8 dX2_ringAll_39 ?_
    refine g_nmr eq9 ?_
    have hq9 := (o_48 h8 eq9)
    refine g_iconst (v := 0) C dX2_ringAll_40 (by decide) ?_
    obtain ⟨r10, σ11, h12, hf⟩ := obp_e hf
    refine g_callSv (As := [.ref (ad q9), .int 0]) (rest := []) C (c_J7_fill_53178 l dC dI ad cy 6 q9 hq9 ((0 : Int32))) h12 hM_X2_43 cal_J7_fill_53178 ⟨Nat.zero_le _, Nat.zero_le _⟩ ⟨rfl, rfl⟩ ⟨Nat.le_of_ble_eq_true rfl, Nat.le_of_ble_eq_true rfl⟩ rfl rfl (Nat.le_of_ble_eq_true rfl) dX2_ringAll_41 ?_
    refine g_iconst (v := 0) C dX2_ringAll_44 (by decide) ?_
    refine g_istore_n (lv2 := [(0, .ref (ad 46)), (1, .int x1), (2, .int 0)]) C dX2_ringAll_45 rfl (by decide) [1, 2, 0] rfl ?_
    exact g_sub [0, 1, 2] rfl (fX2_ringAll_h46_ok C sf_2 hs_2 400 σ11 x1 0 hf)
def fX2_ringAll_h2  : Nat → S0 → Int32 → Option (Int32 × S0)
  | 0 => fun _ _ => none
  | n + 1 => fun σ x1 => fX2_ringAll_b2  (fX2_ringAll_h2  n) σ x1
set_option maxHeartbeats 1000000 in
set_option maxRecDepth 100000 in
theorem fX2_ringAll_h2_ok {p : Program} {l : Launch} {e : Env} {s : State} {m : MethodId} {args : Array Value} {below : List Frame} {meth : Method} {c : Code} {dC : Nat → ClassId} {dI : Nat → Nat → Nat} {ad : Nat → Nat} {cy : Nat → ClassId} {sz : Nat} (C : Cx p s m args meth c RX2 cX2_ringAll 3 none dC dI ad cy sz) {rr : Int32} {ρ : S0}  : ∀ (n : Nat) (σ : S0) (x1 : Int32)  (_hf : fX2_ringAll_h2  n σ x1 = some (rr, ρ)), Gw p l e rm_X2_ringAll s m args below meth c (MQ below (QcV dC dI ad cy sz ρ) args s 0 0 (AW ad sz)) dC dI ad cy 3 sz 0 0 2 [(0, .ref (ad 46)), (1, .int x1)] [] σ
  | 0, _, _, hf => by cases hf
  | n + 1, σ, x1, hf => fX2_ringAll_b2_ok C  (fX2_ringAll_h2  n) (fX2_ringAll_h2_ok C  n) σ x1 hf
def fX2_ringAll (σ : S0)  : Option (Int32 × S0) := fX2_ringAll_h2 400 σ 0
set_option maxHeartbeats 1000000 in
set_option maxRecDepth 100000 in
theorem fX2_ringAll_ok {p : Program} {l : Launch} {e : Env} {s : State} {m : MethodId} {args : Array Value} {below : List Frame} {meth : Method} {c : Code} {dC : Nat → ClassId} {dI : Nat → Nat → Nat} {ad : Nat → Nat} {cy : Nat → ClassId} {sz : Nat} (C : Cx p s m args meth c RX2 cX2_ringAll 3 none dC dI ad cy sz) {rr : Int32} {ρ : S0} (σ : S0)   (hf : fX2_ringAll σ = some (rr, ρ)) : Gw p l e rm_X2_ringAll s m args below meth c (MQ below (QcV dC dI ad cy sz ρ) args s 0 0 (AW ad sz)) dC dI ad cy 3 sz 0 0 0 [(0, .ref (ad 46))] [] σ := by
  unfold fX2_ringAll at hf
  refine g_iconst (v := 0) C dX2_ringAll_0 (by decide) ?_
  refine g_istore_n (lv2 := [(0, .ref (ad 46)), (1, .int 0)]) C dX2_ringAll_1 rfl (by decide) [1, 0] rfl ?_
  exact g_sub [0, 1] rfl (fX2_ringAll_h2_ok C 400 σ 0 hf)
theorem c_X2_ringAll (l : Launch) (dC : Nat → ClassId) (dI : Nat → Nat → Nat) (ad : Nat → Nat) (cy : Nat → ClassId)  : ConV l yX2_ringAll cX2_ringAll 3 none rm_X2_ringAll dC dI ad cy [.ref (ad 46)] (fun σ => fX2_ringAll σ) := con_v (own := RX2) (by decide) rfl (Nat.le_of_ble_eq_true rfl) (fun _ _ _ _ _ _ _ _ σ _ _ C hf => fX2_ringAll_ok C σ  hf)
theorem cal_X2_ringAll : CalV yX2_ringAll RX2 cX2_ringAll 3 none 0 := ⟨hI_X2_ringAll, hS_X2_ringAll, hIni_X2, hC_X2_ringAll, by decide +kernel⟩
abbrev rm_X2_strokesIn : Room := { frames := 0, cells := 0, slots := 0, locals := 0 }
def fX2_strokesIn_b38 (sf_5 : S0 → Int32 → Int32 → Int32 → Int32 → Option (Int32 × S0)) (σ : S0) (x1 : Int32) (x2 : Int32) (x3 : Int32) (x4 : Int32) : Option (Int32 × S0) := ol (x4 + 1) (fun v1 => sf_5 σ x1 x2 x3 v1)
set_option maxHeartbeats 1000000 in
set_option maxRecDepth 100000 in
theorem fX2_strokesIn_b38_ok {p : Program} {l : Launch} {e : Env} {s : State} {m : MethodId} {args : Array Value} {below : List Frame} {meth : Method} {c : Code} {dC : Nat → ClassId} {dI : Nat → Nat → Nat} {ad : Nat → Nat} {cy : Nat → ClassId} {sz : Nat} (C : Cx p s m args meth c RX2 cX2_strokesIn 5 (some .int) dC dI ad cy sz) {rr : Int32} {ρ : S0} (sf_5 : S0 → Int32 → Int32 → Int32 → Int32 → Option (Int32 × S0)) (hs_5 : ∀ (σ : S0) (x1 : Int32) (x2 : Int32) (x3 : Int32) (x4 : Int32) , sf_5 σ x1 x2 x3 x4 = some (rr, ρ) → Gw p l e rm_X2_strokesIn s m args below meth c (MQ below (QcI dC dI ad cy sz rr ρ) args s 0 0 (AW ad sz)) dC dI ad cy 5 sz 0 0 5 [(0, .ref (ad 46)), (1, .int x1), (2, .int x2), (3, .int x3), (4, .int x4)] [] σ) (σ : S0) (x1 : Int32) (x2 : Int32) (x3 : Int32) (x4 : Int32)  (hf : fX2_strokesIn_b38 sf_5 σ x1 x2 x3 x4 = some (rr, ρ)) : Gw p l e rm_X2_strokesIn s m args below meth c (MQ below (QcI dC dI ad cy sz rr ρ) args s 0 0 (AW ad sz)) dC dI ad cy 5 sz 0 0 38 [(0, .ref (ad 46)), (1, .int x1), (2, .int x2), (3, .int x3), (4, .int x4)] [] σ := by
  unfold fX2_strokesIn_b38 at hf
  obtain ⟨v1, ev1, hf⟩ := ol_e hf
  refine g_iinc (j := 4) (w := 1) (lv2 := [(0, .ref (ad 46)), (1, .int x1), (2, .int x2), (3, .int x3), (4, .int v1)]) C dX2_strokesIn_38 rfl (by decide) ev1 (by decide) [1, 2, 3, 4, 0] rfl ?_
  refine g_goto (tgt := 5) C dX2_strokesIn_41 (by decide) ?_
  exact g_sub [0, 1, 2, 3, 4] rfl (hs_5 σ x1 x2 x3 v1 hf)
def fX2_strokesIn_b5 (sf_5 : S0 → Int32 → Int32 → Int32 → Int32 → Option (Int32 × S0)) (σ : S0) (x1 : Int32) (x2 : Int32) (x3 : Int32) (x4 : Int32) : Option (Int32 × S0) := if (σ 22 2) ≤ x4 then (some (x3, σ)) else (if (x1 &&& ((1 : Int32) <<< (x4 &&& 31))) = 0 then (fX2_strokesIn_b38 sf_5 σ x1 x2 x3 x4) else (og (¬ (x4 < 0 ∨ 6 ≤ x4.toNatClampNeg)) (ol (49 + 1 * x4.toNatClampNeg) (fun q4 => og (¬ (x2 < 0 ∨ 6 ≤ x2.toNatClampNeg)) (ol (σ q4 x2.toNatClampNeg) (fun v6 => ol (x3 + v6) (fun v7 => fX2_strokesIn_b38 sf_5 σ x1 x2 v7 x4)))))))
set_option maxHeartbeats 1000000 in
set_option maxRecDepth 100000 in
theorem fX2_strokesIn_b5_ok {p : Program} {l : Launch} {e : Env} {s : State} {m : MethodId} {args : Array Value} {below : List Frame} {meth : Method} {c : Code} {dC : Nat → ClassId} {dI : Nat → Nat → Nat} {ad : Nat → Nat} {cy : Nat → ClassId} {sz : Nat} (C : Cx p s m args meth c RX2 cX2_strokesIn 5 (some .int) dC dI ad cy sz) {rr : Int32} {ρ : S0} (sf_5 : S0 → Int32 → Int32 → Int32 → Int32 → Option (Int32 × S0)) (hs_5 : ∀ (σ : S0) (x1 : Int32) (x2 : Int32) (x3 : Int32) (x4 : Int32) , sf_5 σ x1 x2 x3 x4 = some (rr, ρ) → Gw p l e rm_X2_strokesIn s m args below meth c (MQ below (QcI dC dI ad cy sz rr ρ) args s 0 0 (AW ad sz)) dC dI ad cy 5 sz 0 0 5 [(0, .ref (ad 46)), (1, .int x1), (2, .int x2), (3, .int x3), (4, .int x4)] [] σ) (σ : S0) (x1 : Int32) (x2 : Int32) (x3 : Int32) (x4 : Int32)  (hf : fX2_strokesIn_b5 sf_5 σ x1 x2 x3 x4 = some (rr, ρ)) : Gw p l e rm_X2_strokesIn s m args below meth c (MQ below (QcI dC dI ad cy sz rr ρ) args s 0 0 (AW ad sz)) dC dI ad cy 5 sz 0 0 5 [(0, .ref (ad 46)), (1, .int x1), (2, .int x2), (3, .int x3), (4, .int x4)] [] σ := by
  unfold fX2_strokesIn_b5 at hf
  refine g_iload C dX2_strokesIn_5 4 rfl ?_
  refine g_aload_n C dX2_strokesIn_7 rfl 0 rfl ?_
  refine g_get C (a_46 ad cy _) rfl hin_X2 0 (by decide) hF_X2_20 rfl rfl dX2_strokesIn_8 ?_
  refine g_get C (a_22 ad cy _) rfl hin_X9 2 (by decide) hF_X2_28 rfl rfl dX2_strokesIn_11 ?_
  rcases oi_e hf with ⟨c1, hf⟩ | ⟨c1, hf⟩
  · refine g_icmp_ge_t (tgt := 44) C dX2_strokesIn_14 (by decide) c1 ?_
    refine g_iload_n C dX2_strokesIn_44 rfl 3 rfl ?_
    obtain ⟨rfl, rfl⟩ := os_e hf
    exact g_iret C rfl dX2_strokesIn_45
  · refine g_icmp_ge_f (tgt := 44) C dX2_strokesIn_14 (by decide) c1 ?_
    refine g_iload_n C dX2_strokesIn_17 rfl 1 rfl ?_
    refine g_iconst (v := 1) C dX2_strokesIn_18 (by decide) ?_
    refine g_iload C dX2_strokesIn_19 4 rfl ?_
    refine g_ishl C dX2_strokesIn_21 ?_
    refine g_iand C dX2_strokesIn_22 ?_
    rcases oi_e hf with ⟨c2, hf⟩ | ⟨c2, hf⟩
    · refine g_if_eq_t (tgt := 38) C dX2_strokesIn_23 (by decide) c2 ?_
      exact g_sub [0, 1, 2, 3, 4] rfl (fX2_strokesIn_b38_ok C sf_5 hs_5 σ x1 x2 x3 x4 hf)
    · refine g_if_eq_f (tgt := 38) C dX2_strokesIn_23 (by decide) c2 ?_
      refine g_iload_n C dX2_strokesIn_26 rfl 3 rfl ?_
      refine g_aload_n C dX2_strokesIn_27 rfl 0 rfl ?_
      refine g_get C (a_46 ad cy _) rfl hin_X2 3 (by decide) hF_X2_17 rfl rfl dX2_strokesIn_28 ?_
      refine g_iload C dX2_strokesIn_31 4 rfl ?_
      obtain ⟨h3, hf⟩ := og_e hf
      obtain ⟨q4, eq4, hf⟩ := ol_e hf
      refine g_aald C (a_48 ad cy _) rfl rfl h3 dX2_strokesIn_33 ?_
      refine g_nmr eq4 ?_
      have hq4 := (o_48 h3 eq4)
      refine g_iload_n C dX2_strokesIn_34 rfl 2 rfl ?_
      obtain ⟨h5, hf⟩ := og_e hf
      refine g_iald C (s_row hq4 ad cy _) h5 dX2_strokesIn_35 ?_
      obtain ⟨v6, ev6, hf⟩ := ol_e hf
      refine g_nm ev6 ?_
      refine g_iadd C dX2_strokesIn_36 ?_
      obtain ⟨v7, ev7, hf⟩ := ol_e hf
      refine g_nm ev7 ?_
      refine g_istore_n (lv2 := [(0, .ref (ad 46)), (1, .int x1), (2, .int x2), (3, .int v7), (4, .int x4)]) C dX2_strokesIn_37 rfl (by decide) [1, 2, 3, 0, 4] rfl ?_
      exact g_sub [0, 1, 2, 3, 4] rfl (fX2_strokesIn_b38_ok C sf_5 hs_5 σ x1 x2 v7 x4 hf)
def fX2_strokesIn_h5  : Nat → S0 → Int32 → Int32 → Int32 → Int32 → Option (Int32 × S0)
  | 0 => fun _ _ _ _ _ => none
  | n + 1 => fun σ x1 x2 x3 x4 => fX2_strokesIn_b5  (fX2_strokesIn_h5  n) σ x1 x2 x3 x4
set_option maxHeartbeats 1000000 in
set_option maxRecDepth 100000 in
theorem fX2_strokesIn_h5_ok {p : Program} {l : Launch} {e : Env} {s : State} {m : MethodId} {args : Array Value} {below : List Frame} {meth : Method} {c : Code} {dC : Nat → ClassId} {dI : Nat → Nat → Nat} {ad : Nat → Nat} {cy : Nat → ClassId} {sz : Nat} (C : Cx p s m args meth c RX2 cX2_strokesIn 5 (some .int) dC dI ad cy sz) {rr : Int32} {ρ : S0}  : ∀ (n : Nat) (σ : S0) (x1 : Int32) (x2 : Int32) (x3 : Int32) (x4 : Int32)  (_hf : fX2_strokesIn_h5  n σ x1 x2 x3 x4 = some (rr, ρ)), Gw p l e rm_X2_strokesIn s m args below meth c (MQ below (QcI dC dI ad cy sz rr ρ) args s 0 0 (AW ad sz)) dC dI ad cy 5 sz 0 0 5 [(0, .ref (ad 46)), (1, .int x1), (2, .int x2), (3, .int x3), (4, .int x4)] [] σ
  | 0, _, _, _, _, _, hf => by cases hf
  | n + 1, σ, x1, x2, x3, x4, hf => fX2_strokesIn_b5_ok C  (fX2_strokesIn_h5  n) (fX2_strokesIn_h5_ok C  n) σ x1 x2 x3 x4 hf
def fX2_strokesIn (σ : S0) (x1 : Int32) (x2 : Int32) : Option (Int32 × S0) := fX2_strokesIn_h5 400 σ x1 x2 0 0
set_option maxHeartbeats 1000000 in
set_option maxRecDepth 100000 in
theorem fX2_strokesIn_ok {p : Program} {l : Launch} {e : Env} {s : State} {m : MethodId} {args : Array Value} {below : List Frame} {meth : Method} {c : Code} {dC : Nat → ClassId} {dI : Nat → Nat → Nat} {ad : Nat → Nat} {cy : Nat → ClassId} {sz : Nat} (C : Cx p s m args meth c RX2 cX2_strokesIn 5 (some .int) dC dI ad cy sz) {rr : Int32} {ρ : S0} (σ : S0) (x1 : Int32) (x2 : Int32)  (hf : fX2_strokesIn σ x1 x2 = some (rr, ρ)) : Gw p l e rm_X2_strokesIn s m args below meth c (MQ below (QcI dC dI ad cy sz rr ρ) args s 0 0 (AW ad sz)) dC dI ad cy 5 sz 0 0 0 [(0, .ref (ad 46)), (1, .int x1), (2, .int x2)] [] σ := by
  unfold fX2_strokesIn at hf
  refine g_iconst (v := 0) C dX2_strokesIn_0 (by decide) ?_
  refine g_istore_n (lv2 := [(0, .ref (ad 46)), (1, .int x1), (2, .int x2), (3, .int 0)]) C dX2_strokesIn_1 rfl (by decide) [1, 2, 3, 0] rfl ?_
  refine g_iconst (v := 0) C dX2_strokesIn_2 (by decide) ?_
  refine g_istore (lv2 := [(0, .ref (ad 46)), (1, .int x1), (2, .int x2), (3, .int 0), (4, .int 0)]) C dX2_strokesIn_3 (by decide) [1, 2, 3, 4, 0] rfl ?_
  exact g_sub [0, 1, 2, 3, 4] rfl (fX2_strokesIn_h5_ok C 400 σ x1 x2 0 0 hf)
theorem c_X2_strokesIn (l : Launch) (dC : Nat → ClassId) (dI : Nat → Nat → Nat) (ad : Nat → Nat) (cy : Nat → ClassId) (x1 : Int32) (x2 : Int32) : ConI l yX2_strokesIn cX2_strokesIn 5 (some .int) rm_X2_strokesIn dC dI ad cy [.ref (ad 46), .int x1, .int x2] (fun σ => fX2_strokesIn σ x1 x2) := con_i (own := RX2) (by decide) rfl (Nat.le_of_ble_eq_true rfl) (fun _ _ _ _ _ _ _ _ σ _ _ C hf => fX2_strokesIn_ok C σ x1 x2 hf)
theorem cal_X2_strokesIn : CalV yX2_strokesIn RX2 cX2_strokesIn 5 (some .int) 2 := ⟨hI_X2_strokesIn, hS_X2_strokesIn, hIni_X2, hC_X2_strokesIn, by decide +kernel⟩
abbrev rm_X2_strokesOf : Room := { frames := 1, cells := 0, slots := 0, locals := 24 }
def fX2_strokesOf (σ : S0) (x1 : Int32) : Option (Int32 × S0) := obp (fX2_strokesIn σ (((1 : Int32) <<< ((σ 22 2) &&& 31)) - 1) x1) (fun r1 σ2 => some (r1, σ2))
set_option maxHeartbeats 1000000 in
set_option maxRecDepth 100000 in
theorem fX2_strokesOf_ok {p : Program} {l : Launch} {e : Env} {s : State} {m : MethodId} {args : Array Value} {below : List Frame} {meth : Method} {c : Code} {dC : Nat → ClassId} {dI : Nat → Nat → Nat} {ad : Nat → Nat} {cy : Nat → ClassId} {sz : Nat} (C : Cx p s m args meth c RX2 cX2_strokesOf 2 (some .int) dC dI ad cy sz) {rr : Int32} {ρ : S0} (σ : S0) (x1 : Int32)  (hf : fX2_strokesOf σ x1 = some (rr, ρ)) : Gw p l e rm_X2_strokesOf s m args below meth c (MQ below (QcI dC dI ad cy sz rr ρ) args s 0 0 (AW ad sz)) dC dI ad cy 2 sz 0 0 0 [(0, .ref (ad 46)), (1, .int x1)] [] σ := by
  unfold fX2_strokesOf at hf
  refine g_aload_n C dX2_strokesOf_0 rfl 0 rfl ?_
  refine g_iconst (v := 1) C dX2_strokesOf_1 (by decide) ?_
  refine g_aload_n C dX2_strokesOf_2 rfl 0 rfl ?_
  refine g_get C (a_46 ad cy _) rfl hin_X2 0 (by decide) hF_X2_20 rfl rfl dX2_strokesOf_3 ?_
  refine g_get C (a_22 ad cy _) rfl hin_X9 2 (by decide) hF_X2_28 rfl rfl dX2_strokesOf_6 ?_
  refine g_ishl C dX2_strokesOf_9 ?_
  refine g_iconst (v := 1) C dX2_strokesOf_10 (by decide) ?_
  refine g_isub C dX2_strokesOf_11 ?_
  refine g_iload_n C dX2_strokesOf_12 rfl 1 rfl ?_
  obtain ⟨r1, σ2, h3, hf⟩ := obp_e hf
  refine g_callVi (As := [.int (((1 : Int32) <<< ((σ 22 2) &&& 31)) - 1), .int x1]) (rest := []) C (a_46 ad cy _) rfl (c_X2_strokesIn l dC dI ad cy (((1 : Int32) <<< ((σ 22 2) &&& 31)) - 1) x1) h3 hM_X2_68 cal_X2_strokesIn ⟨Nat.zero_le _, Nat.zero_le _⟩ ⟨rfl, rfl⟩ ⟨Nat.le_of_ble_eq_true rfl, Nat.le_of_ble_eq_true rfl⟩ rfl rfl (Nat.le_of_ble_eq_true rfl) dX2_strokesOf_13 ?_
  obtain ⟨rfl, rfl⟩ := os_e hf
  exact g_iret C rfl dX2_strokesOf_16
theorem c_X2_strokesOf (l : Launch) (dC : Nat → ClassId) (dI : Nat → Nat → Nat) (ad : Nat → Nat) (cy : Nat → ClassId) (x1 : Int32) : ConI l yX2_strokesOf cX2_strokesOf 2 (some .int) rm_X2_strokesOf dC dI ad cy [.ref (ad 46), .int x1] (fun σ => fX2_strokesOf σ x1) := con_i (own := RX2) (by decide) rfl (Nat.le_of_ble_eq_true rfl) (fun _ _ _ _ _ _ _ _ σ _ _ C hf => fX2_strokesOf_ok C σ x1 hf)
theorem cal_X2_strokesOf : CalV yX2_strokesOf RX2 cX2_strokesOf 2 (some .int) 1 := ⟨hI_X2_strokesOf, hS_X2_strokesOf, hIni_X2, hC_X2_strokesOf, by decide +kernel⟩
abbrev rm_X2_isWithin : Room := { frames := 1, cells := 0, slots := 0, locals := 24 }
def fX2_isWithin_b2 (sf_2 : S0 → Int32 → Int32 → Int32 → Option (Int32 × S0)) (σ : S0) (x1 : Int32) (x2 : Int32) (x3 : Int32) : Option (Int32 × S0) := if (σ 22 0) ≤ x3 then (some (1, σ)) else (obp (fX2_strokesIn σ x1 x3) (fun r2 σ3 => if r2 ≤ x2 then (ol (x3 + 1) (fun v6 => sf_2 σ3 x1 x2 v6)) else (some (0, σ3))))
set_option maxHeartbeats 1000000 in
set_option maxRecDepth 100000 in
theorem fX2_isWithin_b2_ok {p : Program} {l : Launch} {e : Env} {s : State} {m : MethodId} {args : Array Value} {below : List Frame} {meth : Method} {c : Code} {dC : Nat → ClassId} {dI : Nat → Nat → Nat} {ad : Nat → Nat} {cy : Nat → ClassId} {sz : Nat} (C : Cx p s m args meth c RX2 cX2_isWithin 4 (some .boolean) dC dI ad cy sz) {rr : Int32} {ρ : S0} (sf_2 : S0 → Int32 → Int32 → Int32 → Option (Int32 × S0)) (hs_2 : ∀ (σ : S0) (x1 : Int32) (x2 : Int32) (x3 : Int32) , sf_2 σ x1 x2 x3 = some (rr, ρ) → Gw p l e rm_X2_isWithin s m args below meth c (MQ below (QcI dC dI ad cy sz rr ρ) args s 0 0 (AW ad sz)) dC dI ad cy 4 sz 0 0 2 [(0, .ref (ad 46)), (1, .int x1), (2, .int x2), (3, .int x3)] [] σ) (σ : S0) (x1 : Int32) (x2 : Int32) (x3 : Int32)  (hf : fX2_isWithin_b2 sf_2 σ x1 x2 x3 = some (rr, ρ)) : Gw p l e rm_X2_isWithin s m args below meth c (MQ below (QcI dC dI ad cy sz rr ρ) args s 0 0 (AW ad sz)) dC dI ad cy 4 sz 0 0 2 [(0, .ref (ad 46)), (1, .int x1), (2, .int x2), (3, .int x3)] [] σ := by
  unfold fX2_isWithin_b2 at hf
  refine g_iload_n C dX2_isWithin_2 rfl 3 rfl ?_
  refine g_aload_n C dX2_isWithin_3 rfl 0 rfl ?_
  refine g_get C (a_46 ad cy _) rfl hin_X2 0 (by decide) hF_X2_20 rfl rfl dX2_isWithin_4 ?_
  refine g_get C (a_22 ad cy _) rfl hin_X9 0 (by decide) hF_X2_90 rfl rfl dX2_isWithin_7 ?_
  rcases oi_e hf with ⟨c1, hf⟩ | ⟨c1, hf⟩
  · refine g_icmp_ge_t (tgt := 31) C dX2_isWithin_10 (by decide) c1 ?_
    refine g_iconst (v := 1) C dX2_isWithin_31 (by decide) ?_
    obtain ⟨rfl, rfl⟩ := os_e hf
    exact g_zret C rfl (by decide) dX2_isWithin_32
  · refine g_icmp_ge_f (tgt := 31) C dX2_isWithin_10 (by decide) c1 ?_
    refine g_aload_n C dX2_isWithin_13 rfl 0 rfl ?_
    refine g_iload_n C dX2_isWithin_14 rfl 1 rfl ?_
    refine g_iload_n C dX2_isWithin_15 rfl 3 rfl ?_
    obtain ⟨r2, σ3, h4, hf⟩ := obp_e hf
    refine g_callVi (As := [.int x1, .int x3]) (rest := []) C (a_46 ad cy _) rfl (c_X2_strokesIn l dC dI ad cy x1 x3) h4 hM_X2_68 cal_X2_strokesIn ⟨Nat.zero_le _, Nat.zero_le _⟩ ⟨rfl, rfl⟩ ⟨Nat.le_of_ble_eq_true rfl, Nat.le_of_ble_eq_true rfl⟩ rfl rfl (Nat.le_of_ble_eq_true rfl) dX2_isWithin_16 ?_
    refine g_iload_n C dX2_isWithin_19 rfl 2 rfl ?_
    rcases oi_e hf with ⟨c5, hf⟩ | ⟨c5, hf⟩
    · refine g_icmp_le_t (tgt := 25) C dX2_isWithin_20 (by decide) c5 ?_
      obtain ⟨v6, ev6, hf⟩ := ol_e hf
      refine g_iinc (j := 3) (w := 1) (lv2 := [(0, .ref (ad 46)), (1, .int x1), (2, .int x2), (3, .int v6)]) C dX2_isWithin_25 rfl (by decide) ev6 (by decide) [1, 2, 3, 0] rfl ?_
      refine g_goto (tgt := 2) C dX2_isWithin_28 (by decide) ?_
      exact g_sub [0, 1, 2, 3] rfl (hs_2 σ3 x1 x2 v6 hf)
    · refine g_icmp_le_f (tgt := 25) C dX2_isWithin_20 (by decide) c5 ?_
      refine g_iconst (v := 0) C dX2_isWithin_23 (by decide) ?_
      obtain ⟨rfl, rfl⟩ := os_e hf
      exact g_zret C rfl (by decide) dX2_isWithin_24
def fX2_isWithin_h2  : Nat → S0 → Int32 → Int32 → Int32 → Option (Int32 × S0)
  | 0 => fun _ _ _ _ => none
  | n + 1 => fun σ x1 x2 x3 => fX2_isWithin_b2  (fX2_isWithin_h2  n) σ x1 x2 x3
set_option maxHeartbeats 1000000 in
set_option maxRecDepth 100000 in
theorem fX2_isWithin_h2_ok {p : Program} {l : Launch} {e : Env} {s : State} {m : MethodId} {args : Array Value} {below : List Frame} {meth : Method} {c : Code} {dC : Nat → ClassId} {dI : Nat → Nat → Nat} {ad : Nat → Nat} {cy : Nat → ClassId} {sz : Nat} (C : Cx p s m args meth c RX2 cX2_isWithin 4 (some .boolean) dC dI ad cy sz) {rr : Int32} {ρ : S0}  : ∀ (n : Nat) (σ : S0) (x1 : Int32) (x2 : Int32) (x3 : Int32)  (_hf : fX2_isWithin_h2  n σ x1 x2 x3 = some (rr, ρ)), Gw p l e rm_X2_isWithin s m args below meth c (MQ below (QcI dC dI ad cy sz rr ρ) args s 0 0 (AW ad sz)) dC dI ad cy 4 sz 0 0 2 [(0, .ref (ad 46)), (1, .int x1), (2, .int x2), (3, .int x3)] [] σ
  | 0, _, _, _, _, hf => by cases hf
  | n + 1, σ, x1, x2, x3, hf => fX2_isWithin_b2_ok C  (fX2_isWithin_h2  n) (fX2_isWithin_h2_ok C  n) σ x1 x2 x3 hf
def fX2_isWithin (σ : S0) (x1 : Int32) (x2 : Int32) : Option (Int32 × S0) := fX2_isWithin_h2 400 σ x1 x2 0
set_option maxHeartbeats 1000000 in
set_option maxRecDepth 100000 in
theorem fX2_isWithin_ok {p : Program} {l : Launch} {e : Env} {s : State} {m : MethodId} {args : Array Value} {below : List Frame} {meth : Method} {c : Code} {dC : Nat → ClassId} {dI : Nat → Nat → Nat} {ad : Nat → Nat} {cy : Nat → ClassId} {sz : Nat} (C : Cx p s m args meth c RX2 cX2_isWithin 4 (some .boolean) dC dI ad cy sz) {rr : Int32} {ρ : S0} (σ : S0) (x1 : Int32) (x2 : Int32)  (hf : fX2_isWithin σ x1 x2 = some (rr, ρ)) : Gw p l e rm_X2_isWithin s m args below meth c (MQ below (QcI dC dI ad cy sz rr ρ) args s 0 0 (AW ad sz)) dC dI ad cy 4 sz 0 0 0 [(0, .ref (ad 46)), (1, .int x1), (2, .int x2)] [] σ := by
  unfold fX2_isWithin at hf
  refine g_iconst (v := 0) C dX2_isWithin_0 (by decide) ?_
  refine g_istore_n (lv2 := [(0, .ref (ad 46)), (1, .int x1), (2, .int x2), (3, .int 0)]) C dX2_isWithin_1 rfl (by decide) [1, 2, 3, 0] rfl ?_
  exact g_sub [0, 1, 2, 3] rfl (fX2_isWithin_h2_ok C 400 σ x1 x2 0 hf)
theorem c_X2_isWithin (l : Launch) (dC : Nat → ClassId) (dI : Nat → Nat → Nat) (ad : Nat → Nat) (cy : Nat → ClassId) (x1 : Int32) (x2 : Int32) : ConI l yX2_isWithin cX2_isWithin 4 (some .boolean) rm_X2_isWithin dC dI ad cy [.ref (ad 46), .int x1, .int x2] (fun σ => fX2_isWithin σ x1 x2) := con_i (own := RX2) (by decide) rfl (Nat.le_of_ble_eq_true rfl) (fun _ _ _ _ _ _ _ _ σ _ _ C hf => fX2_isWithin_ok C σ x1 x2 hf)
theorem cal_X2_isWithin : CalV yX2_isWithin RX2 cX2_isWithin 4 (some .boolean) 2 := ⟨hI_X2_isWithin, hS_X2_isWithin, hIni_X2, hC_X2_isWithin, by decide +kernel⟩
abbrev rm_X2_costOf : Room := { frames := 0, cells := 0, slots := 0, locals := 0 }
def fX2_costOf_b32 (sf_4 : S0 → Int32 → Int32 → Int32 → Option (Int32 × S0)) (σ : S0) (x1 : Int32) (x2 : Int32) (x3 : Int32) : Option (Int32 × S0) := ol (x3 + 1) (fun v1 => sf_4 σ x1 x2 v1)
set_option maxHeartbeats 1000000 in
set_option maxRecDepth 100000 in
theorem fX2_costOf_b32_ok {p : Program} {l : Launch} {e : Env} {s : State} {m : MethodId} {args : Array Value} {below : List Frame} {meth : Method} {c : Code} {dC : Nat → ClassId} {dI : Nat → Nat → Nat} {ad : Nat → Nat} {cy : Nat → ClassId} {sz : Nat} (C : Cx p s m args meth c RX2 cX2_costOf 4 (some .int) dC dI ad cy sz) {rr : Int32} {ρ : S0} (sf_4 : S0 → Int32 → Int32 → Int32 → Option (Int32 × S0)) (hs_4 : ∀ (σ : S0) (x1 : Int32) (x2 : Int32) (x3 : Int32) , sf_4 σ x1 x2 x3 = some (rr, ρ) → Gw p l e rm_X2_costOf s m args below meth c (MQ below (QcI dC dI ad cy sz rr ρ) args s 0 0 (AW ad sz)) dC dI ad cy 4 sz 0 0 4 [(0, .ref (ad 46)), (1, .int x1), (2, .int x2), (3, .int x3)] [] σ) (σ : S0) (x1 : Int32) (x2 : Int32) (x3 : Int32)  (hf : fX2_costOf_b32 sf_4 σ x1 x2 x3 = some (rr, ρ)) : Gw p l e rm_X2_costOf s m args below meth c (MQ below (QcI dC dI ad cy sz rr ρ) args s 0 0 (AW ad sz)) dC dI ad cy 4 sz 0 0 32 [(0, .ref (ad 46)), (1, .int x1), (2, .int x2), (3, .int x3)] [] σ := by
  unfold fX2_costOf_b32 at hf
  obtain ⟨v1, ev1, hf⟩ := ol_e hf
  refine g_iinc (j := 3) (w := 1) (lv2 := [(0, .ref (ad 46)), (1, .int x1), (2, .int x2), (3, .int v1)]) C dX2_costOf_32 rfl (by decide) ev1 (by decide) [1, 2, 3, 0] rfl ?_
  refine g_goto (tgt := 4) C dX2_costOf_35 (by decide) ?_
  exact g_sub [0, 1, 2, 3] rfl (hs_4 σ x1 x2 v1 hf)
def fX2_costOf_b4 (sf_4 : S0 → Int32 → Int32 → Int32 → Option (Int32 × S0)) (σ : S0) (x1 : Int32) (x2 : Int32) (x3 : Int32) : Option (Int32 × S0) := if (σ 22 2) ≤ x3 then (some (x2, σ)) else (if (x1 &&& ((1 : Int32) <<< (x3 &&& 31))) = 0 then (fX2_costOf_b32 sf_4 σ x1 x2 x3) else (og (¬ (x3 < 0 ∨ 6 ≤ x3.toNatClampNeg)) (ol (σ 47 x3.toNatClampNeg) (fun v4 => ol (x2 + v4) (fun v5 => fX2_costOf_b32 sf_4 σ x1 v5 x3)))))
set_option maxHeartbeats 1000000 in
set_option maxRecDepth 100000 in
theorem fX2_costOf_b4_ok {p : Program} {l : Launch} {e : Env} {s : State} {m : MethodId} {args : Array Value} {below : List Frame} {meth : Method} {c : Code} {dC : Nat → ClassId} {dI : Nat → Nat → Nat} {ad : Nat → Nat} {cy : Nat → ClassId} {sz : Nat} (C : Cx p s m args meth c RX2 cX2_costOf 4 (some .int) dC dI ad cy sz) {rr : Int32} {ρ : S0} (sf_4 : S0 → Int32 → Int32 → Int32 → Option (Int32 × S0)) (hs_4 : ∀ (σ : S0) (x1 : Int32) (x2 : Int32) (x3 : Int32) , sf_4 σ x1 x2 x3 = some (rr, ρ) → Gw p l e rm_X2_costOf s m args below meth c (MQ below (QcI dC dI ad cy sz rr ρ) args s 0 0 (AW ad sz)) dC dI ad cy 4 sz 0 0 4 [(0, .ref (ad 46)), (1, .int x1), (2, .int x2), (3, .int x3)] [] σ) (σ : S0) (x1 : Int32) (x2 : Int32) (x3 : Int32)  (hf : fX2_costOf_b4 sf_4 σ x1 x2 x3 = some (rr, ρ)) : Gw p l e rm_X2_costOf s m args below meth c (MQ below (QcI dC dI ad cy sz rr ρ) args s 0 0 (AW ad sz)) dC dI ad cy 4 sz 0 0 4 [(0, .ref (ad 46)), (1, .int x1), (2, .int x2), (3, .int x3)] [] σ := by
  unfold fX2_costOf_b4 at hf
  refine g_iload_n C dX2_costOf_4 rfl 3 rfl ?_
  refine g_aload_n C dX2_costOf_5 rfl 0 rfl ?_
  refine g_get C (a_46 ad cy _) rfl hin_X2 0 (by decide) hF_X2_20 rfl rfl dX2_costOf_6 ?_
  refine g_get C (a_22 ad cy _) rfl hin_X9 2 (by decide) hF_X2_28 rfl rfl dX2_costOf_9 ?_
  rcases oi_e hf with ⟨c1, hf⟩ | ⟨c1, hf⟩
  · refine g_icmp_ge_t (tgt := 38) C dX2_costOf_12 (by decide) c1 ?_
    refine g_iload_n C dX2_costOf_38 rfl 2 rfl ?_
    obtain ⟨rfl, rfl⟩ := os_e hf
    exact g_iret C rfl dX2_costOf_39
  · refine g_icmp_ge_f (tgt := 38) C dX2_costOf_12 (by decide) c1 ?_
    refine g_iload_n C dX2_costOf_15 rfl 1 rfl ?_
    refine g_iconst (v := 1) C dX2_costOf_16 (by decide) ?_
    refine g_iload_n C dX2_costOf_17 rfl 3 rfl ?_
    refine g_ishl C dX2_costOf_18 ?_
    refine g_iand C dX2_costOf_19 ?_
    rcases oi_e hf with ⟨c2, hf⟩ | ⟨c2, hf⟩
    · refine g_if_eq_t (tgt := 32) C dX2_costOf_20 (by decide) c2 ?_
      exact g_sub [0, 1, 2, 3] rfl (fX2_costOf_b32_ok C sf_4 hs_4 σ x1 x2 x3 hf)
    · refine g_if_eq_f (tgt := 32) C dX2_costOf_20 (by decide) c2 ?_
      refine g_iload_n C dX2_costOf_23 rfl 2 rfl ?_
      refine g_aload_n C dX2_costOf_24 rfl 0 rfl ?_
      refine g_get C (a_46 ad cy _) rfl hin_X2 2 (by decide) hF_X2_9 rfl rfl dX2_costOf_25 ?_
      refine g_iload_n C dX2_costOf_28 rfl 3 rfl ?_
      obtain ⟨h3, hf⟩ := og_e hf
      refine g_iald C (a_47 ad cy _) h3 dX2_costOf_29 ?_
      obtain ⟨v4, ev4, hf⟩ := ol_e hf
      refine g_nm ev4 ?_
      refine g_iadd C dX2_costOf_30 ?_
      obtain ⟨v5, ev5, hf⟩ := ol_e hf
      refine g_nm ev5 ?_
      refine g_istore_n (lv2 := [(0, .ref (ad 46)), (1, .int x1), (2, .int v5), (3, .int x3)]) C dX2_costOf_31 rfl (by decide) [1, 2, 0, 3] rfl ?_
      exact g_sub [0, 1, 2, 3] rfl (fX2_costOf_b32_ok C sf_4 hs_4 σ x1 v5 x3 hf)
def fX2_costOf_h4  : Nat → S0 → Int32 → Int32 → Int32 → Option (Int32 × S0)
  | 0 => fun _ _ _ _ => none
  | n + 1 => fun σ x1 x2 x3 => fX2_costOf_b4  (fX2_costOf_h4  n) σ x1 x2 x3
set_option maxHeartbeats 1000000 in
set_option maxRecDepth 100000 in
theorem fX2_costOf_h4_ok {p : Program} {l : Launch} {e : Env} {s : State} {m : MethodId} {args : Array Value} {below : List Frame} {meth : Method} {c : Code} {dC : Nat → ClassId} {dI : Nat → Nat → Nat} {ad : Nat → Nat} {cy : Nat → ClassId} {sz : Nat} (C : Cx p s m args meth c RX2 cX2_costOf 4 (some .int) dC dI ad cy sz) {rr : Int32} {ρ : S0}  : ∀ (n : Nat) (σ : S0) (x1 : Int32) (x2 : Int32) (x3 : Int32)  (_hf : fX2_costOf_h4  n σ x1 x2 x3 = some (rr, ρ)), Gw p l e rm_X2_costOf s m args below meth c (MQ below (QcI dC dI ad cy sz rr ρ) args s 0 0 (AW ad sz)) dC dI ad cy 4 sz 0 0 4 [(0, .ref (ad 46)), (1, .int x1), (2, .int x2), (3, .int x3)] [] σ
  | 0, _, _, _, _, hf => by cases hf
  | n + 1, σ, x1, x2, x3, hf => fX2_costOf_b4_ok C  (fX2_costOf_h4  n) (fX2_costOf_h4_ok C  n) σ x1 x2 x3 hf
def fX2_costOf (σ : S0) (x1 : Int32) : Option (Int32 × S0) := fX2_costOf_h4 400 σ x1 0 0
set_option maxHeartbeats 1000000 in
set_option maxRecDepth 100000 in
theorem fX2_costOf_ok {p : Program} {l : Launch} {e : Env} {s : State} {m : MethodId} {args : Array Value} {below : List Frame} {meth : Method} {c : Code} {dC : Nat → ClassId} {dI : Nat → Nat → Nat} {ad : Nat → Nat} {cy : Nat → ClassId} {sz : Nat} (C : Cx p s m args meth c RX2 cX2_costOf 4 (some .int) dC dI ad cy sz) {rr : Int32} {ρ : S0} (σ : S0) (x1 : Int32)  (hf : fX2_costOf σ x1 = some (rr, ρ)) : Gw p l e rm_X2_costOf s m args below meth c (MQ below (QcI dC dI ad cy sz rr ρ) args s 0 0 (AW ad sz)) dC dI ad cy 4 sz 0 0 0 [(0, .ref (ad 46)), (1, .int x1)] [] σ := by
  unfold fX2_costOf at hf
  refine g_iconst (v := 0) C dX2_costOf_0 (by decide) ?_
  refine g_istore_n (lv2 := [(0, .ref (ad 46)), (1, .int x1), (2, .int 0)]) C dX2_costOf_1 rfl (by decide) [1, 2, 0] rfl ?_
  refine g_iconst (v := 0) C dX2_costOf_2 (by decide) ?_
  refine g_istore_n (lv2 := [(0, .ref (ad 46)), (1, .int x1), (2, .int 0), (3, .int 0)]) C dX2_costOf_3 rfl (by decide) [1, 2, 3, 0] rfl ?_
  exact g_sub [0, 1, 2, 3] rfl (fX2_costOf_h4_ok C 400 σ x1 0 0 hf)
theorem c_X2_costOf (l : Launch) (dC : Nat → ClassId) (dI : Nat → Nat → Nat) (ad : Nat → Nat) (cy : Nat → ClassId) (x1 : Int32) : ConI l yX2_costOf cX2_costOf 4 (some .int) rm_X2_costOf dC dI ad cy [.ref (ad 46), .int x1] (fun σ => fX2_costOf σ x1) := con_i (own := RX2) (by decide) rfl (Nat.le_of_ble_eq_true rfl) (fun _ _ _ _ _ _ _ _ σ _ _ C hf => fX2_costOf_ok C σ x1 hf)
theorem cal_X2_costOf : CalV yX2_costOf RX2 cX2_costOf 4 (some .int) 1 := ⟨hI_X2_costOf, hS_X2_costOf, hIni_X2, hC_X2_costOf, by decide +kernel⟩
abbrev rm_X2_choose : Room := { frames := 2, cells := 0, slots := 0, locals := 48 }
def fX2_choose_b75 (sf_11 : S0 → Int32 → Int32 → Int32 → Option (Int32 × S0)) (σ : S0) (x1 : Int32) (x2 : Int32) (x3 : Int32) : Option (Int32 × S0) := ol (x3 + 1) (fun v1 => sf_11 σ x1 x2 v1)
set_option maxHeartbeats 1000000 in
set_option maxRecDepth 100000 in
theorem fX2_choose_b75_ok {p : Program} {l : Launch} {e : Env} {s : State} {m : MethodId} {args : Array Value} {below : List Frame} {meth : Method} {c : Code} {dC : Nat → ClassId} {dI : Nat → Nat → Nat} {ad : Nat → Nat} {cy : Nat → ClassId} {sz : Nat} (C : Cx p s m args meth c RX2 cX2_choose 5 none dC dI ad cy sz) {rr : Int32} {ρ : S0} (sf_11 : S0 → Int32 → Int32 → Int32 → Option (Int32 × S0)) (hs_11 : ∀ (σ : S0) (x1 : Int32) (x2 : Int32) (x3 : Int32) , sf_11 σ x1 x2 x3 = some (rr, ρ) → Gw p l e rm_X2_choose s m args below meth c (MQ below (QcV dC dI ad cy sz ρ) args s 0 0 (AW ad sz)) dC dI ad cy 5 sz 0 0 11 [(0, .ref (ad 46)), (1, .int x1), (2, .int x2), (3, .int x3)] [] σ) (σ : S0) (x1 : Int32) (x2 : Int32) (x3 : Int32)  (hf : fX2_choose_b75 sf_11 σ x1 x2 x3 = some (rr, ρ)) : Gw p l e rm_X2_choose s m args below meth c (MQ below (QcV dC dI ad cy sz ρ) args s 0 0 (AW ad sz)) dC dI ad cy 5 sz 0 0 75 [(0, .ref (ad 46)), (1, .int x1), (2, .int x2), (3, .int x3)] [] σ := by
  unfold fX2_choose_b75 at hf
  obtain ⟨v1, ev1, hf⟩ := ol_e hf
  refine g_iinc (j := 3) (w := 1) (lv2 := [(0, .ref (ad 46)), (1, .int x1), (2, .int x2), (3, .int v1)]) C dX2_choose_75 rfl (by decide) ev1 (by decide) [1, 2, 3, 0] rfl ?_
  refine g_goto (tgt := 11) C dX2_choose_78 (by decide) ?_
  exact g_sub [0, 1, 2, 3] rfl (hs_11 σ x1 x2 v1 hf)
def fX2_choose_b64 (sf_11 : S0 → Int32 → Int32 → Int32 → Option (Int32 × S0)) (σ : S0) (x1 : Int32) (x2 : Int32) (x3 : Int32) (x4 : Int32) : Option (Int32 × S0) := ol (su σ 46 5 x3) (fun σ1 => ol (su σ1 46 4 x4) (fun σ2 => fX2_choose_b75 sf_11 σ2 x1 x2 x3))
set_option maxHeartbeats 1000000 in
set_option maxRecDepth 100000 in
theorem fX2_choose_b64_ok {p : Program} {l : Launch} {e : Env} {s : State} {m : MethodId} {args : Array Value} {below : List Frame} {meth : Method} {c : Code} {dC : Nat → ClassId} {dI : Nat → Nat → Nat} {ad : Nat → Nat} {cy : Nat → ClassId} {sz : Nat} (C : Cx p s m args meth c RX2 cX2_choose 5 none dC dI ad cy sz) {rr : Int32} {ρ : S0} (sf_11 : S0 → Int32 → Int32 → Int32 → Option (Int32 × S0)) (hs_11 : ∀ (σ : S0) (x1 : Int32) (x2 : Int32) (x3 : Int32) , sf_11 σ x1 x2 x3 = some (rr, ρ) → Gw p l e rm_X2_choose s m args below meth c (MQ below (QcV dC dI ad cy sz ρ) args s 0 0 (AW ad sz)) dC dI ad cy 5 sz 0 0 11 [(0, .ref (ad 46)), (1, .int x1), (2, .int x2), (3, .int x3)] [] σ) (σ : S0) (x1 : Int32) (x2 : Int32) (x3 : Int32) (x4 : Int32)  (hf : fX2_choose_b64 sf_11 σ x1 x2 x3 x4 = some (rr, ρ)) : Gw p l e rm_X2_choose s m args below meth c (MQ below (QcV dC dI ad cy sz ρ) args s 0 0 (AW ad sz)) dC dI ad cy 5 sz 0 0 64 [(0, .ref (ad 46)), (1, .int x1), (2, .int x2), (3, .int x3), (4, .int x4)] [] σ := by
  unfold fX2_choose_b64 at hf
  refine g_aload_n C dX2_choose_64 rfl 0 rfl ?_
  refine g_iload_n C dX2_choose_65 rfl 3 rfl ?_
  obtain ⟨σ1, eσ1, hf⟩ := ol_e hf
  refine g_put (ty := .int) C (a_46 ad cy _) rfl hin_X2 tyX2 tyX2_ok nmX2 5 (by decide) hF_X2_75 rfl rfl (by decide +kernel) rfl rfl (Nat.le_of_ble_eq_true rfl) (p_46_5 ad cy _ _) eσ1 dX2_choose_66 ?_
  refine g_aload_n C dX2_choose_69 rfl 0 rfl ?_
  refine g_iload C dX2_choose_70 4 rfl ?_
  obtain ⟨σ2, eσ2, hf⟩ := ol_e hf
  refine g_put (ty := .int) C (a_46 ad cy _) rfl hin_X2 tyX2 tyX2_ok nmX2 4 (by decide) hF_X2_89 rfl rfl (by decide +kernel) rfl rfl (Nat.le_of_ble_eq_true rfl) (p_46_4 ad cy _ _) eσ2 dX2_choose_72 ?_
  exact g_sub [0, 1, 2, 3] rfl (fX2_choose_b75_ok C sf_11 hs_11 σ2 x1 x2 x3 hf)
def fX2_choose_b11 (sf_11 : S0 → Int32 → Int32 → Int32 → Option (Int32 × S0)) (σ : S0) (x1 : Int32) (x2 : Int32) (x3 : Int32) : Option (Int32 × S0) := if ((1 : Int32) <<< ((σ 22 2) &&& 31)) ≤ x3 then (some (0, σ)) else (obp (fJ6_bitCount_0f7a4 σ x3) (fun r2 σ3 => if ¬ r2 = x1 then (fX2_choose_b75 sf_11 σ3 x1 x2 x3) else (obp (fX2_isWithin σ3 x3 x2) (fun r6 σ7 => if r6 = 0 then (fX2_choose_b75 sf_11 σ7 x1 x2 x3) else (obp (fX2_costOf σ7 x3) (fun r10 σ11 => if (σ11 46 5) = 0 then (fX2_choose_b64 sf_11 σ11 x1 x2 x3 r10) else (if (σ11 46 4) ≤ r10 then (fX2_choose_b75 sf_11 σ11 x1 x2 x3) else (fX2_choose_b64 sf_11 σ11 x1 x2 x3 r10))))))))
set_option maxHeartbeats 1000000 in
set_option maxRecDepth 100000 in
theorem fX2_choose_b11_ok {p : Program} {l : Launch} {e : Env} {s : State} {m : MethodId} {args : Array Value} {below : List Frame} {meth : Method} {c : Code} {dC : Nat → ClassId} {dI : Nat → Nat → Nat} {ad : Nat → Nat} {cy : Nat → ClassId} {sz : Nat} (C : Cx p s m args meth c RX2 cX2_choose 5 none dC dI ad cy sz) {rr : Int32} {ρ : S0} (sf_11 : S0 → Int32 → Int32 → Int32 → Option (Int32 × S0)) (hs_11 : ∀ (σ : S0) (x1 : Int32) (x2 : Int32) (x3 : Int32) , sf_11 σ x1 x2 x3 = some (rr, ρ) → Gw p l e rm_X2_choose s m args below meth c (MQ below (QcV dC dI ad cy sz ρ) args s 0 0 (AW ad sz)) dC dI ad cy 5 sz 0 0 11 [(0, .ref (ad 46)), (1, .int x1), (2, .int x2), (3, .int x3)] [] σ) (σ : S0) (x1 : Int32) (x2 : Int32) (x3 : Int32)  (hf : fX2_choose_b11 sf_11 σ x1 x2 x3 = some (rr, ρ)) : Gw p l e rm_X2_choose s m args below meth c (MQ below (QcV dC dI ad cy sz ρ) args s 0 0 (AW ad sz)) dC dI ad cy 5 sz 0 0 11 [(0, .ref (ad 46)), (1, .int x1), (2, .int x2), (3, .int x3)] [] σ := by
  unfold fX2_choose_b11 at hf
  refine g_iload_n C dX2_choose_11 rfl 3 rfl ?_
  refine g_iconst (v := 1) C dX2_choose_12 (by decide) ?_
  refine g_aload_n C dX2_choose_13 rfl 0 rfl ?_
  refine g_get C (a_46 ad cy _) rfl hin_X2 0 (by decide) hF_X2_20 rfl rfl dX2_choose_14 ?_
  refine g_get C (a_22 ad cy _) rfl hin_X9 2 (by decide) hF_X2_28 rfl rfl dX2_choose_17 ?_
  refine g_ishl C dX2_choose_20 ?_
  rcases oi_e hf with ⟨c1, hf⟩ | ⟨c1, hf⟩
  · refine g_icmp_ge_t (tgt := 81) C dX2_choose_21 (by decide) c1 ?_
    obtain ⟨rfl, rfl⟩ := os_e hf
    exact g_vret C rfl dX2_choose_81
  · refine g_icmp_ge_f (tgt := 81) C dX2_choose_21 (by decide) c1 ?_
    refine g_iload_n C dX2_choose_24 rfl 3 rfl ?_
    obtain ⟨r2, σ3, h4, hf⟩ := obp_e hf
    refine g_callSi (As := [.int x3]) (rest := []) C (c_J6_bitCount_0f7a4 l dC dI ad cy x3) h4 hM_X2_76 cal_J6_bitCount_0f7a4 ⟨Nat.zero_le _, Nat.zero_le _⟩ ⟨rfl, rfl⟩ ⟨Nat.le_of_ble_eq_true rfl, Nat.le_of_ble_eq_true rfl⟩ rfl rfl (Nat.le_of_ble_eq_true rfl) dX2_choose_25 ?_
    refine g_iload_n C dX2_choose_28 rfl 1 rfl ?_
    rcases oi_e hf with ⟨c5, hf⟩ | ⟨c5, hf⟩
    · refine g_icmp_ne_t (tgt := 75) C dX2_choose_29 (by decide) c5 ?_
      exact g_sub [0, 1, 2, 3] rfl (fX2_choose_b75_ok C sf_11 hs_11 σ3 x1 x2 x3 hf)
    · refine g_icmp_ne_f (tgt := 75) C dX2_choose_29 (by decide) (Decidable.of_not_not c5) ?_
      refine g_aload_n C dX2_choose_32 rfl 0 rfl ?_
      refine g_iload_n C dX2_choose_33 rfl 3 rfl ?_
      refine g_iload_n C dX2_choose_34 rfl 2 rfl ?_
      obtain ⟨r6, σ7, h8, hf⟩ := obp_e hf
      refine g_callVi (As := [.int x3, .int x2]) (rest := []) C (a_46 ad cy _) rfl (c_X2_isWithin l dC dI ad cy x3 x2) h8 hM_X2_82 cal_X2_isWithin ⟨Nat.zero_le _, Nat.zero_le _⟩ ⟨rfl, rfl⟩ ⟨Nat.le_of_ble_eq_true rfl, Nat.le_of_ble_eq_true rfl⟩ rfl rfl (Nat.le_of_ble_eq_true rfl) dX2_choose_35 ?_
      rcases oi_e hf with ⟨c9, hf⟩ | ⟨c9, hf⟩
      · refine g_if_eq_t (tgt := 75) C dX2_choose_38 (by decide) c9 ?_
        exact g_sub [0, 1, 2, 3] rfl (fX2_choose_b75_ok C sf_11 hs_11 σ7 x1 x2 x3 hf)
      · refine g_if_eq_f (tgt := 75) C dX2_choose_38 (by decide) c9 ?_
        refine g_aload_n C dX2_choose_41 rfl 0 rfl ?_
        refine g_iload_n C dX2_choose_42 rfl 3 rfl ?_
        obtain ⟨r10, σ11, h12, hf⟩ := obp_e hf
        refine g_callVi (As := [.int x3]) (rest := []) C (a_46 ad cy _) rfl (c_X2_costOf l dC dI ad cy x3) h12 hM_X2_86 cal_X2_costOf ⟨Nat.zero_le _, Nat.zero_le _⟩ ⟨rfl, rfl⟩ ⟨Nat.le_of_ble_eq_true rfl, Nat.le_of_ble_eq_true rfl⟩ rfl rfl (Nat.le_of_ble_eq_true rfl) dX2_choose_43 ?_
        refine g_istore (lv2 := [(0, .ref (ad 46)), (1, .int x1), (2, .int x2), (3, .int x3), (4, .int r10)]) C dX2_choose_46 (by decide) [1, 2, 3, 4, 0] rfl ?_
        refine g_aload_n C dX2_choose_48 rfl 0 rfl ?_
        refine g_get C (a_46 ad cy _) rfl hin_X2 5 (by decide) hF_X2_75 rfl rfl dX2_choose_49 ?_
        rcases oi_e hf with ⟨c13, hf⟩ | ⟨c13, hf⟩
        · refine g_if_eq_t (tgt := 64) C dX2_choose_52 (by decide) c13 ?_
          exact g_sub [0, 1, 2, 3, 4] rfl (fX2_choose_b64_ok C sf_11 hs_11 σ11 x1 x2 x3 r10 hf)
        · refine g_if_eq_f (tgt := 64) C dX2_choose_52 (by decide) c13 ?_
          refine g_iload C dX2_choose_55 4 rfl ?_
          refine g_aload_n C dX2_choose_57 rfl 0 rfl ?_
          refine g_get C (a_46 ad cy _) rfl hin_X2 4 (by decide) hF_X2_89 rfl rfl dX2_choose_58 ?_
          rcases oi_e hf with ⟨c14, hf⟩ | ⟨c14, hf⟩
          · refine g_icmp_ge_t (tgt := 75) C dX2_choose_61 (by decide) c14 ?_
            exact g_sub [0, 1, 2, 3] rfl (fX2_choose_b75_ok C sf_11 hs_11 σ11 x1 x2 x3 hf)
          · refine g_icmp_ge_f (tgt := 75) C dX2_choose_61 (by decide) c14 ?_
            exact g_sub [0, 1, 2, 3, 4] rfl (fX2_choose_b64_ok C sf_11 hs_11 σ11 x1 x2 x3 r10 hf)
def fX2_choose_h11  : Nat → S0 → Int32 → Int32 → Int32 → Option (Int32 × S0)
  | 0 => fun _ _ _ _ => none
  | n + 1 => fun σ x1 x2 x3 => fX2_choose_b11  (fX2_choose_h11  n) σ x1 x2 x3
set_option maxHeartbeats 1000000 in
set_option maxRecDepth 100000 in
theorem fX2_choose_h11_ok {p : Program} {l : Launch} {e : Env} {s : State} {m : MethodId} {args : Array Value} {below : List Frame} {meth : Method} {c : Code} {dC : Nat → ClassId} {dI : Nat → Nat → Nat} {ad : Nat → Nat} {cy : Nat → ClassId} {sz : Nat} (C : Cx p s m args meth c RX2 cX2_choose 5 none dC dI ad cy sz) {rr : Int32} {ρ : S0}  : ∀ (n : Nat) (σ : S0) (x1 : Int32) (x2 : Int32) (x3 : Int32)  (_hf : fX2_choose_h11  n σ x1 x2 x3 = some (rr, ρ)), Gw p l e rm_X2_choose s m args below meth c (MQ below (QcV dC dI ad cy sz ρ) args s 0 0 (AW ad sz)) dC dI ad cy 5 sz 0 0 11 [(0, .ref (ad 46)), (1, .int x1), (2, .int x2), (3, .int x3)] [] σ
  | 0, _, _, _, _, hf => by cases hf
  | n + 1, σ, x1, x2, x3, hf => fX2_choose_b11_ok C  (fX2_choose_h11  n) (fX2_choose_h11_ok C  n) σ x1 x2 x3 hf
def fX2_choose (σ : S0) (x1 : Int32) (x2 : Int32) : Option (Int32 × S0) := obp (fX2_ringAll σ) (fun r1 σ2 => ol (su σ2 46 5 0) (fun σ4 => fX2_choose_h11 400 σ4 x1 x2 1))
set_option maxHeartbeats 1000000 in
set_option maxRecDepth 100000 in
theorem fX2_choose_ok {p : Program} {l : Launch} {e : Env} {s : State} {m : MethodId} {args : Array Value} {below : List Frame} {meth : Method} {c : Code} {dC : Nat → ClassId} {dI : Nat → Nat → Nat} {ad : Nat → Nat} {cy : Nat → ClassId} {sz : Nat} (C : Cx p s m args meth c RX2 cX2_choose 5 none dC dI ad cy sz) {rr : Int32} {ρ : S0} (σ : S0) (x1 : Int32) (x2 : Int32)  (hf : fX2_choose σ x1 x2 = some (rr, ρ)) : Gw p l e rm_X2_choose s m args below meth c (MQ below (QcV dC dI ad cy sz ρ) args s 0 0 (AW ad sz)) dC dI ad cy 5 sz 0 0 0 [(0, .ref (ad 46)), (1, .int x1), (2, .int x2)] [] σ := by
  unfold fX2_choose at hf
  refine g_aload_n C dX2_choose_0 rfl 0 rfl ?_
  obtain ⟨r1, σ2, h3, hf⟩ := obp_e hf
  refine g_callVv (As := []) (rest := []) C (a_46 ad cy _) rfl (c_X2_ringAll l dC dI ad cy ) h3 hM_X2_72 cal_X2_ringAll ⟨Nat.zero_le _, Nat.zero_le _⟩ ⟨rfl, rfl⟩ ⟨Nat.le_of_ble_eq_true rfl, Nat.le_of_ble_eq_true rfl⟩ rfl rfl (Nat.le_of_ble_eq_true rfl) dX2_choose_1 ?_
  refine g_aload_n C dX2_choose_4 rfl 0 rfl ?_
  refine g_iconst (v := 0) C dX2_choose_5 (by decide) ?_
  obtain ⟨σ4, eσ4, hf⟩ := ol_e hf
  refine g_put (ty := .int) C (a_46 ad cy _) rfl hin_X2 tyX2 tyX2_ok nmX2 5 (by decide) hF_X2_75 rfl rfl (by decide +kernel) rfl rfl (Nat.le_of_ble_eq_true rfl) (p_46_5 ad cy _ _) eσ4 dX2_choose_6 ?_
  refine g_iconst (v := 1) C dX2_choose_9 (by decide) ?_
  refine g_istore_n (lv2 := [(0, .ref (ad 46)), (1, .int x1), (2, .int x2), (3, .int 1)]) C dX2_choose_10 rfl (by decide) [1, 2, 3, 0] rfl ?_
  exact g_sub [0, 1, 2, 3] rfl (fX2_choose_h11_ok C 400 σ4 x1 x2 1 hf)
theorem c_X2_choose (l : Launch) (dC : Nat → ClassId) (dI : Nat → Nat → Nat) (ad : Nat → Nat) (cy : Nat → ClassId) (x1 : Int32) (x2 : Int32) : ConV l yX2_choose cX2_choose 5 none rm_X2_choose dC dI ad cy [.ref (ad 46), .int x1, .int x2] (fun σ => fX2_choose σ x1 x2) := con_v (own := RX2) (by decide) rfl (Nat.le_of_ble_eq_true rfl) (fun _ _ _ _ _ _ _ _ σ _ _ C hf => fX2_choose_ok C σ x1 x2 hf)
theorem cal_X2_choose : CalV yX2_choose RX2 cX2_choose 5 none 2 := ⟨hI_X2_choose, hS_X2_choose, hIni_X2, hC_X2_choose, by decide +kernel⟩
abbrev rm_X4_leastBehind : Room := { frames := 1, cells := 0, slots := 0, locals := 22 }
def fX4_leastBehind_b99 (sf_6 : S0 → Int32 → Int32 → Int32 → Int32 → Option (Int32 × S0)) (σ : S0) (x1 : Int32) (x2 : Int32) (x3 : Int32) (x4 : Int32) : Option (Int32 × S0) := ol (x4 + 1) (fun v1 => sf_6 σ x1 x2 x3 v1)
set_option maxHeartbeats 1000000 in
set_option maxRecDepth 100000 in
theorem fX4_leastBehind_b99_ok {p : Program} {l : Launch} {e : Env} {s : State} {m : MethodId} {args : Array Value} {below : List Frame} {meth : Method} {c : Code} {dC : Nat → ClassId} {dI : Nat → Nat → Nat} {ad : Nat → Nat} {cy : Nat → ClassId} {sz : Nat} (C : Cx p s m args meth c RX4 cX4_leastBehind 6 (some .int) dC dI ad cy sz) {rr : Int32} {ρ : S0} (sf_6 : S0 → Int32 → Int32 → Int32 → Int32 → Option (Int32 × S0)) (hs_6 : ∀ (σ : S0) (x1 : Int32) (x2 : Int32) (x3 : Int32) (x4 : Int32) , sf_6 σ x1 x2 x3 x4 = some (rr, ρ) → Gw p l e rm_X4_leastBehind s m args below meth c (MQ below (QcI dC dI ad cy sz rr ρ) args s 0 0 (AW ad sz)) dC dI ad cy 6 sz 0 0 6 [(0, .ref (ad 55)), (1, .int x1), (2, .int x2), (3, .int x3), (4, .int x4)] [] σ) (σ : S0) (x1 : Int32) (x2 : Int32) (x3 : Int32) (x4 : Int32)  (hf : fX4_leastBehind_b99 sf_6 σ x1 x2 x3 x4 = some (rr, ρ)) : Gw p l e rm_X4_leastBehind s m args below meth c (MQ below (QcI dC dI ad cy sz rr ρ) args s 0 0 (AW ad sz)) dC dI ad cy 6 sz 0 0 99 [(0, .ref (ad 55)), (1, .int x1), (2, .int x2), (3, .int x3), (4, .int x4)] [] σ := by
  unfold fX4_leastBehind_b99 at hf
  obtain ⟨v1, ev1, hf⟩ := ol_e hf
  refine g_iinc (j := 4) (w := 1) (lv2 := [(0, .ref (ad 55)), (1, .int x1), (2, .int x2), (3, .int x3), (4, .int v1)]) C dX4_leastBehind_99 rfl (by decide) ev1 (by decide) [1, 2, 3, 4, 0] rfl ?_
  refine g_goto (tgt := 6) C dX4_leastBehind_102 (by decide) ?_
  exact g_sub [0, 1, 2, 3, 4] rfl (hs_6 σ x1 x2 x3 v1 hf)
def fX4_leastBehind_b93 (sf_6 : S0 → Int32 → Int32 → Int32 → Int32 → Option (Int32 × S0)) (σ : S0) (x1 : Int32) (x2 : Int32) (x3 : Int32) (x4 : Int32) (t0 : Int32) (t1 : Int32) : Option (Int32 × S0) := if t0 ≤ t1 then (fX4_leastBehind_b99 sf_6 σ x1 x2 x3 x4) else (fX4_leastBehind_b99 sf_6 σ x1 x2 x4 x4)
set_option maxHeartbeats 1000000 in
set_option maxRecDepth 100000 in
theorem fX4_leastBehind_b93_ok {p : Program} {l : Launch} {e : Env} {s : State} {m : MethodId} {args : Array Value} {below : List Frame} {meth : Method} {c : Code} {dC : Nat → ClassId} {dI : Nat → Nat → Nat} {ad : Nat → Nat} {cy : Nat → ClassId} {sz : Nat} (C : Cx p s m args meth c RX4 cX4_leastBehind 6 (some .int) dC dI ad cy sz) {rr : Int32} {ρ : S0} (sf_6 : S0 → Int32 → Int32 → Int32 → Int32 → Option (Int32 × S0)) (hs_6 : ∀ (σ : S0) (x1 : Int32) (x2 : Int32) (x3 : Int32) (x4 : Int32) , sf_6 σ x1 x2 x3 x4 = some (rr, ρ) → Gw p l e rm_X4_leastBehind s m args below meth c (MQ below (QcI dC dI ad cy sz rr ρ) args s 0 0 (AW ad sz)) dC dI ad cy 6 sz 0 0 6 [(0, .ref (ad 55)), (1, .int x1), (2, .int x2), (3, .int x3), (4, .int x4)] [] σ) (σ : S0) (x1 : Int32) (x2 : Int32) (x3 : Int32) (x4 : Int32) (t0 : Int32) (t1 : Int32)  (hf : fX4_leastBehind_b93 sf_6 σ x1 x2 x3 x4 t0 t1 = some (rr, ρ)) : Gw p l e rm_X4_leastBehind s m args below meth c (MQ below (QcI dC dI ad cy sz rr ρ) args s 0 0 (AW ad sz)) dC dI ad cy 6 sz 0 0 93 [(0, .ref (ad 55)), (1, .int x1), (2, .int x2), (3, .int x3), (4, .int x4)] [.int t0, .int t1] σ := by
  unfold fX4_leastBehind_b93 at hf
  rcases oi_e hf with ⟨c1, hf⟩ | ⟨c1, hf⟩
  · refine g_icmp_ge_t (tgt := 99) C dX4_leastBehind_93 (by decide) c1 ?_
    exact g_sub [0, 1, 2, 3, 4] rfl (fX4_leastBehind_b99_ok C sf_6 hs_6 σ x1 x2 x3 x4 hf)
  · refine g_icmp_ge_f (tgt := 99) C dX4_leastBehind_93 (by decide) c1 ?_
    refine g_iload C dX4_leastBehind_96 4 rfl ?_
    refine g_istore_n (lv2 := [(0, .ref (ad 55)), (1, .int x1), (2, .int x2), (3, .int x4), (4, .int x4)]) C dX4_leastBehind_98 rfl (by decide) [1, 2, 3, 0, 4] rfl ?_
    exact g_sub [0, 1, 2, 3, 4] rfl (fX4_leastBehind_b99_ok C sf_6 hs_6 σ x1 x2 x4 x4 hf)
def fX4_leastBehind_b58 (sf_6 : S0 → Int32 → Int32 → Int32 → Int32 → Option (Int32 × S0)) (σ : S0) (x1 : Int32) (x2 : Int32) (x3 : Int32) (x4 : Int32) (t0 : Int32) : Option (Int32 × S0) := if t0 = 0 then (fX4_leastBehind_b99 sf_6 σ x1 x2 x3 x4) else (og (¬ (x1 < 0 ∨ 12 ≤ x1.toNatClampNeg)) (ol (57 + 1 * x1.toNatClampNeg) (fun q3 => og (¬ (x4 < 0 ∨ 12 ≤ x4.toNatClampNeg)) (ol (σ q3 x4.toNatClampNeg) (fun v5 => if ¬ x3 = ((-4)) then (og (¬ (x1 < 0 ∨ 12 ≤ x1.toNatClampNeg)) (ol (57 + 1 * x1.toNatClampNeg) (fun q8 => og (¬ (x3 < 0 ∨ 12 ≤ x3.toNatClampNeg)) (ol (σ q8 x3.toNatClampNeg) (fun v10 => fX4_leastBehind_b93 sf_6 σ x1 x2 x3 x4 v10 v5))))) else (fX4_leastBehind_b93 sf_6 σ x1 x2 x3 x4 1000000 v5))))))
set_option maxHeartbeats 1000000 in
set_option maxRecDepth 100000 in
theorem fX4_leastBehind_b58_ok {p : Program} {l : Launch} {e : Env} {s : State} {m : MethodId} {args : Array Value} {below : List Frame} {meth : Method} {c : Code} {dC : Nat → ClassId} {dI : Nat → Nat → Nat} {ad : Nat → Nat} {cy : Nat → ClassId} {sz : Nat} (C : Cx p s m args meth c RX4 cX4_leastBehind 6 (some .int) dC dI ad cy sz) {rr : Int32} {ρ : S0} (sf_6 : S0 → Int32 → Int32 → Int32 → Int32 → Option (Int32 × S0)) (hs_6 : ∀ (σ : S0) (x1 : Int32) (x2 : Int32) (x3 : Int32) (x4 : Int32) , sf_6 σ x1 x2 x3 x4 = some (rr, ρ) → Gw p l e rm_X4_leastBehind s m args below meth c (MQ below (QcI dC dI ad cy sz rr ρ) args s 0 0 (AW ad sz)) dC dI ad cy 6 sz 0 0 6 [(0, .ref (ad 55)), (1, .int x1), (2, .int x2), (3, .int x3), (4, .int x4)] [] σ) (σ : S0) (x1 : Int32) (x2 : Int32) (x3 : Int32) (x4 : Int32) (t0 : Int32)  (hf : fX4_leastBehind_b58 sf_6 σ x1 x2 x3 x4 t0 = some (rr, ρ)) : Gw p l e rm_X4_leastBehind s m args below meth c (MQ below (QcI dC dI ad cy sz rr ρ) args s 0 0 (AW ad sz)) dC dI ad cy 6 sz 0 0 58 [(0, .ref (ad 55)), (1, .int x1), (2, .int x2), (3, .int x3), (4, .int x4)] [.int t0] σ := by
  unfold fX4_leastBehind_b58 at hf
  refine g_istore (lv2 := [(0, .ref (ad 55)), (1, .int x1), (2, .int x2), (3, .int x3), (4, .int x4), (5, .int t0)]) C dX4_leastBehind_58 (by decide) [1, 2, 3, 4, 5, 0] rfl ?_
  refine g_iload C dX4_leastBehind_60 5 rfl ?_
  rcases oi_e hf with ⟨c1, hf⟩ | ⟨c1, hf⟩
  · refine g_if_eq_t (tgt := 99) C dX4_leastBehind_62 (by decide) c1 ?_
    exact g_sub [0, 1, 2, 3, 4] rfl (fX4_leastBehind_b99_ok C sf_6 hs_6 σ x1 x2 x3 x4 hf)
  · refine g_if_eq_f (tgt := 99) C dX4_leastBehind_62 (by decide) c1 ?_
    refine g_aload_n C dX4_leastBehind_65 rfl 0 rfl ?_
    refine g_get C (a_55 ad cy _) rfl hin_X4 2 (by decide) hF_X4_11 rfl rfl dX4_leastBehind_66 ?_
    refine g_iload_n C dX4_leastBehind_69 rfl 1 rfl ?_
    obtain ⟨h2, hf⟩ := og_e hf
    obtain ⟨q3, eq3, hf⟩ := ol_e hf
    refine g_aald C (a_56 ad cy _) rfl rfl h2 dX4_leastBehind_70 ?_
    refine g_nmr eq3 ?_
    have hq3 := (o_56 h2 eq3)
    refine g_iload C dX4_leastBehind_71 4 rfl ?_
    obtain ⟨h4, hf⟩ := og_e hf
    refine g_iald C (s_row hq3 ad cy _) h4 dX4_leastBehind_73 ?_
    obtain ⟨v5, ev5, hf⟩ := ol_e hf
    refine g_nm ev5 ?_
    refine g_iload_n C dX4_leastBehind_74 rfl 3 rfl ?_
    refine g_bipush (v := (-4)) C dX4_leastBehind_75 (by decide) ?_
    rcases oi_e hf with ⟨c6, hf⟩ | ⟨c6, hf⟩
    · refine g_icmp_ne_t (tgt := 85) C dX4_leastBehind_77 (by decide) c6 ?_
      refine g_aload_n C dX4_leastBehind_85 rfl 0 rfl ?_
      refine g_get C (a_55 ad cy _) rfl hin_X4 2 (by decide) hF_X4_11 rfl rfl dX4_leastBehind_86 ?_
      refine g_iload_n C dX4_leastBehind_89 rfl 1 rfl ?_
      obtain ⟨h7, hf⟩ := og_e hf
      obtain ⟨q8, eq8, hf⟩ := ol_e hf
      refine g_aald C (a_56 ad cy _) rfl rfl h7 dX4_leastBehind_90 ?_
      refine g_nmr eq8 ?_
      have hq8 := (o_56 h7 eq8)
      refine g_iload_n C dX4_leastBehind_91 rfl 3 rfl ?_
      obtain ⟨h9, hf⟩ := og_e hf
      refine g_iald C (s_row hq8 ad cy _) h9 dX4_leastBehind_92 ?_
      obtain ⟨v10, ev10, hf⟩ := ol_e hf
      refine g_nm ev10 ?_
      exact g_sub [0, 1, 2, 3, 4] rfl (fX4_leastBehind_b93_ok C sf_6 hs_6 σ x1 x2 x3 x4 v10 v5 hf)
    · refine g_icmp_ne_f (tgt := 85) C dX4_leastBehind_77 (by decide) (Decidable.of_not_not c6) ?_
      refine g_ldc (v := 1000000) C dX4_leastBehind_80 hK_X4_48 ?_
      refine g_goto (tgt := 93) C dX4_leastBehind_82 (by decide) ?_
      exact g_sub [0, 1, 2, 3, 4] rfl (fX4_leastBehind_b93_ok C sf_6 hs_6 σ x1 x2 x3 x4 1000000 v5 hf)
def fX4_leastBehind_b53 (sf_6 : S0 → Int32 → Int32 → Int32 → Int32 → Option (Int32 × S0)) (σ : S0) (x1 : Int32) (x2 : Int32) (x3 : Int32) (x4 : Int32) : Option (Int32 × S0) := fX4_leastBehind_b58 sf_6 σ x1 x2 x3 x4 1
set_option maxHeartbeats 1000000 in
set_option maxRecDepth 100000 in
theorem fX4_leastBehind_b53_ok {p : Program} {l : Launch} {e : Env} {s : State} {m : MethodId} {args : Array Value} {below : List Frame} {meth : Method} {c : Code} {dC : Nat → ClassId} {dI : Nat → Nat → Nat} {ad : Nat → Nat} {cy : Nat → ClassId} {sz : Nat} (C : Cx p s m args meth c RX4 cX4_leastBehind 6 (some .int) dC dI ad cy sz) {rr : Int32} {ρ : S0} (sf_6 : S0 → Int32 → Int32 → Int32 → Int32 → Option (Int32 × S0)) (hs_6 : ∀ (σ : S0) (x1 : Int32) (x2 : Int32) (x3 : Int32) (x4 : Int32) , sf_6 σ x1 x2 x3 x4 = some (rr, ρ) → Gw p l e rm_X4_leastBehind s m args below meth c (MQ below (QcI dC dI ad cy sz rr ρ) args s 0 0 (AW ad sz)) dC dI ad cy 6 sz 0 0 6 [(0, .ref (ad 55)), (1, .int x1), (2, .int x2), (3, .int x3), (4, .int x4)] [] σ) (σ : S0) (x1 : Int32) (x2 : Int32) (x3 : Int32) (x4 : Int32)  (hf : fX4_leastBehind_b53 sf_6 σ x1 x2 x3 x4 = some (rr, ρ)) : Gw p l e rm_X4_leastBehind s m args below meth c (MQ below (QcI dC dI ad cy sz rr ρ) args s 0 0 (AW ad sz)) dC dI ad cy 6 sz 0 0 53 [(0, .ref (ad 55)), (1, .int x1), (2, .int x2), (3, .int x3), (4, .int x4)] [] σ := by
  unfold fX4_leastBehind_b53 at hf
  refine g_iconst (v := 1) C dX4_leastBehind_53 (by decide) ?_
  refine g_goto (tgt := 58) C dX4_leastBehind_54 (by decide) ?_
  exact g_sub [0, 1, 2, 3, 4] rfl (fX4_leastBehind_b58_ok C sf_6 hs_6 σ x1 x2 x3 x4 1 hf)
def fX4_leastBehind_b6 (sf_6 : S0 → Int32 → Int32 → Int32 → Int32 → Option (Int32 × S0)) (σ : S0) (x1 : Int32) (x2 : Int32) (x3 : Int32) (x4 : Int32) : Option (Int32 × S0) := if (σ 32 0) ≤ x4 then (some (x3, σ)) else (if x2 = ((-4)) then (fX4_leastBehind_b53 sf_6 σ x1 x2 x3 x4) else (og (¬ (x4 < 0 ∨ 12 ≤ x4.toNatClampNeg)) (ol (σ 33 x4.toNatClampNeg) (fun v4 => og (¬ (x2 < 0 ∨ 12 ≤ x2.toNatClampNeg)) (ol (σ 33 x2.toNatClampNeg) (fun v6 => obp (fX1_areFoes σ 32 v4 v6) (fun r7 σ8 => if ¬ r7 = 0 then (fX4_leastBehind_b58 sf_6 σ8 x1 x2 x3 x4 0) else (fX4_leastBehind_b53 sf_6 σ8 x1 x2 x3 x4))))))))
set_option maxHeartbeats 1000000 in
set_option maxRecDepth 100000 in
theorem fX4_leastBehind_b6_ok {p : Program} {l : Launch} {e : Env} {s : State} {m : MethodId} {args : Array Value} {below : List Frame} {meth : Method} {c : Code} {dC : Nat → ClassId} {dI : Nat → Nat → Nat} {ad : Nat → Nat} {cy : Nat → ClassId} {sz : Nat} (C : Cx p s m args meth c RX4 cX4_leastBehind 6 (some .int) dC dI ad cy sz) {rr : Int32} {ρ : S0} (sf_6 : S0 → Int32 → Int32 → Int32 → Int32 → Option (Int32 × S0)) (hs_6 : ∀ (σ : S0) (x1 : Int32) (x2 : Int32) (x3 : Int32) (x4 : Int32) , sf_6 σ x1 x2 x3 x4 = some (rr, ρ) → Gw p l e rm_X4_leastBehind s m args below meth c (MQ below (QcI dC dI ad cy sz rr ρ) args s 0 0 (AW ad sz)) dC dI ad cy 6 sz 0 0 6 [(0, .ref (ad 55)), (1, .int x1), (2, .int x2), (3, .int x3), (4, .int x4)] [] σ) (σ : S0) (x1 : Int32) (x2 : Int32) (x3 : Int32) (x4 : Int32)  (hf : fX4_leastBehind_b6 sf_6 σ x1 x2 x3 x4 = some (rr, ρ)) : Gw p l e rm_X4_leastBehind s m args below meth c (MQ below (QcI dC dI ad cy sz rr ρ) args s 0 0 (AW ad sz)) dC dI ad cy 6 sz 0 0 6 [(0, .ref (ad 55)), (1, .int x1), (2, .int x2), (3, .int x3), (4, .int x4)] [] σ := by
  unfold fX4_leastBehind_b6 at hf
  refine g_iload C dX4_leastBehind_6 4 rfl ?_
  refine g_aload_n C dX4_leastBehind_8 rfl 0 rfl ?_
  refine g_get C (a_55 ad cy _) rfl hin_X4 1 (by decide) hF_X4_30 rfl rfl dX4_leastBehind_9 ?_
  refine g_get C (a_32 ad cy _) rfl hin_X1 0 (by decide) hF_X4_34 rfl rfl dX4_leastBehind_12 ?_
  rcases oi_e hf with ⟨c1, hf⟩ | ⟨c1, hf⟩
  · refine g_icmp_ge_t (tgt := 105) C dX4_leastBehind_15 (by decide) c1 ?_
    refine g_iload_n C dX4_leastBehind_105 rfl 3 rfl ?_
    obtain ⟨rfl, rfl⟩ := os_e hf
    exact g_iret C rfl dX4_leastBehind_106
  · refine g_icmp_ge_f (tgt := 105) C dX4_leastBehind_15 (by decide) c1 ?_
    refine g_iload_n C dX4_leastBehind_18 rfl 2 rfl ?_
    refine g_bipush (v := (-4)) C dX4_leastBehind_19 (by decide) ?_
    rcases oi_e hf with ⟨c2, hf⟩ | ⟨c2, hf⟩
    · refine g_icmp_eq_t (tgt := 53) C dX4_leastBehind_21 (by decide) c2 ?_
      exact g_sub [0, 1, 2, 3, 4] rfl (fX4_leastBehind_b53_ok C sf_6 hs_6 σ x1 x2 x3 x4 hf)
    · refine g_icmp_eq_f (tgt := 53) C dX4_leastBehind_21 (by decide) c2 ?_
      refine g_aload_n C dX4_leastBehind_24 rfl 0 rfl ?_
      refine g_get C (a_55 ad cy _) rfl hin_X4 1 (by decide) hF_X4_30 rfl rfl dX4_leastBehind_25 ?_
      refine g_aload_n C dX4_leastBehind_28 rfl 0 rfl ?_
      refine g_get C (a_55 ad cy _) rfl hin_X4 1 (by decide) hF_X4_30 rfl rfl dX4_leastBehind_29 ?_
      refine g_get C (a_32 ad cy _) rfl hin_X1 1 (by decide) hF_X4_64 rfl rfl dX4_leastBehind_32 ?_
      refine g_iload C dX4_leastBehind_35 4 rfl ?_
      obtain ⟨h3, hf⟩ := og_e hf
      refine g_iald C (a_33 ad cy _) h3 dX4_leastBehind_37 ?_
      obtain ⟨v4, ev4, hf⟩ := ol_e hf
      refine g_nm ev4 ?_
      refine g_aload_n C dX4_leastBehind_38 rfl 0 rfl ?_
      refine g_get C (a_55 ad cy _) rfl hin_X4 1 (by decide) hF_X4_30 rfl rfl dX4_leastBehind_39 ?_
      refine g_get C (a_32 ad cy _) rfl hin_X1 1 (by decide) hF_X4_64 rfl rfl dX4_leastBehind_42 ?_
      refine g_iload_n C dX4_leastBehind_45 rfl 2 rfl ?_
      obtain ⟨h5, hf⟩ := og_e hf
      refine g_iald C (a_33 ad cy _) h5 dX4_leastBehind_46 ?_
      obtain ⟨v6, ev6, hf⟩ := ol_e hf
      refine g_nm ev6 ?_
      obtain ⟨r7, σ8, h9, hf⟩ := obp_e hf
      refine g_callVi (As := [.int v4, .int v6]) (rest := []) C (a_32 ad cy _) rfl (c_X1_areFoes l dC dI ad cy 32 k_isChimes_32 v4 v6) h9 hM_X4_67 cal_X1_areFoes ⟨Nat.zero_le _, Nat.zero_le _⟩ ⟨rfl, rfl⟩ ⟨Nat.le_of_ble_eq_true rfl, Nat.le_of_ble_eq_true rfl⟩ rfl rfl (Nat.le_of_ble_eq_true rfl) dX4_leastBehind_47 ?_
      rcases oi_e hf with ⟨c10, hf⟩ | ⟨c10, hf⟩
      · refine g_if_ne_t (tgt := 57) C dX4_leastBehind_50 (by decide) c10 ?_
        refine g_iconst (v := 0) C dX4_leastBehind_57 (by decide) ?_
        exact g_sub [0, 1, 2, 3, 4] rfl (fX4_leastBehind_b58_ok C sf_6 hs_6 σ8 x1 x2 x3 x4 0 hf)
      · refine g_if_ne_f (tgt := 57) C dX4_leastBehind_50 (by decide) (Decidable.of_not_not c10) ?_
        exact g_sub [0, 1, 2, 3, 4] rfl (fX4_leastBehind_b53_ok C sf_6 hs_6 σ8 x1 x2 x3 x4 hf)
def fX4_leastBehind_h6  : Nat → S0 → Int32 → Int32 → Int32 → Int32 → Option (Int32 × S0)
  | 0 => fun _ _ _ _ _ => none
  | n + 1 => fun σ x1 x2 x3 x4 => fX4_leastBehind_b6  (fX4_leastBehind_h6  n) σ x1 x2 x3 x4
set_option maxHeartbeats 1000000 in
set_option maxRecDepth 100000 in
theorem fX4_leastBehind_h6_ok {p : Program} {l : Launch} {e : Env} {s : State} {m : MethodId} {args : Array Value} {below : List Frame} {meth : Method} {c : Code} {dC : Nat → ClassId} {dI : Nat → Nat → Nat} {ad : Nat → Nat} {cy : Nat → ClassId} {sz : Nat} (C : Cx p s m args meth c RX4 cX4_leastBehind 6 (some .int) dC dI ad cy sz) {rr : Int32} {ρ : S0}  : ∀ (n : Nat) (σ : S0) (x1 : Int32) (x2 : Int32) (x3 : Int32) (x4 : Int32)  (_hf : fX4_leastBehind_h6  n σ x1 x2 x3 x4 = some (rr, ρ)), Gw p l e rm_X4_leastBehind s m args below meth c (MQ below (QcI dC dI ad cy sz rr ρ) args s 0 0 (AW ad sz)) dC dI ad cy 6 sz 0 0 6 [(0, .ref (ad 55)), (1, .int x1), (2, .int x2), (3, .int x3), (4, .int x4)] [] σ
  | 0, _, _, _, _, _, hf => by cases hf
  | n + 1, σ, x1, x2, x3, x4, hf => fX4_leastBehind_b6_ok C  (fX4_leastBehind_h6  n) (fX4_leastBehind_h6_ok C  n) σ x1 x2 x3 x4 hf
def fX4_leastBehind (σ : S0) (x1 : Int32) (x2 : Int32) : Option (Int32 × S0) := fX4_leastBehind_h6 400 σ x1 x2 ((-4)) 0
set_option maxHeartbeats 1000000 in
set_option maxRecDepth 100000 in
theorem fX4_leastBehind_ok {p : Program} {l : Launch} {e : Env} {s : State} {m : MethodId} {args : Array Value} {below : List Frame} {meth : Method} {c : Code} {dC : Nat → ClassId} {dI : Nat → Nat → Nat} {ad : Nat → Nat} {cy : Nat → ClassId} {sz : Nat} (C : Cx p s m args meth c RX4 cX4_leastBehind 6 (some .int) dC dI ad cy sz) {rr : Int32} {ρ : S0} (σ : S0) (x1 : Int32) (x2 : Int32)  (hf : fX4_leastBehind σ x1 x2 = some (rr, ρ)) : Gw p l e rm_X4_leastBehind s m args below meth c (MQ below (QcI dC dI ad cy sz rr ρ) args s 0 0 (AW ad sz)) dC dI ad cy 6 sz 0 0 0 [(0, .ref (ad 55)), (1, .int x1), (2, .int x2)] [] σ := by
  unfold fX4_leastBehind at hf
  refine g_bipush (v := (-4)) C dX4_leastBehind_0 (by decide) ?_
  refine g_istore_n (lv2 := [(0, .ref (ad 55)), (1, .int x1), (2, .int x2), (3, .int ((-4)))]) C dX4_leastBehind_2 rfl (by decide) [1, 2, 3, 0] rfl ?_
  refine g_iconst (v := 0) C dX4_leastBehind_3 (by decide) ?_
  refine g_istore (lv2 := [(0, .ref (ad 55)), (1, .int x1), (2, .int x2), (3, .int ((-4))), (4, .int 0)]) C dX4_leastBehind_4 (by decide) [1, 2, 3, 4, 0] rfl ?_
  exact g_sub [0, 1, 2, 3, 4] rfl (fX4_leastBehind_h6_ok C 400 σ x1 x2 ((-4)) 0 hf)
theorem c_X4_leastBehind (l : Launch) (dC : Nat → ClassId) (dI : Nat → Nat → Nat) (ad : Nat → Nat) (cy : Nat → ClassId) (x1 : Int32) (x2 : Int32) : ConI l yX4_leastBehind cX4_leastBehind 6 (some .int) rm_X4_leastBehind dC dI ad cy [.ref (ad 55), .int x1, .int x2] (fun σ => fX4_leastBehind σ x1 x2) := con_i (own := RX4) (by decide) rfl (Nat.le_of_ble_eq_true rfl) (fun _ _ _ _ _ _ _ _ σ _ _ C hf => fX4_leastBehind_ok C σ x1 x2 hf)
theorem cal_X4_leastBehind : CalV yX4_leastBehind RX4 cX4_leastBehind 6 (some .int) 2 := ⟨hI_X4_leastBehind, hS_X4_leastBehind, hIni_X4, hC_X4_leastBehind, by decide +kernel⟩
abbrev rm_X4_farFrom : Room := { frames := 2, cells := 0, slots := 0, locals := 47 }
def fX4_farFrom (σ : S0) (x1 : Int32) (x2 : Int32) (x3 : Int32) (x4 : Int32) : Option (Int32 × S0) := if x3 = x4 then (some (1000000, σ)) else (og (¬ (x3 < 0 ∨ 12 ≤ x3.toNatClampNeg)) (ol (σ 36 x3.toNatClampNeg) (fun v3 => if v3 = 0 then (og (¬ (x1 < 0 ∨ 6 ≤ x1.toNatClampNeg)) (ol (26 + 1 * x1.toNatClampNeg) (fun q6 => og (¬ (x2 < 0 ∨ 12 ≤ x2.toNatClampNeg)) (ol (σ q6 x2.toNatClampNeg) (fun v8 => ol (x3 - v8) (fun v9 => ol (if 0 ≤ v9 then v9 else 0 - v9) (fun v10 => og (¬ (x1 < 0 ∨ 6 ≤ x1.toNatClampNeg)) (ol (σ 24 x1.toNatClampNeg) (fun v12 => if (x2 + 1) < v12 then (obp (fX4_leastBehind σ (x2 + 1) x3) (fun r14 σ15 => if ¬ r14 = ((-4)) then (ol (x2 + 1) (fun v18 => og (¬ (v18 < 0 ∨ 12 ≤ v18.toNatClampNeg)) (ol (57 + 1 * v18.toNatClampNeg) (fun q20 => og (¬ (r14 < 0 ∨ 12 ≤ r14.toNatClampNeg)) (ol (σ15 q20 r14.toNatClampNeg) (fun v22 => some (v10 + v22, σ15))))))) else (some (1000000, σ15)))) else (some (v10, σ))))))))))) else (some (1000000, σ)))))
set_option maxHeartbeats 1000000 in
set_option maxRecDepth 100000 in
theorem fX4_farFrom_ok {p : Program} {l : Launch} {e : Env} {s : State} {m : MethodId} {args : Array Value} {below : List Frame} {meth : Method} {c : Code} {dC : Nat → ClassId} {dI : Nat → Nat → Nat} {ad : Nat → Nat} {cy : Nat → ClassId} {sz : Nat} (C : Cx p s m args meth c RX4 cX4_farFrom 7 (some .int) dC dI ad cy sz) {rr : Int32} {ρ : S0} (σ : S0) (x1 : Int32) (x2 : Int32) (x3 : Int32) (x4 : Int32)  (hf : fX4_farFrom σ x1 x2 x3 x4 = some (rr, ρ)) : Gw p l e rm_X4_farFrom s m args below meth c (MQ below (QcI dC dI ad cy sz rr ρ) args s 0 0 (AW ad sz)) dC dI ad cy 7 sz 0 0 0 [(0, .ref (ad 55)), (1, .int x1), (2, .int x2), (3, .int x3), (4, .int x4)] [] σ := by
  unfold fX4_farFrom at hf
  refine g_iload_n C dX4_farFrom_0 rfl 3 rfl ?_
  refine g_iload C dX4_farFrom_1 4 rfl ?_
  rcases oi_e hf with ⟨c1, hf⟩ | ⟨c1, hf⟩
  · refine g_icmp_eq_t (tgt := 18) C dX4_farFrom_3 (by decide) c1 ?_
    refine g_ldc (v := 1000000) C dX4_farFrom_18 hK_X4_48 ?_
    obtain ⟨rfl, rfl⟩ := os_e hf
    exact g_iret C rfl dX4_farFrom_20
  · refine g_icmp_eq_f (tgt := 18) C dX4_farFrom_3 (by decide) c1 ?_
    refine g_aload_n C dX4_farFrom_6 rfl 0 rfl ?_
    refine g_get C (a_55 ad cy _) rfl hin_X4 1 (by decide) hF_X4_30 rfl rfl dX4_farFrom_7 ?_
    refine g_get C (a_32 ad cy _) rfl hin_X1 4 (by decide) hF_X4_52 rfl rfl dX4_farFrom_10 ?_
    refine g_iload_n C dX4_farFrom_13 rfl 3 rfl ?_
    obtain ⟨h2, hf⟩ := og_e hf
    refine g_iald C (a_36 ad cy _) h2 dX4_farFrom_14 ?_
    obtain ⟨v3, ev3, hf⟩ := ol_e hf
    refine g_nm ev3 ?_
    rcases oi_e hf with ⟨c4, hf⟩ | ⟨c4, hf⟩
    · refine g_if_eq_t (tgt := 21) C dX4_farFrom_15 (by decide) c4 ?_
      refine g_iload_n C dX4_farFrom_21 rfl 3 rfl ?_
      refine g_aload_n C dX4_farFrom_22 rfl 0 rfl ?_
      refine g_get C (a_55 ad cy _) rfl hin_X4 0 (by decide) hF_X4_20 rfl rfl dX4_farFrom_23 ?_
      refine g_get C (a_22 ad cy _) rfl hin_X9 5 (by decide) hF_X4_55 rfl rfl dX4_farFrom_26 ?_
      refine g_iload_n C dX4_farFrom_29 rfl 1 rfl ?_
      obtain ⟨h5, hf⟩ := og_e hf
      obtain ⟨q6, eq6, hf⟩ := ol_e hf
      refine g_aald C (a_25 ad cy _) rfl rfl h5 dX4_farFrom_30 ?_
      refine g_nmr eq6 ?_
      have hq6 := (o_25 h5 eq6)
      refine g_iload_n C dX4_farFrom_31 rfl 2 rfl ?_
      obtain ⟨h7, hf⟩ := og_e hf
      refine g_iald C (s_row hq6 ad cy _) h7 dX4_farFrom_32 ?_
      obtain ⟨v8, ev8, hf⟩ := ol_e hf
      refine g_nm ev8 ?_
      refine g_isub C dX4_farFrom_33 ?_
      obtain ⟨v9, ev9, hf⟩ := ol_e hf
      refine g_nm ev9 ?_
      refine g_abs C hM_X4_58 hSt_J9_abs_0f7a4 hC_J9_abs_0f7a4 ⟨Nat.zero_le _, Nat.zero_le _⟩ ⟨Nat.le_of_ble_eq_true rfl, Nat.le_of_ble_eq_true rfl⟩ dX4_farFrom_34 ?_
      obtain ⟨v10, ev10, hf⟩ := ol_e hf
      refine g_nm ev10 ?_
      refine g_istore (lv2 := [(0, .ref (ad 55)), (1, .int x1), (2, .int x2), (3, .int x3), (4, .int x4), (5, .int v10)]) C dX4_farFrom_37 (by decide) [1, 2, 3, 4, 5, 0] rfl ?_
      refine g_iload_n C dX4_farFrom_39 rfl 2 rfl ?_
      refine g_iconst (v := 1) C dX4_farFrom_40 (by decide) ?_
      refine g_iadd C dX4_farFrom_41 ?_
      refine g_aload_n C dX4_farFrom_42 rfl 0 rfl ?_
      refine g_get C (a_55 ad cy _) rfl hin_X4 0 (by decide) hF_X4_20 rfl rfl dX4_farFrom_43 ?_
      refine g_get C (a_22 ad cy _) rfl hin_X9 4 (by decide) hF_X4_31 rfl rfl dX4_farFrom_46 ?_
      refine g_iload_n C dX4_farFrom_49 rfl 1 rfl ?_
      obtain ⟨h11, hf⟩ := og_e hf
      refine g_iald C (a_24 ad cy _) h11 dX4_farFrom_50 ?_
      obtain ⟨v12, ev12, hf⟩ := ol_e hf
      refine g_nm ev12 ?_
      rcases oi_e hf with ⟨c13, hf⟩ | ⟨c13, hf⟩
      · refine g_icmp_lt_t (tgt := 57) C dX4_farFrom_51 (by decide) c13 ?_
        refine g_aload_n C dX4_farFrom_57 rfl 0 rfl ?_
        refine g_iload_n C dX4_farFrom_58 rfl 2 rfl ?_
        refine g_iconst (v := 1) C dX4_farFrom_59 (by decide) ?_
        refine g_iadd C dX4_farFrom_60 ?_
        refine g_iload_n C dX4_farFrom_61 rfl 3 rfl ?_
        obtain ⟨r14, σ15, h16, hf⟩ := obp_e hf
        refine g_callVi (As := [.int (x2 + 1), .int x3]) (rest := []) C (a_55 ad cy _) rfl (c_X4_leastBehind l dC dI ad cy (x2 + 1) x3) h16 hM_X4_44 cal_X4_leastBehind ⟨Nat.zero_le _, Nat.zero_le _⟩ ⟨rfl, rfl⟩ ⟨Nat.le_of_ble_eq_true rfl, Nat.le_of_ble_eq_true rfl⟩ rfl rfl (Nat.le_of_ble_eq_true rfl) dX4_farFrom_62 ?_
        refine g_istore (lv2 := [(0, .ref (ad 55)), (1, .int x1), (2, .int x2), (3, .int x3), (4, .int x4), (5, .int v10), (6, .int r14)]) C dX4_farFrom_65 (by decide) [1, 2, 3, 4, 5, 6, 0] rfl ?_
        refine g_iload C dX4_farFrom_67 6 rfl ?_
        refine g_bipush (v := (-4)) C dX4_farFrom_69 (by decide) ?_
        rcases oi_e hf with ⟨c17, hf⟩ | ⟨c17, hf⟩
        · refine g_icmp_ne_t (tgt := 79) C dX4_farFrom_71 (by decide) c17 ?_
          refine g_iload C dX4_farFrom_79 5 rfl ?_
          refine g_aload_n C dX4_farFrom_81 rfl 0 rfl ?_
          refine g_get C (a_55 ad cy _) rfl hin_X4 2 (by decide) hF_X4_11 rfl rfl dX4_farFrom_82 ?_
          refine g_iload_n C dX4_farFrom_85 rfl 2 rfl ?_
          refine g_iconst (v := 1) C dX4_farFrom_86 (by decide) ?_
          refine g_iadd C dX4_farFrom_87 ?_
          obtain ⟨v18, ev18, hf⟩ := ol_e hf
          refine g_nm ev18 ?_
          obtain ⟨h19, hf⟩ := og_e hf
          obtain ⟨q20, eq20, hf⟩ := ol_e hf
          refine g_aald C (a_56 ad cy _) rfl rfl h19 dX4_farFrom_88 ?_
          refine g_nmr eq20 ?_
          have hq20 := (o_56 h19 eq20)
          refine g_iload C dX4_farFrom_89 6 rfl ?_
          obtain ⟨h21, hf⟩ := og_e hf
          refine g_iald C (s_row hq20 ad cy _) h21 dX4_farFrom_91 ?_
          obtain ⟨v22, ev22, hf⟩ := ol_e hf
          refine g_nm ev22 ?_
          refine g_iadd C dX4_farFrom_92 ?_
          obtain ⟨rfl, rfl⟩ := os_e hf
          exact g_iret C rfl dX4_farFrom_93
        · refine g_icmp_ne_f (tgt := 79) C dX4_farFrom_71 (by decide) (Decidable.of_not_not c17) ?_
          refine g_ldc (v := 1000000) C dX4_farFrom_74 hK_X4_48 ?_
          refine g_goto (tgt := 93) C dX4_farFrom_76 (by decide) ?_
          obtain ⟨rfl, rfl⟩ := os_e hf
          exact g_iret C rfl dX4_farFrom_93
      · refine g_icmp_lt_f (tgt := 57) C dX4_farFrom_51 (by decide) c13 ?_
        refine g_iload C dX4_farFrom_54 5 rfl ?_
        obtain ⟨rfl, rfl⟩ := os_e hf
        exact g_iret C rfl dX4_farFrom_56
    · refine g_if_eq_f (tgt := 21) C dX4_farFrom_15 (by decide) c4 ?_
      refine g_ldc (v := 1000000) C dX4_farFrom_18 hK_X4_48 ?_
      obtain ⟨rfl, rfl⟩ := os_e hf
      exact g_iret C rfl dX4_farFrom_20
theorem c_X4_farFrom (l : Launch) (dC : Nat → ClassId) (dI : Nat → Nat → Nat) (ad : Nat → Nat) (cy : Nat → ClassId) (x1 : Int32) (x2 : Int32) (x3 : Int32) (x4 : Int32) : ConI l yX4_farFrom cX4_farFrom 7 (some .int) rm_X4_farFrom dC dI ad cy [.ref (ad 55), .int x1, .int x2, .int x3, .int x4] (fun σ => fX4_farFrom σ x1 x2 x3 x4) := con_i (own := RX4) (by decide) rfl (Nat.le_of_ble_eq_true rfl) (fun _ _ _ _ _ _ _ _ σ _ _ C hf => fX4_farFrom_ok C σ x1 x2 x3 x4 hf)
theorem cal_X4_farFrom : CalV yX4_farFrom RX4 cX4_farFrom 7 (some .int) 4 := ⟨hI_X4_farFrom, hS_X4_farFrom, hIni_X4, hC_X4_farFrom, by decide +kernel⟩
abbrev rm_X4_find : Room := { frames := 3, cells := 0, slots := 0, locals := 73 }
def fX4_find_b112 (sf_112 : S0 → Int32 → Int32 → Option (Int32 × S0)) (σ : S0) (x3 : Int32) (x5 : Int32) : Option (Int32 × S0) := if x3 ≤ x5 then (some (0, σ)) else (ol (x5 - 1) (fun v2 => og (¬ (v2 < 0 ∨ 12 ≤ v2.toNatClampNeg)) (ol (σ 69 v2.toNatClampNeg) (fun v4 => obp (fX4_leastBehind σ x5 v4) (fun r5 σ6 => og (¬ (x5 < 0 ∨ 12 ≤ x5.toNatClampNeg)) (ol (su σ6 69 x5.toNatClampNeg r5) (fun σ9 => ol (x5 + 1) (fun v10 => sf_112 σ9 x3 v10))))))))
set_option maxHeartbeats 1000000 in
set_option maxRecDepth 100000 in
theorem fX4_find_b112_ok {p : Program} {l : Launch} {e : Env} {s : State} {m : MethodId} {args : Array Value} {below : List Frame} {meth : Method} {c : Code} {dC : Nat → ClassId} {dI : Nat → Nat → Nat} {ad : Nat → Nat} {cy : Nat → ClassId} {sz : Nat} (C : Cx p s m args meth c RX4 cX4_find 6 none dC dI ad cy sz) {rr : Int32} {ρ : S0} (sf_112 : S0 → Int32 → Int32 → Option (Int32 × S0)) (hs_112 : ∀ (σ : S0) (x3 : Int32) (x5 : Int32) , sf_112 σ x3 x5 = some (rr, ρ) → Gw p l e rm_X4_find s m args below meth c (MQ below (QcV dC dI ad cy sz ρ) args s 0 0 (AW ad sz)) dC dI ad cy 6 sz 0 0 112 [(0, .ref (ad 55)), (3, .int x3), (5, .int x5)] [] σ) (σ : S0) (x3 : Int32) (x5 : Int32)  (hf : fX4_find_b112 sf_112 σ x3 x5 = some (rr, ρ)) : Gw p l e rm_X4_find s m args below meth c (MQ below (QcV dC dI ad cy sz ρ) args s 0 0 (AW ad sz)) dC dI ad cy 6 sz 0 0 112 [(0, .ref (ad 55)), (3, .int x3), (5, .int x5)] [] σ := by
  unfold fX4_find_b112 at hf
  refine g_iload C dX4_find_112 2 rfl ?_
  refine g_iload_n C dX4_find_114 rfl 1 rfl ?_
  rcases oi_e hf with ⟨c1, hf⟩ | ⟨c1, hf⟩
  · refine g_icmp_ge_t (tgt := 146) C dX4_find_115 (by decide) c1 ?_
    obtain ⟨rfl, rfl⟩ := os_e hf
    exact g_vret C rfl dX4_find_146
  · refine g_icmp_ge_f (tgt := 146) C dX4_find_115 (by decide) c1 ?_
    refine g_aload_n C dX4_find_118 rfl 0 rfl ?_
    refine g_get C (a_55 ad cy _) rfl hin_X4 3 (by decide) hF_X4_16 rfl rfl dX4_find_119 ?_
    refine g_iload C dX4_find_122 2 rfl ?_
    refine g_aload_n C dX4_find_124 rfl 0 rfl ?_
    refine g_iload C dX4_find_125 2 rfl ?_
    refine g_aload_n C dX4_find_127 rfl 0 rfl ?_
    refine g_get C (a_55 ad cy _) rfl hin_X4 3 (by decide) hF_X4_16 rfl rfl dX4_find_128 ?_
    refine g_iload C dX4_find_131 2 rfl ?_
    refine g_iconst (v := 1) C dX4_find_133 (by decide) ?_
    refine g_isub C dX4_find_134 ?_
    obtain ⟨v2, ev2, hf⟩ := ol_e hf
    refine g_nm ev2 ?_
    obtain ⟨h3, hf⟩ := og_e hf
    refine g_iald C (a_69 ad cy _) h3 dX4_find_135 ?_
    obtain ⟨v4, ev4, hf⟩ := ol_e hf
    refine g_nm ev4 ?_
    obtain ⟨r5, σ6, h7, hf⟩ := obp_e hf
    refine g_callVi (As := [.int x5, .int v4]) (rest := [.int x5, .ref (ad 69)]) C (a_55 ad cy _) rfl (c_X4_leastBehind l dC dI ad cy x5 v4) h7 hM_X4_44 cal_X4_leastBehind ⟨Nat.zero_le _, Nat.zero_le _⟩ ⟨rfl, rfl⟩ ⟨Nat.le_of_ble_eq_true rfl, Nat.le_of_ble_eq_true rfl⟩ rfl rfl (Nat.le_of_ble_eq_true rfl) dX4_find_136 ?_
    obtain ⟨h8, hf⟩ := og_e hf
    obtain ⟨σ9, eσ9, hf⟩ := ol_e hf
    refine g_iast C (a_69 ad cy _) h8 (w_69 ad cy _) eσ9 dX4_find_139 ?_
    obtain ⟨v10, ev10, hf⟩ := ol_e hf
    refine g_iinc (j := 2) (w := 1) (lv2 := [(0, .ref (ad 55)), (3, .int x3), (5, .int v10)]) C dX4_find_140 rfl (by decide) ev10 (by decide) [1, 2, 0] rfl ?_
    refine g_goto (tgt := 112) C dX4_find_143 (by decide) ?_
    exact g_sub [0, 1, 2] rfl (hs_112 σ9 x3 v10 hf)
def fX4_find_h112  : Nat → S0 → Int32 → Int32 → Option (Int32 × S0)
  | 0 => fun _ _ _ => none
  | n + 1 => fun σ x3 x5 => fX4_find_b112  (fX4_find_h112  n) σ x3 x5
set_option maxHeartbeats 1000000 in
set_option maxRecDepth 100000 in
theorem fX4_find_h112_ok {p : Program} {l : Launch} {e : Env} {s : State} {m : MethodId} {args : Array Value} {below : List Frame} {meth : Method} {c : Code} {dC : Nat → ClassId} {dI : Nat → Nat → Nat} {ad : Nat → Nat} {cy : Nat → ClassId} {sz : Nat} (C : Cx p s m args meth c RX4 cX4_find 6 none dC dI ad cy sz) {rr : Int32} {ρ : S0}  : ∀ (n : Nat) (σ : S0) (x3 : Int32) (x5 : Int32)  (_hf : fX4_find_h112  n σ x3 x5 = some (rr, ρ)), Gw p l e rm_X4_find s m args below meth c (MQ below (QcV dC dI ad cy sz ρ) args s 0 0 (AW ad sz)) dC dI ad cy 6 sz 0 0 112 [(0, .ref (ad 55)), (3, .int x3), (5, .int x5)] [] σ
  | 0, _, _, _, hf => by cases hf
  | n + 1, σ, x3, x5, hf => fX4_find_b112_ok C  (fX4_find_h112  n) (fX4_find_h112_ok C  n) σ x3 x5 hf
def fX4_find_b98  (σ : S0) (x3 : Int32) (x4 : Int32) (t0 : Int32) : Option (Int32 × S0) := ol (su σ 55 4 t0) (fun σ1 => og (¬ (((0 : Int32)) < 0 ∨ 12 ≤ ((0 : Int32)).toNatClampNeg)) (ol (su σ1 69 ((0 : Int32)).toNatClampNeg x4) (fun σ3 => fX4_find_h112 400 σ3 x3 1)))
set_option maxHeartbeats 1000000 in
set_option maxRecDepth 100000 in
theorem fX4_find_b98_ok {p : Program} {l : Launch} {e : Env} {s : State} {m : MethodId} {args : Array Value} {below : List Frame} {meth : Method} {c : Code} {dC : Nat → ClassId} {dI : Nat → Nat → Nat} {ad : Nat → Nat} {cy : Nat → ClassId} {sz : Nat} (C : Cx p s m args meth c RX4 cX4_find 6 none dC dI ad cy sz) {rr : Int32} {ρ : S0}  (σ : S0) (x3 : Int32) (x4 : Int32) (t0 : Int32)  (hf : fX4_find_b98 σ x3 x4 t0 = some (rr, ρ)) : Gw p l e rm_X4_find s m args below meth c (MQ below (QcV dC dI ad cy sz ρ) args s 0 0 (AW ad sz)) dC dI ad cy 6 sz 0 0 98 [(0, .ref (ad 55)), (3, .int x3), (4, .int x4)] [.int t0, .ref (ad 55)] σ := by
  unfold fX4_find_b98 at hf
  obtain ⟨σ1, eσ1, hf⟩ := ol_e hf
  refine g_put (ty := .int) C (a_55 ad cy _) rfl hin_X4 tyX4 tyX4_ok nmX4 4 (by decide) hF_X4_49 rfl rfl (by decide +kernel) rfl rfl (Nat.le_of_ble_eq_true rfl) (p_55_4 ad cy _ _) eσ1 dX4_find_98 ?_
  refine g_aload_n C dX4_find_101 rfl 0 rfl ?_
  refine g_get C (a_55 ad cy _) rfl hin_X4 3 (by decide) hF_X4_16 rfl rfl dX4_find_102 ?_
  refine g_iconst (v := 0) C dX4_find_105 (by decide) ?_
  refine g_iload C dX4_find_106 2 rfl ?_
  obtain ⟨h2, hf⟩ := og_e hf
  obtain ⟨σ3, eσ3, hf⟩ := ol_e hf
  refine g_iast C (a_69 ad cy _) h2 (w_69 ad cy _) eσ3 dX4_find_108 ?_
  refine g_iconst (v := 1) C dX4_find_109 (by decide) ?_
  refine g_istore (lv2 := [(0, .ref (ad 55)), (3, .int x3), (4, .int x4), (5, .int 1)]) C dX4_find_110 (by decide) [1, 2, 3, 0] rfl ?_
  exact g_sub [0, 1, 3] rfl (fX4_find_h112_ok C 400 σ3 x3 1 hf)
def fX4_find_b23 (sf_15 : S0 → Int32 → Int32 → Int32 → Int32 → Option (Int32 × S0)) (sf_23 : S0 → Int32 → Int32 → Int32 → Int32 → Int32 → Option (Int32 × S0)) (σ : S0) (x1 : Int32) (x2 : Int32) (x3 : Int32) (x4 : Int32) (x5 : Int32) : Option (Int32 × S0) := if (σ 32 0) ≤ x5 then (ol (x4 + (-1)) (fun v2 => sf_15 σ x1 x2 x3 v2)) else (og (¬ (x4 < 0 ∨ 12 ≤ x4.toNatClampNeg)) (ol (57 + 1 * x4.toNatClampNeg) (fun q4 => obp (fX4_farFrom σ x1 x4 x5 x2) (fun r5 σ6 => og (¬ (x5 < 0 ∨ 12 ≤ x5.toNatClampNeg)) (ol (su σ6 q4 x5.toNatClampNeg r5) (fun σ9 => ol (x5 + 1) (fun v10 => sf_23 σ9 x1 x2 x3 x4 v10)))))))
set_option maxHeartbeats 1000000 in
set_option maxRecDepth 100000 in
theorem fX4_find_b23_ok {p : Program} {l : Launch} {e : Env} {s : State} {m : MethodId} {args : Array Value} {below : List Frame} {meth : Method} {c : Code} {dC : Nat → ClassId} {dI : Nat → Nat → Nat} {ad : Nat → Nat} {cy : Nat → ClassId} {sz : Nat} (C : Cx p s m args meth c RX4 cX4_find 6 none dC dI ad cy sz) {rr : Int32} {ρ : S0} (sf_15 : S0 → Int32 → Int32 → Int32 → Int32 → Option (Int32 × S0)) (hs_15 : ∀ (σ : S0) (x1 : Int32) (x2 : Int32) (x3 : Int32) (x4 : Int32) , sf_15 σ x1 x2 x3 x4 = some (rr, ρ) → Gw p l e rm_X4_find s m args below meth c (MQ below (QcV dC dI ad cy sz ρ) args s 0 0 (AW ad sz)) dC dI ad cy 6 sz 0 0 15 [(0, .ref (ad 55)), (1, .int x1), (2, .int x2), (3, .int x3), (4, .int x4)] [] σ) (sf_23 : S0 → Int32 → Int32 → Int32 → Int32 → Int32 → Option (Int32 × S0)) (hs_23 : ∀ (σ : S0) (x1 : Int32) (x2 : Int32) (x3 : Int32) (x4 : Int32) (x5 : Int32) , sf_23 σ x1 x2 x3 x4 x5 = some (rr, ρ) → Gw p l e rm_X4_find s m args below meth c (MQ below (QcV dC dI ad cy sz ρ) args s 0 0 (AW ad sz)) dC dI ad cy 6 sz 0 0 23 [(0, .ref (ad 55)), (1, .int x1), (2, .int x2), (3, .int x3), (4, .int x4), (5, .int x5)] [] σ) (σ : S0) (x1 : Int32) (x2 : Int32) (x3 : Int32) (x4 : Int32) (x5 : Int32)  (hf : fX4_find_b23 sf_15 sf_23 σ x1 x2 x3 x4 x5 = some (rr, ρ)) : Gw p l e rm_X4_find s m args below meth c (MQ below (QcV dC dI ad cy sz ρ) args s 0 0 (AW ad sz)) dC dI ad cy 6 sz 0 0 23 [(0, .ref (ad 55)), (1, .int x1), (2, .int x2), (3, .int x3), (4, .int x4), (5, .int x5)] [] σ := by
  unfold fX4_find_b23 at hf
  refine g_iload C dX4_find_23 5 rfl ?_
  refine g_aload_n C dX4_find_25 rfl 0 rfl ?_
  refine g_get C (a_55 ad cy _) rfl hin_X4 1 (by decide) hF_X4_30 rfl rfl dX4_find_26 ?_
  refine g_get C (a_32 ad cy _) rfl hin_X1 0 (by decide) hF_X4_34 rfl rfl dX4_find_29 ?_
  rcases oi_e hf with ⟨c1, hf⟩ | ⟨c1, hf⟩
  · refine g_icmp_ge_t (tgt := 61) C dX4_find_32 (by decide) c1 ?_
    obtain ⟨v2, ev2, hf⟩ := ol_e hf
    refine g_iinc (j := 4) (w := (-1)) (lv2 := [(0, .ref (ad 55)), (1, .int x1), (2, .int x2), (3, .int x3), (4, .int v2), (5, .int x5)]) C dX4_find_61 rfl (by decide) ev2 (by decide) [1, 2, 3, 4, 0, 5] rfl ?_
    refine g_goto (tgt := 15) C dX4_find_64 (by decide) ?_
    exact g_sub [0, 1, 2, 3, 4] rfl (hs_15 σ x1 x2 x3 v2 hf)
  · refine g_icmp_ge_f (tgt := 61) C dX4_find_32 (by decide) c1 ?_
    refine g_aload_n C dX4_find_35 rfl 0 rfl ?_
    refine g_get C (a_55 ad cy _) rfl hin_X4 2 (by decide) hF_X4_11 rfl rfl dX4_find_36 ?_
    refine g_iload C dX4_find_39 4 rfl ?_
    obtain ⟨h3, hf⟩ := og_e hf
    obtain ⟨q4, eq4, hf⟩ := ol_e hf
    refine g_aald C (a_56 ad cy _) rfl rfl h3 dX4_find_41 ?_
    refine g_nmr eq4 ?_
    have hq4 := (o_56 h3 eq4)
    refine g_iload C dX4_find_42 5 rfl ?_
    refine g_aload_n C dX4_find_44 rfl 0 rfl ?_
    refine g_iload_n C dX4_find_45 rfl 1 rfl ?_
    refine g_iload C dX4_find_46 4 rfl ?_
    refine g_iload C dX4_find_48 5 rfl ?_
    refine g_iload_n C dX4_find_50 rfl 2 rfl ?_
    obtain ⟨r5, σ6, h7, hf⟩ := obp_e hf
    refine g_callVi (As := [.int x1, .int x4, .int x5, .int x2]) (rest := [.int x5, .ref (ad q4)]) C (a_55 ad cy _) rfl (c_X4_farFrom l dC dI ad cy x1 x4 x5 x2) h7 hM_X4_40 cal_X4_farFrom ⟨Nat.zero_le _, Nat.zero_le _⟩ ⟨rfl, rfl⟩ ⟨Nat.le_of_ble_eq_true rfl, Nat.le_of_ble_eq_true rfl⟩ rfl rfl (Nat.le_of_ble_eq_true rfl) dX4_find_51 ?_
    obtain ⟨h8, hf⟩ := og_e hf
    obtain ⟨σ9, eσ9, hf⟩ := ol_e hf
    refine g_iast C (s_row hq4 ad cy _) h8 (ws_row hq4 ad cy _) eσ9 dX4_find_54 ?_
    obtain ⟨v10, ev10, hf⟩ := ol_e hf
    refine g_iinc (j := 5) (w := 1) (lv2 := [(0, .ref (ad 55)), (1, .int x1), (2, .int x2), (3, .int x3), (4, .int x4), (5, .int v10)]) C dX4_find_55 rfl (by decide) ev10 (by decide) [1, 2, 3, 4, 5, 0] rfl ?_
    refine g_goto (tgt := 23) C dX4_find_58 (by decide) ?_
    exact g_sub [0, 1, 2, 3, 4, 5] rfl (hs_23 σ9 x1 x2 x3 x4 v10 hf)
def fX4_find_h23 (sf_15 : S0 → Int32 → Int32 → Int32 → Int32 → Option (Int32 × S0)) : Nat → S0 → Int32 → Int32 → Int32 → Int32 → Int32 → Option (Int32 × S0)
  | 0 => fun _ _ _ _ _ _ => none
  | n + 1 => fun σ x1 x2 x3 x4 x5 => fX4_find_b23 sf_15 (fX4_find_h23 sf_15 n) σ x1 x2 x3 x4 x5
set_option maxHeartbeats 1000000 in
set_option maxRecDepth 100000 in
theorem fX4_find_h23_ok {p : Program} {l : Launch} {e : Env} {s : State} {m : MethodId} {args : Array Value} {below : List Frame} {meth : Method} {c : Code} {dC : Nat → ClassId} {dI : Nat → Nat → Nat} {ad : Nat → Nat} {cy : Nat → ClassId} {sz : Nat} (C : Cx p s m args meth c RX4 cX4_find 6 none dC dI ad cy sz) {rr : Int32} {ρ : S0} (sf_15 : S0 → Int32 → Int32 → Int32 → Int32 → Option (Int32 × S0)) (hs_15 : ∀ (σ : S0) (x1 : Int32) (x2 : Int32) (x3 : Int32) (x4 : Int32) , sf_15 σ x1 x2 x3 x4 = some (rr, ρ) → Gw p l e rm_X4_find s m args below meth c (MQ below (QcV dC dI ad cy sz ρ) args s 0 0 (AW ad sz)) dC dI ad cy 6 sz 0 0 15 [(0, .ref (ad 55)), (1, .int x1), (2, .int x2), (3, .int x3), (4, .int x4)] [] σ) : ∀ (n : Nat) (σ : S0) (x1 : Int32) (x2 : Int32) (x3 : Int32) (x4 : Int32) (x5 : Int32)  (_hf : fX4_find_h23 sf_15 n σ x1 x2 x3 x4 x5 = some (rr, ρ)), Gw p l e rm_X4_find s m args below meth c (MQ below (QcV dC dI ad cy sz ρ) args s 0 0 (AW ad sz)) dC dI ad cy 6 sz 0 0 23 [(0, .ref (ad 55)), (1, .int x1), (2, .int x2), (3, .int x3), (4, .int x4), (5, .int x5)] [] σ
  | 0, _, _, _, _, _, _, hf => by cases hf
  | n + 1, σ, x1, x2, x3, x4, x5, hf => fX4_find_b23_ok C sf_15 hs_15 (fX4_find_h23 sf_15 n) (fX4_find_h23_ok C sf_15 hs_15 n) σ x1 x2 x3 x4 x5 hf
def fX4_find_b15 (sf_15 : S0 → Int32 → Int32 → Int32 → Int32 → Option (Int32 × S0)) (σ : S0) (x1 : Int32) (x2 : Int32) (x3 : Int32) (x4 : Int32) : Option (Int32 × S0) := if x4 < 0 then (obp (fX4_leastBehind σ ((0 : Int32)) (((-4) : Int32))) (fun r2 σ3 => if ¬ r2 = ((-4)) then (og (¬ (((0 : Int32)) < 0 ∨ 12 ≤ ((0 : Int32)).toNatClampNeg)) (ol (57 + 1 * ((0 : Int32)).toNatClampNeg) (fun q7 => og (¬ (r2 < 0 ∨ 12 ≤ r2.toNatClampNeg)) (ol (σ3 q7 r2.toNatClampNeg) (fun v9 => fX4_find_b98 σ3 x3 r2 v9))))) else (fX4_find_b98 σ3 x3 r2 1000000))) else (fX4_find_h23 sf_15 400 σ x1 x2 x3 x4 0)
set_option maxHeartbeats 1000000 in
set_option maxRecDepth 100000 in
theorem fX4_find_b15_ok {p : Program} {l : Launch} {e : Env} {s : State} {m : MethodId} {args : Array Value} {below : List Frame} {meth : Method} {c : Code} {dC : Nat → ClassId} {dI : Nat → Nat → Nat} {ad : Nat → Nat} {cy : Nat → ClassId} {sz : Nat} (C : Cx p s m args meth c RX4 cX4_find 6 none dC dI ad cy sz) {rr : Int32} {ρ : S0} (sf_15 : S0 → Int32 → Int32 → Int32 → Int32 → Option (Int32 × S0)) (hs_15 : ∀ (σ : S0) (x1 : Int32) (x2 : Int32) (x3 : Int32) (x4 : Int32) , sf_15 σ x1 x2 x3 x4 = some (rr, ρ) → Gw p l e rm_X4_find s m args below meth c (MQ below (QcV dC dI ad cy sz ρ) args s 0 0 (AW ad sz)) dC dI ad cy 6 sz 0 0 15 [(0, .ref (ad 55)), (1, .int x1), (2, .int x2), (3, .int x3), (4, .int x4)] [] σ) (σ : S0) (x1 : Int32) (x2 : Int32) (x3 : Int32) (x4 : Int32)  (hf : fX4_find_b15 sf_15 σ x1 x2 x3 x4 = some (rr, ρ)) : Gw p l e rm_X4_find s m args below meth c (MQ below (QcV dC dI ad cy sz ρ) args s 0 0 (AW ad sz)) dC dI ad cy 6 sz 0 0 15 [(0, .ref (ad 55)), (1, .int x1), (2, .int x2), (3, .int x3), (4, .int x4)] [] σ := by
  unfold fX4_find_b15 at hf
  refine g_iload C dX4_find_15 4 rfl ?_
  rcases oi_e hf with ⟨c1, hf⟩ | ⟨c1, hf⟩
  · refine g_if_lt_t (tgt := 67) C dX4_find_17 (by decide) c1 ?_
    refine g_aload_n C dX4_find_67 rfl 0 rfl ?_
    refine g_iconst (v := 0) C dX4_find_68 (by decide) ?_
    refine g_bipush (v := (-4)) C dX4_find_69 (by decide) ?_
    obtain ⟨r2, σ3, h4, hf⟩ := obp_e hf
    refine g_callVi (As := [.int 0, .int ((-4))]) (rest := []) C (a_55 ad cy _) rfl (c_X4_leastBehind l dC dI ad cy ((0 : Int32)) (((-4) : Int32))) h4 hM_X4_44 cal_X4_leastBehind ⟨Nat.zero_le _, Nat.zero_le _⟩ ⟨rfl, rfl⟩ ⟨Nat.le_of_ble_eq_true rfl, Nat.le_of_ble_eq_true rfl⟩ rfl rfl (Nat.le_of_ble_eq_true rfl) dX4_find_71 ?_
    refine g_istore (lv2 := [(0, .ref (ad 55)), (1, .int x1), (2, .int x2), (3, .int x3), (4, .int r2)]) C dX4_find_74 (by decide) [1, 2, 3, 4, 0] rfl ?_
    refine g_aload_n C dX4_find_76 rfl 0 rfl ?_
    refine g_iload C dX4_find_77 4 rfl ?_
    refine g_bipush (v := (-4)) C dX4_find_79 (by decide) ?_
    rcases oi_e hf with ⟨c5, hf⟩ | ⟨c5, hf⟩
    · refine g_icmp_ne_t (tgt := 89) C dX4_find_81 (by decide) c5 ?_
      refine g_aload_n C dX4_find_89 rfl 0 rfl ?_
      refine g_get C (a_55 ad cy _) rfl hin_X4 2 (by decide) hF_X4_11 rfl rfl dX4_find_90 ?_
      refine g_iconst (v := 0) C dX4_find_93 (by decide) ?_
      obtain ⟨h6, hf⟩ := og_e hf
      obtain ⟨q7, eq7, hf⟩ := ol_e hf
      refine g_aald C (a_56 ad cy _) rfl rfl h6 dX4_find_94 ?_
      refine g_nmr eq7 ?_
      have hq7 := (o_56 h6 eq7)
      refine g_iload C dX4_find_95 4 rfl ?_
      obtain ⟨h8, hf⟩ := og_e hf
      refine g_iald C (s_row hq7 ad cy _) h8 dX4_find_97 ?_
      obtain ⟨v9, ev9, hf⟩ := ol_e hf
      refine g_nm ev9 ?_
      exact g_sub [0, 3, 4] rfl (fX4_find_b98_ok C σ3 x3 r2 v9 hf)
    · refine g_icmp_ne_f (tgt := 89) C dX4_find_81 (by decide) (Decidable.of_not_not c5) ?_
      refine g_ldc (v := 1000000) C dX4_find_84 hK_X4_48 ?_
      refine g_goto (tgt := 98) C dX4_find_86 (by decide) ?_
      exact g_sub [0, 3, 4] rfl (fX4_find_b98_ok C σ3 x3 r2 1000000 hf)
  · refine g_if_lt_f (tgt := 67) C dX4_find_17 (by decide) c1 ?_
    refine g_iconst (v := 0) C dX4_find_20 (by decide) ?_
    refine g_istore (lv2 := [(0, .ref (ad 55)), (1, .int x1), (2, .int x2), (3, .int x3), (4, .int x4), (5, .int 0)]) C dX4_find_21 (by decide) [1, 2, 3, 4, 5, 0] rfl ?_
    exact g_sub [0, 1, 2, 3, 4, 5] rfl (fX4_find_h23_ok C sf_15 hs_15 400 σ x1 x2 x3 x4 0 hf)
def fX4_find_h15  : Nat → S0 → Int32 → Int32 → Int32 → Int32 → Option (Int32 × S0)
  | 0 => fun _ _ _ _ _ => none
  | n + 1 => fun σ x1 x2 x3 x4 => fX4_find_b15  (fX4_find_h15  n) σ x1 x2 x3 x4
set_option maxHeartbeats 1000000 in
set_option maxRecDepth 100000 in
theorem fX4_find_h15_ok {p : Program} {l : Launch} {e : Env} {s : State} {m : MethodId} {args : Array Value} {below : List Frame} {meth : Method} {c : Code} {dC : Nat → ClassId} {dI : Nat → Nat → Nat} {ad : Nat → Nat} {cy : Nat → ClassId} {sz : Nat} (C : Cx p s m args meth c RX4 cX4_find 6 none dC dI ad cy sz) {rr : Int32} {ρ : S0}  : ∀ (n : Nat) (σ : S0) (x1 : Int32) (x2 : Int32) (x3 : Int32) (x4 : Int32)  (_hf : fX4_find_h15  n σ x1 x2 x3 x4 = some (rr, ρ)), Gw p l e rm_X4_find s m args below meth c (MQ below (QcV dC dI ad cy sz ρ) args s 0 0 (AW ad sz)) dC dI ad cy 6 sz 0 0 15 [(0, .ref (ad 55)), (1, .int x1), (2, .int x2), (3, .int x3), (4, .int x4)] [] σ
  | 0, _, _, _, _, _, hf => by cases hf
  | n + 1, σ, x1, x2, x3, x4, hf => fX4_find_b15_ok C  (fX4_find_h15  n) (fX4_find_h15_ok C  n) σ x1 x2 x3 x4 hf
def fX4_find (σ : S0) (x1 : Int32) (x2 : Int32) : Option (Int32 × S0) := og (¬ (x1 < 0 ∨ 6 ≤ x1.toNatClampNeg)) (ol (σ 24 x1.toNatClampNeg) (fun v2 => ol (v2 - 1) (fun v3 => fX4_find_h15 400 σ x1 x2 v2 v3)))
set_option maxHeartbeats 1000000 in
set_option maxRecDepth 100000 in
theorem fX4_find_ok {p : Program} {l : Launch} {e : Env} {s : State} {m : MethodId} {args : Array Value} {below : List Frame} {meth : Method} {c : Code} {dC : Nat → ClassId} {dI : Nat → Nat → Nat} {ad : Nat → Nat} {cy : Nat → ClassId} {sz : Nat} (C : Cx p s m args meth c RX4 cX4_find 6 none dC dI ad cy sz) {rr : Int32} {ρ : S0} (σ : S0) (x1 : Int32) (x2 : Int32)  (hf : fX4_find σ x1 x2 = some (rr, ρ)) : Gw p l e rm_X4_find s m args below meth c (MQ below (QcV dC dI ad cy sz ρ) args s 0 0 (AW ad sz)) dC dI ad cy 6 sz 0 0 0 [(0, .ref (ad 55)), (1, .int x1), (2, .int x2)] [] σ := by
  unfold fX4_find at hf
  refine g_aload_n C dX4_find_0 rfl 0 rfl ?_
  refine g_get C (a_55 ad cy _) rfl hin_X4 0 (by decide) hF_X4_20 rfl rfl dX4_find_1 ?_
  refine g_get C (a_22 ad cy _) rfl hin_X9 4 (by decide) hF_X4_31 rfl rfl dX4_find_4 ?_
  refine g_iload_n C dX4_find_7 rfl 1 rfl ?_
  obtain ⟨h1, hf⟩ := og_e hf
  refine g_iald C (a_24 ad cy _) h1 dX4_find_8 ?_
  obtain ⟨v2, ev2, hf⟩ := ol_e hf
  refine g_nm ev2 ?_
  refine g_istore_n (lv2 := [(0, .ref (ad 55)), (1, .int x1), (2, .int x2), (3, .int v2)]) C dX4_find_9 rfl (by decide) [1, 2, 3, 0] rfl ?_
  refine g_iload_n C dX4_find_10 rfl 3 rfl ?_
  refine g_iconst (v := 1) C dX4_find_11 (by decide) ?_
  refine g_isub C dX4_find_12 ?_
  obtain ⟨v3, ev3, hf⟩ := ol_e hf
  refine g_nm ev3 ?_
  refine g_istore (lv2 := [(0, .ref (ad 55)), (1, .int x1), (2, .int x2), (3, .int v2), (4, .int v3)]) C dX4_find_13 (by decide) [1, 2, 3, 4, 0] rfl ?_
  exact g_sub [0, 1, 2, 3, 4] rfl (fX4_find_h15_ok C 400 σ x1 x2 v2 v3 hf)
theorem c_X4_find (l : Launch) (dC : Nat → ClassId) (dI : Nat → Nat → Nat) (ad : Nat → Nat) (cy : Nat → ClassId) (x1 : Int32) (x2 : Int32) : ConV l yX4_find cX4_find 6 none rm_X4_find dC dI ad cy [.ref (ad 55), .int x1, .int x2] (fun σ => fX4_find σ x1 x2) := con_v (own := RX4) (by decide) rfl (Nat.le_of_ble_eq_true rfl) (fun _ _ _ _ _ _ _ _ σ _ _ C hf => fX4_find_ok C σ x1 x2 hf)
theorem cal_X4_find : CalV yX4_find RX4 cX4_find 6 none 2 := ⟨hI_X4_find, hS_X4_find, hIni_X4, hC_X4_find, by decide +kernel⟩
abbrev rm_X3_refusedBy : Room := { frames := 0, cells := 0, slots := 0, locals := 0 }
def fX3_refusedBy_b53 (sf_4 : S0 → Int32 → Int32 → Int32 → Option (Int32 × S0)) (σ : S0) (x1 : Int32) (x2 : Int32) (x3 : Int32) : Option (Int32 × S0) := ol (x3 + 1) (fun v1 => sf_4 σ x1 x2 v1)
set_option maxHeartbeats 1000000 in
set_option maxRecDepth 100000 in
theorem fX3_refusedBy_b53_ok {p : Program} {l : Launch} {e : Env} {s : State} {m : MethodId} {args : Array Value} {below : List Frame} {meth : Method} {c : Code} {dC : Nat → ClassId} {dI : Nat → Nat → Nat} {ad : Nat → Nat} {cy : Nat → ClassId} {sz : Nat} (C : Cx p s m args meth c RX3 cX3_refusedBy 4 (some .int) dC dI ad cy sz) {rr : Int32} {ρ : S0} (sf_4 : S0 → Int32 → Int32 → Int32 → Option (Int32 × S0)) (hs_4 : ∀ (σ : S0) (x1 : Int32) (x2 : Int32) (x3 : Int32) , sf_4 σ x1 x2 x3 = some (rr, ρ) → Gw p l e rm_X3_refusedBy s m args below meth c (MQ below (QcI dC dI ad cy sz rr ρ) args s 0 0 (AW ad sz)) dC dI ad cy 4 sz 0 0 4 [(0, .ref (ad 70)), (1, .int x1), (2, .int x2), (3, .int x3)] [] σ) (σ : S0) (x1 : Int32) (x2 : Int32) (x3 : Int32)  (hf : fX3_refusedBy_b53 sf_4 σ x1 x2 x3 = some (rr, ρ)) : Gw p l e rm_X3_refusedBy s m args below meth c (MQ below (QcI dC dI ad cy sz rr ρ) args s 0 0 (AW ad sz)) dC dI ad cy 4 sz 0 0 53 [(0, .ref (ad 70)), (1, .int x1), (2, .int x2), (3, .int x3)] [] σ := by
  unfold fX3_refusedBy_b53 at hf
  obtain ⟨v1, ev1, hf⟩ := ol_e hf
  refine g_iinc (j := 3) (w := 1) (lv2 := [(0, .ref (ad 70)), (1, .int x1), (2, .int x2), (3, .int v1)]) C dX3_refusedBy_53 rfl (by decide) ev1 (by decide) [1, 2, 3, 0] rfl ?_
  refine g_goto (tgt := 4) C dX3_refusedBy_56 (by decide) ?_
  exact g_sub [0, 1, 2, 3] rfl (hs_4 σ x1 x2 v1 hf)
def fX3_refusedBy_b4 (sf_4 : S0 → Int32 → Int32 → Int32 → Option (Int32 × S0)) (σ : S0) (x1 : Int32) (x2 : Int32) (x3 : Int32) : Option (Int32 × S0) := if (σ 32 7) ≤ x3 then (some (x2, σ)) else (og (¬ (x3 < 0 ∨ 12 ≤ x3.toNatClampNeg)) (ol (σ 39 x3.toNatClampNeg) (fun v3 => if ¬ v3 = ((-4)) then (fX3_refusedBy_b53 sf_4 σ x1 x2 x3) else (og (¬ (x1 < 0 ∨ 6 ≤ x1.toNatClampNeg)) (ol (26 + 1 * x1.toNatClampNeg) (fun q6 => og (¬ (x3 < 0 ∨ 12 ≤ x3.toNatClampNeg)) (ol (σ q6 x3.toNatClampNeg) (fun v8 => og (¬ (v8 < 0 ∨ 12 ≤ v8.toNatClampNeg)) (ol (σ 33 v8.toNatClampNeg) (fun v10 => ol (x2 ||| ((1 : Int32) <<< (v10 &&& 31))) (fun v11 => fX3_refusedBy_b53 sf_4 σ x1 v11 x3)))))))))))
set_option maxHeartbeats 1000000 in
set_option maxRecDepth 100000 in
theorem fX3_refusedBy_b4_ok {p : Program} {l : Launch} {e : Env} {s : State} {m : MethodId} {args : Array Value} {below : List Frame} {meth : Method} {c : Code} {dC : Nat → ClassId} {dI : Nat → Nat → Nat} {ad : Nat → Nat} {cy : Nat → ClassId} {sz : Nat} (C : Cx p s m args meth c RX3 cX3_refusedBy 4 (some .int) dC dI ad cy sz) {rr : Int32} {ρ : S0} (sf_4 : S0 → Int32 → Int32 → Int32 → Option (Int32 × S0)) (hs_4 : ∀ (σ : S0) (x1 : Int32) (x2 : Int32) (x3 : Int32) , sf_4 σ x1 x2 x3 = some (rr, ρ) → Gw p l e rm_X3_refusedBy s m args below meth c (MQ below (QcI dC dI ad cy sz rr ρ) args s 0 0 (AW ad sz)) dC dI ad cy 4 sz 0 0 4 [(0, .ref (ad 70)), (1, .int x1), (2, .int x2), (3, .int x3)] [] σ) (σ : S0) (x1 : Int32) (x2 : Int32) (x3 : Int32)  (hf : fX3_refusedBy_b4 sf_4 σ x1 x2 x3 = some (rr, ρ)) : Gw p l e rm_X3_refusedBy s m args below meth c (MQ below (QcI dC dI ad cy sz rr ρ) args s 0 0 (AW ad sz)) dC dI ad cy 4 sz 0 0 4 [(0, .ref (ad 70)), (1, .int x1), (2, .int x2), (3, .int x3)] [] σ := by
  unfold fX3_refusedBy_b4 at hf
  refine g_iload_n C dX3_refusedBy_4 rfl 3 rfl ?_
  refine g_aload_n C dX3_refusedBy_5 rfl 0 rfl ?_
  refine g_get C (a_70 ad cy _) rfl hin_X3 1 (by decide) hF_X3_21 rfl rfl dX3_refusedBy_6 ?_
  refine g_get C (a_32 ad cy _) rfl hin_X1 7 (by decide) hF_X3_22 rfl rfl dX3_refusedBy_9 ?_
  rcases oi_e hf with ⟨c1, hf⟩ | ⟨c1, hf⟩
  · refine g_icmp_ge_t (tgt := 59) C dX3_refusedBy_12 (by decide) c1 ?_
    refine g_iload_n C dX3_refusedBy_59 rfl 2 rfl ?_
    obtain ⟨rfl, rfl⟩ := os_e hf
    exact g_iret C rfl dX3_refusedBy_60
  · refine g_icmp_ge_f (tgt := 59) C dX3_refusedBy_12 (by decide) c1 ?_
    refine g_aload_n C dX3_refusedBy_15 rfl 0 rfl ?_
    refine g_get C (a_70 ad cy _) rfl hin_X3 1 (by decide) hF_X3_21 rfl rfl dX3_refusedBy_16 ?_
    refine g_get C (a_32 ad cy _) rfl hin_X1 8 (by decide) hF_X3_32 rfl rfl dX3_refusedBy_19 ?_
    refine g_iload_n C dX3_refusedBy_22 rfl 3 rfl ?_
    obtain ⟨h2, hf⟩ := og_e hf
    refine g_iald C (a_39 ad cy _) h2 dX3_refusedBy_23 ?_
    obtain ⟨v3, ev3, hf⟩ := ol_e hf
    refine g_nm ev3 ?_
    refine g_bipush (v := (-4)) C dX3_refusedBy_24 (by decide) ?_
    rcases oi_e hf with ⟨c4, hf⟩ | ⟨c4, hf⟩
    · refine g_icmp_ne_t (tgt := 53) C dX3_refusedBy_26 (by decide) c4 ?_
      exact g_sub [0, 1, 2, 3] rfl (fX3_refusedBy_b53_ok C sf_4 hs_4 σ x1 x2 x3 hf)
    · refine g_icmp_ne_f (tgt := 53) C dX3_refusedBy_26 (by decide) (Decidable.of_not_not c4) ?_
      refine g_iload_n C dX3_refusedBy_29 rfl 2 rfl ?_
      refine g_iconst (v := 1) C dX3_refusedBy_30 (by decide) ?_
      refine g_aload_n C dX3_refusedBy_31 rfl 0 rfl ?_
      refine g_get C (a_70 ad cy _) rfl hin_X3 1 (by decide) hF_X3_21 rfl rfl dX3_refusedBy_32 ?_
      refine g_get C (a_32 ad cy _) rfl hin_X1 1 (by decide) hF_X3_38 rfl rfl dX3_refusedBy_35 ?_
      refine g_aload_n C dX3_refusedBy_38 rfl 0 rfl ?_
      refine g_get C (a_70 ad cy _) rfl hin_X3 0 (by decide) hF_X3_9 rfl rfl dX3_refusedBy_39 ?_
      refine g_get C (a_22 ad cy _) rfl hin_X9 5 (by decide) hF_X3_35 rfl rfl dX3_refusedBy_42 ?_
      refine g_iload_n C dX3_refusedBy_45 rfl 1 rfl ?_
      obtain ⟨h5, hf⟩ := og_e hf
      obtain ⟨q6, eq6, hf⟩ := ol_e hf
      refine g_aald C (a_25 ad cy _) rfl rfl h5 dX3_refusedBy_46 ?_
      refine g_nmr eq6 ?_
      have hq6 := (o_25 h5 eq6)
      refine g_iload_n C dX3_refusedBy_47 rfl 3 rfl ?_
      obtain ⟨h7, hf⟩ := og_e hf
      refine g_iald C (s_row hq6 ad cy _) h7 dX3_refusedBy_48 ?_
      obtain ⟨v8, ev8, hf⟩ := ol_e hf
      refine g_nm ev8 ?_
      obtain ⟨h9, hf⟩ := og_e hf
      refine g_iald C (a_33 ad cy _) h9 dX3_refusedBy_49 ?_
      obtain ⟨v10, ev10, hf⟩ := ol_e hf
      refine g_nm ev10 ?_
      refine g_ishl C dX3_refusedBy_50 ?_
      refine g_ior C dX3_refusedBy_51 ?_
      obtain ⟨v11, ev11, hf⟩ := ol_e hf
      refine g_nm ev11 ?_
      refine g_istore_n (lv2 := [(0, .ref (ad 70)), (1, .int x1), (2, .int v11), (3, .int x3)]) C dX3_refusedBy_52 rfl (by decide) [1, 2, 0, 3] rfl ?_
      exact g_sub [0, 1, 2, 3] rfl (fX3_refusedBy_b53_ok C sf_4 hs_4 σ x1 v11 x3 hf)
def fX3_refusedBy_h4  : Nat → S0 → Int32 → Int32 → Int32 → Option (Int32 × S0)
  | 0 => fun _ _ _ _ => none
  | n + 1 => fun σ x1 x2 x3 => fX3_refusedBy_b4  (fX3_refusedBy_h4  n) σ x1 x2 x3
set_option maxHeartbeats 1000000 in
set_option maxRecDepth 100000 in
theorem fX3_refusedBy_h4_ok {p : Program} {l : Launch} {e : Env} {s : State} {m : MethodId} {args : Array Value} {below : List Frame} {meth : Method} {c : Code} {dC : Nat → ClassId} {dI : Nat → Nat → Nat} {ad : Nat → Nat} {cy : Nat → ClassId} {sz : Nat} (C : Cx p s m args meth c RX3 cX3_refusedBy 4 (some .int) dC dI ad cy sz) {rr : Int32} {ρ : S0}  : ∀ (n : Nat) (σ : S0) (x1 : Int32) (x2 : Int32) (x3 : Int32)  (_hf : fX3_refusedBy_h4  n σ x1 x2 x3 = some (rr, ρ)), Gw p l e rm_X3_refusedBy s m args below meth c (MQ below (QcI dC dI ad cy sz rr ρ) args s 0 0 (AW ad sz)) dC dI ad cy 4 sz 0 0 4 [(0, .ref (ad 70)), (1, .int x1), (2, .int x2), (3, .int x3)] [] σ
  | 0, _, _, _, _, hf => by cases hf
  | n + 1, σ, x1, x2, x3, hf => fX3_refusedBy_b4_ok C  (fX3_refusedBy_h4  n) (fX3_refusedBy_h4_ok C  n) σ x1 x2 x3 hf
def fX3_refusedBy (σ : S0) (x1 : Int32) : Option (Int32 × S0) := fX3_refusedBy_h4 400 σ x1 0 0
set_option maxHeartbeats 1000000 in
set_option maxRecDepth 100000 in
theorem fX3_refusedBy_ok {p : Program} {l : Launch} {e : Env} {s : State} {m : MethodId} {args : Array Value} {below : List Frame} {meth : Method} {c : Code} {dC : Nat → ClassId} {dI : Nat → Nat → Nat} {ad : Nat → Nat} {cy : Nat → ClassId} {sz : Nat} (C : Cx p s m args meth c RX3 cX3_refusedBy 4 (some .int) dC dI ad cy sz) {rr : Int32} {ρ : S0} (σ : S0) (x1 : Int32)  (hf : fX3_refusedBy σ x1 = some (rr, ρ)) : Gw p l e rm_X3_refusedBy s m args below meth c (MQ below (QcI dC dI ad cy sz rr ρ) args s 0 0 (AW ad sz)) dC dI ad cy 4 sz 0 0 0 [(0, .ref (ad 70)), (1, .int x1)] [] σ := by
  unfold fX3_refusedBy at hf
  refine g_iconst (v := 0) C dX3_refusedBy_0 (by decide) ?_
  refine g_istore_n (lv2 := [(0, .ref (ad 70)), (1, .int x1), (2, .int 0)]) C dX3_refusedBy_1 rfl (by decide) [1, 2, 0] rfl ?_
  refine g_iconst (v := 0) C dX3_refusedBy_2 (by decide) ?_
  refine g_istore_n (lv2 := [(0, .ref (ad 70)), (1, .int x1), (2, .int 0), (3, .int 0)]) C dX3_refusedBy_3 rfl (by decide) [1, 2, 3, 0] rfl ?_
  exact g_sub [0, 1, 2, 3] rfl (fX3_refusedBy_h4_ok C 400 σ x1 0 0 hf)
theorem c_X3_refusedBy (l : Launch) (dC : Nat → ClassId) (dI : Nat → Nat → Nat) (ad : Nat → Nat) (cy : Nat → ClassId) (x1 : Int32) : ConI l yX3_refusedBy cX3_refusedBy 4 (some .int) rm_X3_refusedBy dC dI ad cy [.ref (ad 70), .int x1] (fun σ => fX3_refusedBy σ x1) := con_i (own := RX3) (by decide) rfl (Nat.le_of_ble_eq_true rfl) (fun _ _ _ _ _ _ _ _ σ _ _ C hf => fX3_refusedBy_ok C σ x1 hf)
theorem cal_X3_refusedBy : CalV yX3_refusedBy RX3 cX3_refusedBy 4 (some .int) 1 := ⟨hI_X3_refusedBy, hS_X3_refusedBy, hIni_X3, hC_X3_refusedBy, by decide +kernel⟩
