abbrev rm_X11_isTune : Room := { frames := 1, cells := 0, slots := 0, locals := 25 }
def fX11_isTune (σ : S0) (x1 : Int32) : Option (Int32 × S0) := obp (fX11_in σ x1.toInt64 ((0 : Int64)) (((σ 98 5) - 1).toInt64)) (fun r1 σ2 => og (r1 = 0 ∨ r1 = 1) (some (r1, σ2)))
set_option maxHeartbeats 1000000 in
set_option maxRecDepth 100000 in
theorem fX11_isTune_ok {p : Program} {l : Launch} {e : Env} {s : State} {m : MethodId} {args : Array Value} {below : List Frame} {meth : Method} {c : Code} {dC : Nat → ClassId} {dI : Nat → Nat → Nat} {ad : Nat → Nat} {cy : Nat → ClassId} {sz : Nat} (C : Cx p s m args meth c RX11 cX11_isTune 2 (some .boolean) dC dI ad cy sz) {rr : Int32} {ρ : S0} (σ : S0) (x1 : Int32)  (hf : fX11_isTune σ x1 = some (rr, ρ)) : Gw p l e rm_X11_isTune s m args below meth c (MQ below (QcI dC dI ad cy sz rr ρ) args s 0 0 (AW ad sz)) dC dI ad cy 2 sz 0 0 0 [(0, .ref (ad 98)), (1, .int x1)] [] σ := by
  unfold fX11_isTune at hf
  refine g_iload_n C dX11_isTune_0 rfl 1 rfl ?_
  refine g_i2l C dX11_isTune_1 ?_
  refine g_lconst (v := 0) C dX11_isTune_2 (by decide) ?_
  refine g_aload_n C dX11_isTune_3 rfl 0 rfl ?_
  refine g_get C (a_98 ad cy _) rfl hin_X11 5 (by decide) hF_X11_84 rfl rfl dX11_isTune_4 ?_
  refine g_iconst (v := 1) C dX11_isTune_7 (by decide) ?_
  refine g_isub C dX11_isTune_8 ?_
  refine g_i2l C dX11_isTune_9 ?_
  obtain ⟨r1, σ2, h3, hf⟩ := obp_e hf
  refine g_callSi (As := [.long x1.toInt64, .long 0, .long (((σ 98 5) - 1).toInt64)]) (rest := []) C (c_X11_in l dC dI ad cy x1.toInt64 ((0 : Int64)) (((σ 98 5) - 1).toInt64)) h3 hM_X11_92 cal_X11_in ⟨Nat.zero_le _, Nat.zero_le _⟩ ⟨rfl, rfl⟩ ⟨Nat.le_of_ble_eq_true rfl, Nat.le_of_ble_eq_true rfl⟩ rfl rfl (Nat.le_of_ble_eq_true rfl) dX11_isTune_10 ?_
  obtain ⟨h4, hf⟩ := og_e hf
  obtain ⟨rfl, rfl⟩ := os_e hf
  exact g_zret C rfl (zb_ok h4) dX11_isTune_13
theorem c_X11_isTune (l : Launch) (dC : Nat → ClassId) (dI : Nat → Nat → Nat) (ad : Nat → Nat) (cy : Nat → ClassId) (x1 : Int32) : ConI l yX11_isTune cX11_isTune 2 (some .boolean) rm_X11_isTune dC dI ad cy [.ref (ad 98), .int x1] (fun σ => fX11_isTune σ x1) := con_i (own := RX11) (by decide) rfl (Nat.le_of_ble_eq_true rfl) (fun _ _ _ _ _ _ _ _ σ _ _ C hf => fX11_isTune_ok C σ x1 hf)
theorem cal_X11_isTune : CalV yX11_isTune RX11 cX11_isTune 2 (some .boolean) 1 := ⟨hI_X11_isTune, hS_X11_isTune, hIni_X11, hC_X11_isTune, by decide +kernel⟩
abbrev rm_X11_of : Room := { frames := 0, cells := 0, slots := 0, locals := 0 }
def fX11_of (σ : S0) (x1 : Int32) (x2 : Int32) : Option (Int32 × S0) := ol ((5 * x1) + x2) (fun v1 => og (¬ (v1 < 0 ∨ 240 ≤ v1.toNatClampNeg)) (ol (σ 99 v1.toNatClampNeg) (fun v3 => some (v3, σ))))
set_option maxHeartbeats 1000000 in
set_option maxRecDepth 100000 in
theorem fX11_of_ok {p : Program} {l : Launch} {e : Env} {s : State} {m : MethodId} {args : Array Value} {below : List Frame} {meth : Method} {c : Code} {dC : Nat → ClassId} {dI : Nat → Nat → Nat} {ad : Nat → Nat} {cy : Nat → ClassId} {sz : Nat} (C : Cx p s m args meth c RX11 cX11_of 3 (some .int) dC dI ad cy sz) {rr : Int32} {ρ : S0} (σ : S0) (x1 : Int32) (x2 : Int32)  (hf : fX11_of σ x1 x2 = some (rr, ρ)) : Gw p l e rm_X11_of s m args below meth c (MQ below (QcI dC dI ad cy sz rr ρ) args s 0 0 (AW ad sz)) dC dI ad cy 3 sz 0 0 0 [(0, .ref (ad 98)), (1, .int x1), (2, .int x2)] [] σ := by
  unfold fX11_of at hf
  refine g_aload_n C dX11_of_0 rfl 0 rfl ?_
  refine g_get C (a_98 ad cy _) rfl hin_X11 0 (by decide) hF_X11_7 rfl rfl dX11_of_1 ?_
  refine g_iconst (v := 5) C dX11_of_4 (by decide) ?_
  refine g_iload_n C dX11_of_5 rfl 1 rfl ?_
  refine g_imul C dX11_of_6 ?_
  refine g_iload_n C dX11_of_7 rfl 2 rfl ?_
  refine g_iadd C dX11_of_8 ?_
  obtain ⟨v1, ev1, hf⟩ := ol_e hf
  refine g_nm ev1 ?_
  obtain ⟨h2, hf⟩ := og_e hf
  refine g_iald C (a_99 ad cy _) h2 dX11_of_9 ?_
  obtain ⟨v3, ev3, hf⟩ := ol_e hf
  refine g_nm ev3 ?_
  obtain ⟨rfl, rfl⟩ := os_e hf
  exact g_iret C rfl dX11_of_10
theorem c_X11_of (l : Launch) (dC : Nat → ClassId) (dI : Nat → Nat → Nat) (ad : Nat → Nat) (cy : Nat → ClassId) (x1 : Int32) (x2 : Int32) : ConI l yX11_of cX11_of 3 (some .int) rm_X11_of dC dI ad cy [.ref (ad 98), .int x1, .int x2] (fun σ => fX11_of σ x1 x2) := con_i (own := RX11) (by decide) rfl (Nat.le_of_ble_eq_true rfl) (fun _ _ _ _ _ _ _ _ σ _ _ C hf => fX11_of_ok C σ x1 x2 hf)
theorem cal_X11_of : CalV yX11_of RX11 cX11_of 3 (some .int) 2 := ⟨hI_X11_of, hS_X11_of, hIni_X11, hC_X11_of, by decide +kernel⟩
abbrev rm_X11_strokes : Room := { frames := 0, cells := 0, slots := 0, locals := 0 }
def fX11_strokes (σ : S0) (x1 : Int32) : Option (Int32 × S0) := ol ((14 * x1) + 1) (fun v1 => og (¬ (v1 < 0 ∨ 84 ≤ v1.toNatClampNeg)) (ol (σ 101 v1.toNatClampNeg) (fun v3 => some (v3, σ))))
set_option maxHeartbeats 1000000 in
set_option maxRecDepth 100000 in
theorem fX11_strokes_ok {p : Program} {l : Launch} {e : Env} {s : State} {m : MethodId} {args : Array Value} {below : List Frame} {meth : Method} {c : Code} {dC : Nat → ClassId} {dI : Nat → Nat → Nat} {ad : Nat → Nat} {cy : Nat → ClassId} {sz : Nat} (C : Cx p s m args meth c RX11 cX11_strokes 2 (some .int) dC dI ad cy sz) {rr : Int32} {ρ : S0} (σ : S0) (x1 : Int32)  (hf : fX11_strokes σ x1 = some (rr, ρ)) : Gw p l e rm_X11_strokes s m args below meth c (MQ below (QcI dC dI ad cy sz rr ρ) args s 0 0 (AW ad sz)) dC dI ad cy 2 sz 0 0 0 [(0, .ref (ad 98)), (1, .int x1)] [] σ := by
  unfold fX11_strokes at hf
  refine g_aload_n C dX11_strokes_0 rfl 0 rfl ?_
  refine g_get C (a_98 ad cy _) rfl hin_X11 6 (by decide) hF_X11_17 rfl rfl dX11_strokes_1 ?_
  refine g_bipush (v := 14) C dX11_strokes_4 (by decide) ?_
  refine g_iload_n C dX11_strokes_6 rfl 1 rfl ?_
  refine g_imul C dX11_strokes_7 ?_
  refine g_iconst (v := 1) C dX11_strokes_8 (by decide) ?_
  refine g_iadd C dX11_strokes_9 ?_
  obtain ⟨v1, ev1, hf⟩ := ol_e hf
  refine g_nm ev1 ?_
  obtain ⟨h2, hf⟩ := og_e hf
  refine g_iald C (a_101 ad cy _) h2 dX11_strokes_10 ?_
  obtain ⟨v3, ev3, hf⟩ := ol_e hf
  refine g_nm ev3 ?_
  obtain ⟨rfl, rfl⟩ := os_e hf
  exact g_iret C rfl dX11_strokes_11
theorem c_X11_strokes (l : Launch) (dC : Nat → ClassId) (dI : Nat → Nat → Nat) (ad : Nat → Nat) (cy : Nat → ClassId) (x1 : Int32) : ConI l yX11_strokes cX11_strokes 2 (some .int) rm_X11_strokes dC dI ad cy [.ref (ad 98), .int x1] (fun σ => fX11_strokes σ x1) := con_i (own := RX11) (by decide) rfl (Nat.le_of_ble_eq_true rfl) (fun _ _ _ _ _ _ _ _ σ _ _ C hf => fX11_strokes_ok C σ x1 hf)
theorem cal_X11_strokes : CalV yX11_strokes RX11 cX11_strokes 2 (some .int) 1 := ⟨hI_X11_strokes, hS_X11_strokes, hIni_X11, hC_X11_strokes, by decide +kernel⟩
abbrev rm_X11_stroke : Room := { frames := 0, cells := 0, slots := 0, locals := 0 }
def fX11_stroke (σ : S0) (x1 : Int32) (x2 : Int32) : Option (Int32 × S0) := ol (((14 * x1) + 2) + x2) (fun v1 => og (¬ (v1 < 0 ∨ 84 ≤ v1.toNatClampNeg)) (ol (σ 101 v1.toNatClampNeg) (fun v3 => some (v3, σ))))
set_option maxHeartbeats 1000000 in
set_option maxRecDepth 100000 in
theorem fX11_stroke_ok {p : Program} {l : Launch} {e : Env} {s : State} {m : MethodId} {args : Array Value} {below : List Frame} {meth : Method} {c : Code} {dC : Nat → ClassId} {dI : Nat → Nat → Nat} {ad : Nat → Nat} {cy : Nat → ClassId} {sz : Nat} (C : Cx p s m args meth c RX11 cX11_stroke 3 (some .int) dC dI ad cy sz) {rr : Int32} {ρ : S0} (σ : S0) (x1 : Int32) (x2 : Int32)  (hf : fX11_stroke σ x1 x2 = some (rr, ρ)) : Gw p l e rm_X11_stroke s m args below meth c (MQ below (QcI dC dI ad cy sz rr ρ) args s 0 0 (AW ad sz)) dC dI ad cy 3 sz 0 0 0 [(0, .ref (ad 98)), (1, .int x1), (2, .int x2)] [] σ := by
  unfold fX11_stroke at hf
  refine g_aload_n C dX11_stroke_0 rfl 0 rfl ?_
  refine g_get C (a_98 ad cy _) rfl hin_X11 6 (by decide) hF_X11_17 rfl rfl dX11_stroke_1 ?_
  refine g_bipush (v := 14) C dX11_stroke_4 (by decide) ?_
  refine g_iload_n C dX11_stroke_6 rfl 1 rfl ?_
  refine g_imul C dX11_stroke_7 ?_
  refine g_iconst (v := 2) C dX11_stroke_8 (by decide) ?_
  refine g_iadd C dX11_stroke_9 ?_
  refine g_iload_n C dX11_stroke_10 rfl 2 rfl ?_
  refine g_iadd C dX11_stroke_11 ?_
  obtain ⟨v1, ev1, hf⟩ := ol_e hf
  refine g_nm ev1 ?_
  obtain ⟨h2, hf⟩ := og_e hf
  refine g_iald C (a_101 ad cy _) h2 dX11_stroke_12 ?_
  obtain ⟨v3, ev3, hf⟩ := ol_e hf
  refine g_nm ev3 ?_
  obtain ⟨rfl, rfl⟩ := os_e hf
  exact g_iret C rfl dX11_stroke_13
theorem c_X11_stroke (l : Launch) (dC : Nat → ClassId) (dI : Nat → Nat → Nat) (ad : Nat → Nat) (cy : Nat → ClassId) (x1 : Int32) (x2 : Int32) : ConI l yX11_stroke cX11_stroke 3 (some .int) rm_X11_stroke dC dI ad cy [.ref (ad 98), .int x1, .int x2] (fun σ => fX11_stroke σ x1 x2) := con_i (own := RX11) (by decide) rfl (Nat.le_of_ble_eq_true rfl) (fun _ _ _ _ _ _ _ _ σ _ _ C hf => fX11_stroke_ok C σ x1 x2 hf)
theorem cal_X11_stroke : CalV yX11_stroke RX11 cX11_stroke 3 (some .int) 2 := ⟨hI_X11_stroke, hS_X11_stroke, hIni_X11, hC_X11_stroke, by decide +kernel⟩
abbrev rm_X11_bell : Room := { frames := 2, cells := 0, slots := 0, locals := 46 }
def fX11_bell (σ : S0) (x1 : Int32) (x2 : Int32) : Option (Int32 × S0) := obp (fX11_isBell σ x1) (fun r1 σ2 => if r1 = 0 then (some ((-1), σ2)) else (obp (fX11_in σ2 x2.toInt64 ((0 : Int64)) ((4 : Int64))) (fun r5 σ6 => if r5 = 0 then (some ((-1), σ6)) else (obp (fX11_of σ6 x1 x2) (fun r9 σ10 => some (r9, σ10))))))
set_option maxHeartbeats 1000000 in
set_option maxRecDepth 100000 in
theorem fX11_bell_ok {p : Program} {l : Launch} {e : Env} {s : State} {m : MethodId} {args : Array Value} {below : List Frame} {meth : Method} {c : Code} {dC : Nat → ClassId} {dI : Nat → Nat → Nat} {ad : Nat → Nat} {cy : Nat → ClassId} {sz : Nat} (C : Cx p s m args meth c RX11 cX11_bell 3 (some .int) dC dI ad cy sz) {rr : Int32} {ρ : S0} (σ : S0) (x1 : Int32) (x2 : Int32)  (hf : fX11_bell σ x1 x2 = some (rr, ρ)) : Gw p l e rm_X11_bell s m args below meth c (MQ below (QcI dC dI ad cy sz rr ρ) args s 0 0 (AW ad sz)) dC dI ad cy 3 sz 0 0 0 [(0, .ref (ad 98)), (1, .int x1), (2, .int x2)] [] σ := by
  unfold fX11_bell at hf
  refine g_aload_n C dX11_bell_0 rfl 0 rfl ?_
  refine g_iload_n C dX11_bell_1 rfl 1 rfl ?_
  obtain ⟨r1, σ2, h3, hf⟩ := obp_e hf
  refine g_callVi (As := [.int x1]) (rest := []) C (a_98 ad cy _) rfl (c_X11_isBell l dC dI ad cy x1) h3 hM_X11_166 cal_X11_isBell ⟨Nat.zero_le _, Nat.zero_le _⟩ ⟨rfl, rfl⟩ ⟨Nat.le_of_ble_eq_true rfl, Nat.le_of_ble_eq_true rfl⟩ rfl rfl (Nat.le_of_ble_eq_true rfl) dX11_bell_2 ?_
  rcases oi_e hf with ⟨c4, hf⟩ | ⟨c4, hf⟩
  · refine g_if_eq_t (tgt := 29) C dX11_bell_5 (by decide) c4 ?_
    refine g_iconst (v := (-1)) C dX11_bell_29 (by decide) ?_
    obtain ⟨rfl, rfl⟩ := os_e hf
    exact g_iret C rfl dX11_bell_30
  · refine g_if_eq_f (tgt := 29) C dX11_bell_5 (by decide) c4 ?_
    refine g_iload_n C dX11_bell_8 rfl 2 rfl ?_
    refine g_i2l C dX11_bell_9 ?_
    refine g_lconst (v := 0) C dX11_bell_10 (by decide) ?_
    refine g_ldc2 (v := 4) C dX11_bell_11 hK_X11_170 ?_
    obtain ⟨r5, σ6, h7, hf⟩ := obp_e hf
    refine g_callSi (As := [.long x2.toInt64, .long 0, .long 4]) (rest := []) C (c_X11_in l dC dI ad cy x2.toInt64 ((0 : Int64)) ((4 : Int64))) h7 hM_X11_92 cal_X11_in ⟨Nat.zero_le _, Nat.zero_le _⟩ ⟨rfl, rfl⟩ ⟨Nat.le_of_ble_eq_true rfl, Nat.le_of_ble_eq_true rfl⟩ rfl rfl (Nat.le_of_ble_eq_true rfl) dX11_bell_14 ?_
    rcases oi_e hf with ⟨c8, hf⟩ | ⟨c8, hf⟩
    · refine g_if_eq_t (tgt := 29) C dX11_bell_17 (by decide) c8 ?_
      refine g_iconst (v := (-1)) C dX11_bell_29 (by decide) ?_
      obtain ⟨rfl, rfl⟩ := os_e hf
      exact g_iret C rfl dX11_bell_30
    · refine g_if_eq_f (tgt := 29) C dX11_bell_17 (by decide) c8 ?_
      refine g_aload_n C dX11_bell_20 rfl 0 rfl ?_
      refine g_iload_n C dX11_bell_21 rfl 1 rfl ?_
      refine g_iload_n C dX11_bell_22 rfl 2 rfl ?_
      obtain ⟨r9, σ10, h11, hf⟩ := obp_e hf
      refine g_callVi (As := [.int x1, .int x2]) (rest := []) C (a_98 ad cy _) rfl (c_X11_of l dC dI ad cy x1 x2) h11 hM_X11_172 cal_X11_of ⟨Nat.zero_le _, Nat.zero_le _⟩ ⟨rfl, rfl⟩ ⟨Nat.le_of_ble_eq_true rfl, Nat.le_of_ble_eq_true rfl⟩ rfl rfl (Nat.le_of_ble_eq_true rfl) dX11_bell_23 ?_
      refine g_goto (tgt := 30) C dX11_bell_26 (by decide) ?_
      obtain ⟨rfl, rfl⟩ := os_e hf
      exact g_iret C rfl dX11_bell_30
theorem c_X11_bell (l : Launch) (dC : Nat → ClassId) (dI : Nat → Nat → Nat) (ad : Nat → Nat) (cy : Nat → ClassId) (x1 : Int32) (x2 : Int32) : ConI l yX11_bell cX11_bell 3 (some .int) rm_X11_bell dC dI ad cy [.ref (ad 98), .int x1, .int x2] (fun σ => fX11_bell σ x1 x2) := con_i (own := RX11) (by decide) rfl (Nat.le_of_ble_eq_true rfl) (fun _ _ _ _ _ _ _ _ σ _ _ C hf => fX11_bell_ok C σ x1 x2 hf)
theorem cal_X11_bell : CalV yX11_bell RX11 cX11_bell 3 (some .int) 2 := ⟨hI_X11_bell, hS_X11_bell, hIni_X11, hC_X11_bell, by decide +kernel⟩
abbrev rm_X11_tune : Room := { frames := 2, cells := 0, slots := 0, locals := 46 }
def fX11_tune (σ : S0) (x1 : Int32) (x2 : Int32) : Option (Int32 × S0) := obp (fX11_isTune σ x1) (fun r1 σ2 => if ¬ r1 = 0 then (obp (fX11_in σ2 x2.toInt64 ((0 : Int64)) ((1 : Int64))) (fun r5 σ6 => if r5 = 0 then (obp (fX11_strokes σ6 x1) (fun r9 σ10 => obp (fX11_in σ10 x2.toInt64 ((10 : Int64)) ((9 + r9).toInt64)) (fun r12 σ13 => if r12 = 0 then (some ((-1), σ13)) else (obp (fX11_stroke σ13 x1 (x2 - 10)) (fun r16 σ17 => some (r16, σ17)))))) else (ol ((14 * x1) + x2) (fun v19 => og (¬ (v19 < 0 ∨ 84 ≤ v19.toNatClampNeg)) (ol (σ6 101 v19.toNatClampNeg) (fun v21 => some (v21, σ6))))))) else (some ((-1), σ2)))
set_option maxHeartbeats 1000000 in
set_option maxRecDepth 100000 in
theorem fX11_tune_ok {p : Program} {l : Launch} {e : Env} {s : State} {m : MethodId} {args : Array Value} {below : List Frame} {meth : Method} {c : Code} {dC : Nat → ClassId} {dI : Nat → Nat → Nat} {ad : Nat → Nat} {cy : Nat → ClassId} {sz : Nat} (C : Cx p s m args meth c RX11 cX11_tune 3 (some .int) dC dI ad cy sz) {rr : Int32} {ρ : S0} (σ : S0) (x1 : Int32) (x2 : Int32)  (hf : fX11_tune σ x1 x2 = some (rr, ρ)) : Gw p l e rm_X11_tune s m args below meth c (MQ below (QcI dC dI ad cy sz rr ρ) args s 0 0 (AW ad sz)) dC dI ad cy 3 sz 0 0 0 [(0, .ref (ad 98)), (1, .int x1), (2, .int x2)] [] σ := by
  unfold fX11_tune at hf
  refine g_aload_n C dX11_tune_0 rfl 0 rfl ?_
  refine g_iload_n C dX11_tune_1 rfl 1 rfl ?_
  obtain ⟨r1, σ2, h3, hf⟩ := obp_e hf
  refine g_callVi (As := [.int x1]) (rest := []) C (a_98 ad cy _) rfl (c_X11_isTune l dC dI ad cy x1) h3 hM_X11_175 cal_X11_isTune ⟨Nat.zero_le _, Nat.zero_le _⟩ ⟨rfl, rfl⟩ ⟨Nat.le_of_ble_eq_true rfl, Nat.le_of_ble_eq_true rfl⟩ rfl rfl (Nat.le_of_ble_eq_true rfl) dX11_tune_2 ?_
  rcases oi_e hf with ⟨c4, hf⟩ | ⟨c4, hf⟩
  · refine g_if_ne_t (tgt := 10) C dX11_tune_5 (by decide) c4 ?_
    refine g_iload_n C dX11_tune_10 rfl 2 rfl ?_
    refine g_i2l C dX11_tune_11 ?_
    refine g_lconst (v := 0) C dX11_tune_12 (by decide) ?_
    refine g_lconst (v := 1) C dX11_tune_13 (by decide) ?_
    obtain ⟨r5, σ6, h7, hf⟩ := obp_e hf
    refine g_callSi (As := [.long x2.toInt64, .long 0, .long 1]) (rest := []) C (c_X11_in l dC dI ad cy x2.toInt64 ((0 : Int64)) ((1 : Int64))) h7 hM_X11_92 cal_X11_in ⟨Nat.zero_le _, Nat.zero_le _⟩ ⟨rfl, rfl⟩ ⟨Nat.le_of_ble_eq_true rfl, Nat.le_of_ble_eq_true rfl⟩ rfl rfl (Nat.le_of_ble_eq_true rfl) dX11_tune_14 ?_
    rcases oi_e hf with ⟨c8, hf⟩ | ⟨c8, hf⟩
    · refine g_if_eq_t (tgt := 34) C dX11_tune_17 (by decide) c8 ?_
      refine g_iload_n C dX11_tune_34 rfl 2 rfl ?_
      refine g_i2l C dX11_tune_35 ?_
      refine g_ldc2 (v := 10) C dX11_tune_36 hK_X11_178 ?_
      refine g_bipush (v := 9) C dX11_tune_39 (by decide) ?_
      refine g_aload_n C dX11_tune_41 rfl 0 rfl ?_
      refine g_iload_n C dX11_tune_42 rfl 1 rfl ?_
      obtain ⟨r9, σ10, h11, hf⟩ := obp_e hf
      refine g_callVi (As := [.int x1]) (rest := [.int 9, .long 10, .long x2.toInt64]) C (a_98 ad cy _) rfl (c_X11_strokes l dC dI ad cy x1) h11 hM_X11_180 cal_X11_strokes ⟨Nat.zero_le _, Nat.zero_le _⟩ ⟨rfl, rfl⟩ ⟨Nat.le_of_ble_eq_true rfl, Nat.le_of_ble_eq_true rfl⟩ rfl rfl (Nat.le_of_ble_eq_true rfl) dX11_tune_43 ?_
      refine g_iadd C dX11_tune_46 ?_
      refine g_i2l C dX11_tune_47 ?_
      obtain ⟨r12, σ13, h14, hf⟩ := obp_e hf
      refine g_callSi (As := [.long x2.toInt64, .long 10, .long ((9 + r9).toInt64)]) (rest := []) C (c_X11_in l dC dI ad cy x2.toInt64 ((10 : Int64)) ((9 + r9).toInt64)) h14 hM_X11_92 cal_X11_in ⟨Nat.zero_le _, Nat.zero_le _⟩ ⟨rfl, rfl⟩ ⟨Nat.le_of_ble_eq_true rfl, Nat.le_of_ble_eq_true rfl⟩ rfl rfl (Nat.le_of_ble_eq_true rfl) dX11_tune_48 ?_
      rcases oi_e hf with ⟨c15, hf⟩ | ⟨c15, hf⟩
      · refine g_if_eq_t (tgt := 66) C dX11_tune_51 (by decide) c15 ?_
        refine g_iconst (v := (-1)) C dX11_tune_66 (by decide) ?_
        obtain ⟨rfl, rfl⟩ := os_e hf
        exact g_iret C rfl dX11_tune_67
      · refine g_if_eq_f (tgt := 66) C dX11_tune_51 (by decide) c15 ?_
        refine g_aload_n C dX11_tune_54 rfl 0 rfl ?_
        refine g_iload_n C dX11_tune_55 rfl 1 rfl ?_
        refine g_iload_n C dX11_tune_56 rfl 2 rfl ?_
        refine g_bipush (v := 10) C dX11_tune_57 (by decide) ?_
        refine g_isub C dX11_tune_59 ?_
        obtain ⟨r16, σ17, h18, hf⟩ := obp_e hf
        refine g_callVi (As := [.int x1, .int (x2 - 10)]) (rest := []) C (a_98 ad cy _) rfl (c_X11_stroke l dC dI ad cy x1 (x2 - 10)) h18 hM_X11_183 cal_X11_stroke ⟨Nat.zero_le _, Nat.zero_le _⟩ ⟨rfl, rfl⟩ ⟨Nat.le_of_ble_eq_true rfl, Nat.le_of_ble_eq_true rfl⟩ rfl rfl (Nat.le_of_ble_eq_true rfl) dX11_tune_60 ?_
        refine g_goto (tgt := 67) C dX11_tune_63 (by decide) ?_
        obtain ⟨rfl, rfl⟩ := os_e hf
        exact g_iret C rfl dX11_tune_67
    · refine g_if_eq_f (tgt := 34) C dX11_tune_17 (by decide) c8 ?_
      refine g_aload_n C dX11_tune_20 rfl 0 rfl ?_
      refine g_get C (a_98 ad cy _) rfl hin_X11 6 (by decide) hF_X11_17 rfl rfl dX11_tune_21 ?_
      refine g_bipush (v := 14) C dX11_tune_24 (by decide) ?_
      refine g_iload_n C dX11_tune_26 rfl 1 rfl ?_
      refine g_imul C dX11_tune_27 ?_
      refine g_iload_n C dX11_tune_28 rfl 2 rfl ?_
      refine g_iadd C dX11_tune_29 ?_
      obtain ⟨v19, ev19, hf⟩ := ol_e hf
      refine g_nm ev19 ?_
      obtain ⟨h20, hf⟩ := og_e hf
      refine g_iald C (a_101 ad cy _) h20 dX11_tune_30 ?_
      obtain ⟨v21, ev21, hf⟩ := ol_e hf
      refine g_nm ev21 ?_
      refine g_goto (tgt := 67) C dX11_tune_31 (by decide) ?_
      obtain ⟨rfl, rfl⟩ := os_e hf
      exact g_iret C rfl dX11_tune_67
  · refine g_if_ne_f (tgt := 10) C dX11_tune_5 (by decide) (Decidable.of_not_not c4) ?_
    refine g_iconst (v := (-1)) C dX11_tune_8 (by decide) ?_
    obtain ⟨rfl, rfl⟩ := os_e hf
    exact g_iret C rfl dX11_tune_9
theorem c_X11_tune (l : Launch) (dC : Nat → ClassId) (dI : Nat → Nat → Nat) (ad : Nat → Nat) (cy : Nat → ClassId) (x1 : Int32) (x2 : Int32) : ConI l yX11_tune cX11_tune 3 (some .int) rm_X11_tune dC dI ad cy [.ref (ad 98), .int x1, .int x2] (fun σ => fX11_tune σ x1 x2) := con_i (own := RX11) (by decide) rfl (Nat.le_of_ble_eq_true rfl) (fun _ _ _ _ _ _ _ _ σ _ _ C hf => fX11_tune_ok C σ x1 x2 hf)
theorem cal_X11_tune : CalV yX11_tune RX11 cX11_tune 3 (some .int) 2 := ⟨hI_X11_tune, hS_X11_tune, hIni_X11, hC_X11_tune, by decide +kernel⟩
abbrev rm_X11_feuds : Room := { frames := 2, cells := 0, slots := 0, locals := 46 }
def fX11_feuds (σ : S0) (x1 : Int32) : Option (Int32 × S0) := obp (fX11_isHouse σ x1) (fun r1 σ2 => if r1 = 0 then (some ((-1), σ2)) else (ol (60 + x1) (fun v5 => og (¬ (v5 < 0 ∨ 240 ≤ v5.toNatClampNeg)) (ol (σ2 99 v5.toNatClampNeg) (fun v7 => some (v7, σ2))))))
set_option maxHeartbeats 1000000 in
set_option maxRecDepth 100000 in
theorem fX11_feuds_ok {p : Program} {l : Launch} {e : Env} {s : State} {m : MethodId} {args : Array Value} {below : List Frame} {meth : Method} {c : Code} {dC : Nat → ClassId} {dI : Nat → Nat → Nat} {ad : Nat → Nat} {cy : Nat → ClassId} {sz : Nat} (C : Cx p s m args meth c RX11 cX11_feuds 2 (some .int) dC dI ad cy sz) {rr : Int32} {ρ : S0} (σ : S0) (x1 : Int32)  (hf : fX11_feuds σ x1 = some (rr, ρ)) : Gw p l e rm_X11_feuds s m args below meth c (MQ below (QcI dC dI ad cy sz rr ρ) args s 0 0 (AW ad sz)) dC dI ad cy 2 sz 0 0 0 [(0, .ref (ad 98)), (1, .int x1)] [] σ := by
  unfold fX11_feuds at hf
  refine g_aload_n C dX11_feuds_0 rfl 0 rfl ?_
  refine g_iload_n C dX11_feuds_1 rfl 1 rfl ?_
  obtain ⟨r1, σ2, h3, hf⟩ := obp_e hf
  refine g_callVi (As := [.int x1]) (rest := []) C (a_98 ad cy _) rfl (c_X11_isHouse l dC dI ad cy x1) h3 hM_X11_186 cal_X11_isHouse ⟨Nat.zero_le _, Nat.zero_le _⟩ ⟨rfl, rfl⟩ ⟨Nat.le_of_ble_eq_true rfl, Nat.le_of_ble_eq_true rfl⟩ rfl rfl (Nat.le_of_ble_eq_true rfl) dX11_feuds_2 ?_
  rcases oi_e hf with ⟨c4, hf⟩ | ⟨c4, hf⟩
  · refine g_if_eq_t (tgt := 20) C dX11_feuds_5 (by decide) c4 ?_
    refine g_iconst (v := (-1)) C dX11_feuds_20 (by decide) ?_
    obtain ⟨rfl, rfl⟩ := os_e hf
    exact g_iret C rfl dX11_feuds_21
  · refine g_if_eq_f (tgt := 20) C dX11_feuds_5 (by decide) c4 ?_
    refine g_aload_n C dX11_feuds_8 rfl 0 rfl ?_
    refine g_get C (a_98 ad cy _) rfl hin_X11 0 (by decide) hF_X11_7 rfl rfl dX11_feuds_9 ?_
    refine g_bipush (v := 60) C dX11_feuds_12 (by decide) ?_
    refine g_iload_n C dX11_feuds_14 rfl 1 rfl ?_
    refine g_iadd C dX11_feuds_15 ?_
    obtain ⟨v5, ev5, hf⟩ := ol_e hf
    refine g_nm ev5 ?_
    obtain ⟨h6, hf⟩ := og_e hf
    refine g_iald C (a_99 ad cy _) h6 dX11_feuds_16 ?_
    obtain ⟨v7, ev7, hf⟩ := ol_e hf
    refine g_nm ev7 ?_
    refine g_goto (tgt := 21) C dX11_feuds_17 (by decide) ?_
    obtain ⟨rfl, rfl⟩ := os_e hf
    exact g_iret C rfl dX11_feuds_21
theorem c_X11_feuds (l : Launch) (dC : Nat → ClassId) (dI : Nat → Nat → Nat) (ad : Nat → Nat) (cy : Nat → ClassId) (x1 : Int32) : ConI l yX11_feuds cX11_feuds 2 (some .int) rm_X11_feuds dC dI ad cy [.ref (ad 98), .int x1] (fun σ => fX11_feuds σ x1) := con_i (own := RX11) (by decide) rfl (Nat.le_of_ble_eq_true rfl) (fun _ _ _ _ _ _ _ _ σ _ _ C hf => fX11_feuds_ok C σ x1 hf)
theorem cal_X11_feuds : CalV yX11_feuds RX11 cX11_feuds 2 (some .int) 1 := ⟨hI_X11_feuds, hS_X11_feuds, hIni_X11, hC_X11_feuds, by decide +kernel⟩
abbrev rm_X11_fee : Room := { frames := 2, cells := 0, slots := 0, locals := 46 }
def fX11_fee (σ : S0) (x1 : Int32) (x2 : Int32) : Option (Int32 × S0) := obp (fX11_isBell σ x1) (fun r1 σ2 => if r1 = 0 then (some ((-1), σ2)) else (obp (fX11_in σ2 x2.toInt64 ((0 : Int64)) ((20 : Int64))) (fun r5 σ6 => if ¬ r5 = 0 then (obp (fX11_of σ6 x1 ((1 : Int32))) (fun r9 σ10 => ol ((5 * x1) + 1) (fun v12 => og (¬ (v12 < 0 ∨ 240 ≤ v12.toNatClampNeg)) (ol (su σ10 99 v12.toNatClampNeg x2) (fun σ14 => some (r9, σ14)))))) else (some ((-1), σ6)))))
set_option maxHeartbeats 1000000 in
set_option maxRecDepth 100000 in
theorem fX11_fee_ok {p : Program} {l : Launch} {e : Env} {s : State} {m : MethodId} {args : Array Value} {below : List Frame} {meth : Method} {c : Code} {dC : Nat → ClassId} {dI : Nat → Nat → Nat} {ad : Nat → Nat} {cy : Nat → ClassId} {sz : Nat} (C : Cx p s m args meth c RX11 cX11_fee 4 (some .int) dC dI ad cy sz) {rr : Int32} {ρ : S0} (σ : S0) (x1 : Int32) (x2 : Int32)  (hf : fX11_fee σ x1 x2 = some (rr, ρ)) : Gw p l e rm_X11_fee s m args below meth c (MQ below (QcI dC dI ad cy sz rr ρ) args s 0 0 (AW ad sz)) dC dI ad cy 4 sz 0 0 0 [(0, .ref (ad 98)), (1, .int x1), (2, .int x2)] [] σ := by
  unfold fX11_fee at hf
  refine g_aload_n C dX11_fee_0 rfl 0 rfl ?_
  refine g_iload_n C dX11_fee_1 rfl 1 rfl ?_
  obtain ⟨r1, σ2, h3, hf⟩ := obp_e hf
  refine g_callVi (As := [.int x1]) (rest := []) C (a_98 ad cy _) rfl (c_X11_isBell l dC dI ad cy x1) h3 hM_X11_166 cal_X11_isBell ⟨Nat.zero_le _, Nat.zero_le _⟩ ⟨rfl, rfl⟩ ⟨Nat.le_of_ble_eq_true rfl, Nat.le_of_ble_eq_true rfl⟩ rfl rfl (Nat.le_of_ble_eq_true rfl) dX11_fee_2 ?_
  rcases oi_e hf with ⟨c4, hf⟩ | ⟨c4, hf⟩
  · refine g_if_eq_t (tgt := 20) C dX11_fee_5 (by decide) c4 ?_
    refine g_iconst (v := (-1)) C dX11_fee_20 (by decide) ?_
    obtain ⟨rfl, rfl⟩ := os_e hf
    exact g_iret C rfl dX11_fee_21
  · refine g_if_eq_f (tgt := 20) C dX11_fee_5 (by decide) c4 ?_
    refine g_iload_n C dX11_fee_8 rfl 2 rfl ?_
    refine g_i2l C dX11_fee_9 ?_
    refine g_lconst (v := 0) C dX11_fee_10 (by decide) ?_
    refine g_ldc2 (v := 20) C dX11_fee_11 hK_X11_189 ?_
    obtain ⟨r5, σ6, h7, hf⟩ := obp_e hf
    refine g_callSi (As := [.long x2.toInt64, .long 0, .long 20]) (rest := []) C (c_X11_in l dC dI ad cy x2.toInt64 ((0 : Int64)) ((20 : Int64))) h7 hM_X11_92 cal_X11_in ⟨Nat.zero_le _, Nat.zero_le _⟩ ⟨rfl, rfl⟩ ⟨Nat.le_of_ble_eq_true rfl, Nat.le_of_ble_eq_true rfl⟩ rfl rfl (Nat.le_of_ble_eq_true rfl) dX11_fee_14 ?_
    rcases oi_e hf with ⟨c8, hf⟩ | ⟨c8, hf⟩
    · refine g_if_ne_t (tgt := 22) C dX11_fee_17 (by decide) c8 ?_
      refine g_aload_n C dX11_fee_22 rfl 0 rfl ?_
      refine g_iload_n C dX11_fee_23 rfl 1 rfl ?_
      refine g_iconst (v := 1) C dX11_fee_24 (by decide) ?_
      obtain ⟨r9, σ10, h11, hf⟩ := obp_e hf
      refine g_callVi (As := [.int x1, .int 1]) (rest := []) C (a_98 ad cy _) rfl (c_X11_of l dC dI ad cy x1 ((1 : Int32))) h11 hM_X11_172 cal_X11_of ⟨Nat.zero_le _, Nat.zero_le _⟩ ⟨rfl, rfl⟩ ⟨Nat.le_of_ble_eq_true rfl, Nat.le_of_ble_eq_true rfl⟩ rfl rfl (Nat.le_of_ble_eq_true rfl) dX11_fee_25 ?_
      refine g_istore_n (lv2 := [(0, .ref (ad 98)), (1, .int x1), (2, .int x2), (3, .int r9)]) C dX11_fee_28 rfl (by decide) [1, 2, 3, 0] rfl ?_
      refine g_aload_n C dX11_fee_29 rfl 0 rfl ?_
      refine g_get C (a_98 ad cy _) rfl hin_X11 0 (by decide) hF_X11_7 rfl rfl dX11_fee_30 ?_
      refine g_iconst (v := 5) C dX11_fee_33 (by decide) ?_
      refine g_iload_n C dX11_fee_34 rfl 1 rfl ?_
      refine g_imul C dX11_fee_35 ?_
      refine g_iconst (v := 1) C dX11_fee_36 (by decide) ?_
      refine g_iadd C dX11_fee_37 ?_
      refine g_iload_n C dX11_fee_38 rfl 2 rfl ?_
      obtain ⟨v12, ev12, hf⟩ := ol_e hf
      refine g_nm2 ev12 ?_
      obtain ⟨h13, hf⟩ := og_e hf
      obtain ⟨σ14, eσ14, hf⟩ := ol_e hf
      refine g_iast C (a_99 ad cy _) h13 (w_99 ad cy _) eσ14 dX11_fee_39 ?_
      refine g_iload_n C dX11_fee_40 rfl 3 rfl ?_
      obtain ⟨rfl, rfl⟩ := os_e hf
      exact g_iret C rfl dX11_fee_41
    · refine g_if_ne_f (tgt := 22) C dX11_fee_17 (by decide) (Decidable.of_not_not c8) ?_
      refine g_iconst (v := (-1)) C dX11_fee_20 (by decide) ?_
      obtain ⟨rfl, rfl⟩ := os_e hf
      exact g_iret C rfl dX11_fee_21
theorem c_X11_fee (l : Launch) (dC : Nat → ClassId) (dI : Nat → Nat → Nat) (ad : Nat → Nat) (cy : Nat → ClassId) (x1 : Int32) (x2 : Int32) : ConI l yX11_fee cX11_fee 4 (some .int) rm_X11_fee dC dI ad cy [.ref (ad 98), .int x1, .int x2] (fun σ => fX11_fee σ x1 x2) := con_i (own := RX11) (by decide) rfl (Nat.le_of_ble_eq_true rfl) (fun _ _ _ _ _ _ _ _ σ _ _ C hf => fX11_fee_ok C σ x1 x2 hf)
theorem cal_X11_fee : CalV yX11_fee RX11 cX11_fee 4 (some .int) 2 := ⟨hI_X11_fee, hS_X11_fee, hIni_X11, hC_X11_fee, by decide +kernel⟩
abbrev rm_X11_shut : Room := { frames := 2, cells := 0, slots := 0, locals := 46 }
def fX11_shut (σ : S0) (x1 : Int32) (x2 : Int32) : Option (Int32 × S0) := obp (fX11_isBell σ x1) (fun r1 σ2 => if ¬ r1 = 0 then (obp (fX11_of σ2 x1 ((3 : Int32))) (fun r5 σ6 => obp (fX11_flag σ6 x2) (fun r8 σ9 => ol ((5 * x1) + 3) (fun v11 => og (¬ (v11 < 0 ∨ 240 ≤ v11.toNatClampNeg)) (ol (su σ9 99 v11.toNatClampNeg r8) (fun σ13 => some (r5, σ13))))))) else (some ((-1), σ2)))
set_option maxHeartbeats 1000000 in
set_option maxRecDepth 100000 in
theorem fX11_shut_ok {p : Program} {l : Launch} {e : Env} {s : State} {m : MethodId} {args : Array Value} {below : List Frame} {meth : Method} {c : Code} {dC : Nat → ClassId} {dI : Nat → Nat → Nat} {ad : Nat → Nat} {cy : Nat → ClassId} {sz : Nat} (C : Cx p s m args meth c RX11 cX11_shut 4 (some .int) dC dI ad cy sz) {rr : Int32} {ρ : S0} (σ : S0) (x1 : Int32) (x2 : Int32)  (hf : fX11_shut σ x1 x2 = some (rr, ρ)) : Gw p l e rm_X11_shut s m args below meth c (MQ below (QcI dC dI ad cy sz rr ρ) args s 0 0 (AW ad sz)) dC dI ad cy 4 sz 0 0 0 [(0, .ref (ad 98)), (1, .int x1), (2, .int x2)] [] σ := by
  unfold fX11_shut at hf
  refine g_aload_n C dX11_shut_0 rfl 0 rfl ?_
  refine g_iload_n C dX11_shut_1 rfl 1 rfl ?_
  obtain ⟨r1, σ2, h3, hf⟩ := obp_e hf
  refine g_callVi (As := [.int x1]) (rest := []) C (a_98 ad cy _) rfl (c_X11_isBell l dC dI ad cy x1) h3 hM_X11_166 cal_X11_isBell ⟨Nat.zero_le _, Nat.zero_le _⟩ ⟨rfl, rfl⟩ ⟨Nat.le_of_ble_eq_true rfl, Nat.le_of_ble_eq_true rfl⟩ rfl rfl (Nat.le_of_ble_eq_true rfl) dX11_shut_2 ?_
  rcases oi_e hf with ⟨c4, hf⟩ | ⟨c4, hf⟩
  · refine g_if_ne_t (tgt := 10) C dX11_shut_5 (by decide) c4 ?_
    refine g_aload_n C dX11_shut_10 rfl 0 rfl ?_
    refine g_iload_n C dX11_shut_11 rfl 1 rfl ?_
    refine g_iconst (v := 3) C dX11_shut_12 (by decide) ?_
    obtain ⟨r5, σ6, h7, hf⟩ := obp_e hf
    refine g_callVi (As := [.int x1, .int 3]) (rest := []) C (a_98 ad cy _) rfl (c_X11_of l dC dI ad cy x1 ((3 : Int32))) h7 hM_X11_172 cal_X11_of ⟨Nat.zero_le _, Nat.zero_le _⟩ ⟨rfl, rfl⟩ ⟨Nat.le_of_ble_eq_true rfl, Nat.le_of_ble_eq_true rfl⟩ rfl rfl (Nat.le_of_ble_eq_true rfl) dX11_shut_13 ?_
    refine g_istore_n (lv2 := [(0, .ref (ad 98)), (1, .int x1), (2, .int x2), (3, .int r5)]) C dX11_shut_16 rfl (by decide) [1, 2, 3, 0] rfl ?_
    refine g_aload_n C dX11_shut_17 rfl 0 rfl ?_
    refine g_get C (a_98 ad cy _) rfl hin_X11 0 (by decide) hF_X11_7 rfl rfl dX11_shut_18 ?_
    refine g_iconst (v := 5) C dX11_shut_21 (by decide) ?_
    refine g_iload_n C dX11_shut_22 rfl 1 rfl ?_
    refine g_imul C dX11_shut_23 ?_
    refine g_iconst (v := 3) C dX11_shut_24 (by decide) ?_
    refine g_iadd C dX11_shut_25 ?_
    refine g_iload_n C dX11_shut_26 rfl 2 rfl ?_
    obtain ⟨r8, σ9, h10, hf⟩ := obp_e hf
    refine g_callSi (As := [.int x2]) (rest := [.int ((5 * x1) + 3), .ref (ad 99)]) C (c_X11_flag l dC dI ad cy x2) h10 hM_X11_191 cal_X11_flag ⟨Nat.zero_le _, Nat.zero_le _⟩ ⟨rfl, rfl⟩ ⟨Nat.le_of_ble_eq_true rfl, Nat.le_of_ble_eq_true rfl⟩ rfl rfl (Nat.le_of_ble_eq_true rfl) dX11_shut_27 ?_
    obtain ⟨v11, ev11, hf⟩ := ol_e hf
    refine g_nm2 ev11 ?_
    obtain ⟨h12, hf⟩ := og_e hf
    obtain ⟨σ13, eσ13, hf⟩ := ol_e hf
    refine g_iast C (a_99 ad cy _) h12 (w_99 ad cy _) eσ13 dX11_shut_30 ?_
    refine g_iload_n C dX11_shut_31 rfl 3 rfl ?_
    obtain ⟨rfl, rfl⟩ := os_e hf
    exact g_iret C rfl dX11_shut_32
  · refine g_if_ne_f (tgt := 10) C dX11_shut_5 (by decide) (Decidable.of_not_not c4) ?_
    refine g_iconst (v := (-1)) C dX11_shut_8 (by decide) ?_
    obtain ⟨rfl, rfl⟩ := os_e hf
    exact g_iret C rfl dX11_shut_9
theorem c_X11_shut (l : Launch) (dC : Nat → ClassId) (dI : Nat → Nat → Nat) (ad : Nat → Nat) (cy : Nat → ClassId) (x1 : Int32) (x2 : Int32) : ConI l yX11_shut cX11_shut 4 (some .int) rm_X11_shut dC dI ad cy [.ref (ad 98), .int x1, .int x2] (fun σ => fX11_shut σ x1 x2) := con_i (own := RX11) (by decide) rfl (Nat.le_of_ble_eq_true rfl) (fun _ _ _ _ _ _ _ _ σ _ _ C hf => fX11_shut_ok C σ x1 x2 hf)
theorem cal_X11_shut : CalV yX11_shut RX11 cX11_shut 4 (some .int) 2 := ⟨hI_X11_shut, hS_X11_shut, hIni_X11, hC_X11_shut, by decide +kernel⟩
abbrev rm_X11_sell : Room := { frames := 2, cells := 0, slots := 0, locals := 46 }
def fX11_sell_b74  (σ : S0) (x3 : Int32) (t0 : Int32) (t1 : Int32) : Option (Int32 × S0) := og (¬ (t1 < 0 ∨ 240 ≤ t1.toNatClampNeg)) (ol (su σ 99 t1.toNatClampNeg t0) (fun σ2 => some (x3, σ2)))
set_option maxHeartbeats 1000000 in
set_option maxRecDepth 100000 in
theorem fX11_sell_b74_ok {p : Program} {l : Launch} {e : Env} {s : State} {m : MethodId} {args : Array Value} {below : List Frame} {meth : Method} {c : Code} {dC : Nat → ClassId} {dI : Nat → Nat → Nat} {ad : Nat → Nat} {cy : Nat → ClassId} {sz : Nat} (C : Cx p s m args meth c RX11 cX11_sell 4 (some .int) dC dI ad cy sz) {rr : Int32} {ρ : S0}  (σ : S0) (x3 : Int32) (t0 : Int32) (t1 : Int32)  (hf : fX11_sell_b74 σ x3 t0 t1 = some (rr, ρ)) : Gw p l e rm_X11_sell s m args below meth c (MQ below (QcI dC dI ad cy sz rr ρ) args s 0 0 (AW ad sz)) dC dI ad cy 4 sz 0 0 74 [(3, .int x3)] [.int t0, .int t1, .ref (ad 99)] σ := by
  unfold fX11_sell_b74 at hf
  obtain ⟨h1, hf⟩ := og_e hf
  obtain ⟨σ2, eσ2, hf⟩ := ol_e hf
  refine g_iast C (a_99 ad cy _) h1 (w_99 ad cy _) eσ2 dX11_sell_74 ?_
  refine g_iload_n C dX11_sell_75 rfl 0 rfl ?_
  obtain ⟨rfl, rfl⟩ := os_e hf
  exact g_iret C rfl dX11_sell_76
def fX11_sell (σ : S0) (x1 : Int32) (x2 : Int32) : Option (Int32 × S0) := obp (fX11_isBell σ x1) (fun r1 σ2 => if r1 = 0 then (some ((-1), σ2)) else (obp (fX11_isHouse σ2 x2) (fun r5 σ6 => if ¬ r5 = 0 then (obp (fX11_of σ6 x1 ((0 : Int32))) (fun r9 σ10 => if ¬ r9 = x2 then (ol ((5 * x1) + 0) (fun v13 => og (¬ (v13 < 0 ∨ 240 ≤ v13.toNatClampNeg)) (ol (su σ10 99 v13.toNatClampNeg x2) (fun σ15 => obp (fX11_of σ15 x1 ((4 : Int32))) (fun r16 σ17 => if ¬ r16 = x2 then (obp (fX11_of σ17 x1 ((4 : Int32))) (fun r20 σ21 => fX11_sell_b74 σ21 r9 r20 ((5 * x1) + 4))) else (fX11_sell_b74 σ17 r9 ((-4)) ((5 * x1) + 4))))))) else (some ((-2), σ10)))) else (some ((-1), σ6)))))
set_option maxHeartbeats 1000000 in
set_option maxRecDepth 100000 in
theorem fX11_sell_ok {p : Program} {l : Launch} {e : Env} {s : State} {m : MethodId} {args : Array Value} {below : List Frame} {meth : Method} {c : Code} {dC : Nat → ClassId} {dI : Nat → Nat → Nat} {ad : Nat → Nat} {cy : Nat → ClassId} {sz : Nat} (C : Cx p s m args meth c RX11 cX11_sell 4 (some .int) dC dI ad cy sz) {rr : Int32} {ρ : S0} (σ : S0) (x1 : Int32) (x2 : Int32)  (hf : fX11_sell σ x1 x2 = some (rr, ρ)) : Gw p l e rm_X11_sell s m args below meth c (MQ below (QcI dC dI ad cy sz rr ρ) args s 0 0 (AW ad sz)) dC dI ad cy 4 sz 0 0 0 [(0, .ref (ad 98)), (1, .int x1), (2, .int x2)] [] σ := by
  unfold fX11_sell at hf
  refine g_aload_n C dX11_sell_0 rfl 0 rfl ?_
  refine g_iload_n C dX11_sell_1 rfl 1 rfl ?_
  obtain ⟨r1, σ2, h3, hf⟩ := obp_e hf
  refine g_callVi (As := [.int x1]) (rest := []) C (a_98 ad cy _) rfl (c_X11_isBell l dC dI ad cy x1) h3 hM_X11_166 cal_X11_isBell ⟨Nat.zero_le _, Nat.zero_le _⟩ ⟨rfl, rfl⟩ ⟨Nat.le_of_ble_eq_true rfl, Nat.le_of_ble_eq_true rfl⟩ rfl rfl (Nat.le_of_ble_eq_true rfl) dX11_sell_2 ?_
  rcases oi_e hf with ⟨c4, hf⟩ | ⟨c4, hf⟩
  · refine g_if_eq_t (tgt := 16) C dX11_sell_5 (by decide) c4 ?_
    refine g_iconst (v := (-1)) C dX11_sell_16 (by decide) ?_
    obtain ⟨rfl, rfl⟩ := os_e hf
    exact g_iret C rfl dX11_sell_17
  · refine g_if_eq_f (tgt := 16) C dX11_sell_5 (by decide) c4 ?_
    refine g_aload_n C dX11_sell_8 rfl 0 rfl ?_
    refine g_iload_n C dX11_sell_9 rfl 2 rfl ?_
    obtain ⟨r5, σ6, h7, hf⟩ := obp_e hf
    refine g_callVi (As := [.int x2]) (rest := []) C (a_98 ad cy _) rfl (c_X11_isHouse l dC dI ad cy x2) h7 hM_X11_186 cal_X11_isHouse ⟨Nat.zero_le _, Nat.zero_le _⟩ ⟨rfl, rfl⟩ ⟨Nat.le_of_ble_eq_true rfl, Nat.le_of_ble_eq_true rfl⟩ rfl rfl (Nat.le_of_ble_eq_true rfl) dX11_sell_10 ?_
    rcases oi_e hf with ⟨c8, hf⟩ | ⟨c8, hf⟩
    · refine g_if_ne_t (tgt := 18) C dX11_sell_13 (by decide) c8 ?_
      refine g_aload_n C dX11_sell_18 rfl 0 rfl ?_
      refine g_iload_n C dX11_sell_19 rfl 1 rfl ?_
      refine g_iconst (v := 0) C dX11_sell_20 (by decide) ?_
      obtain ⟨r9, σ10, h11, hf⟩ := obp_e hf
      refine g_callVi (As := [.int x1, .int 0]) (rest := []) C (a_98 ad cy _) rfl (c_X11_of l dC dI ad cy x1 ((0 : Int32))) h11 hM_X11_172 cal_X11_of ⟨Nat.zero_le _, Nat.zero_le _⟩ ⟨rfl, rfl⟩ ⟨Nat.le_of_ble_eq_true rfl, Nat.le_of_ble_eq_true rfl⟩ rfl rfl (Nat.le_of_ble_eq_true rfl) dX11_sell_21 ?_
      refine g_istore_n (lv2 := [(0, .ref (ad 98)), (1, .int x1), (2, .int x2), (3, .int r9)]) C dX11_sell_24 rfl (by decide) [1, 2, 3, 0] rfl ?_
      refine g_iload_n C dX11_sell_25 rfl 3 rfl ?_
      refine g_iload_n C dX11_sell_26 rfl 2 rfl ?_
      rcases oi_e hf with ⟨c12, hf⟩ | ⟨c12, hf⟩
      · refine g_icmp_ne_t (tgt := 33) C dX11_sell_27 (by decide) c12 ?_
        refine g_aload_n C dX11_sell_33 rfl 0 rfl ?_
        refine g_get C (a_98 ad cy _) rfl hin_X11 0 (by decide) hF_X11_7 rfl rfl dX11_sell_34 ?_
        refine g_iconst (v := 5) C dX11_sell_37 (by decide) ?_
        refine g_iload_n C dX11_sell_38 rfl 1 rfl ?_
        refine g_imul C dX11_sell_39 ?_
        refine g_iconst (v := 0) C dX11_sell_40 (by decide) ?_
        refine g_iadd C dX11_sell_41 ?_
        refine g_iload_n C dX11_sell_42 rfl 2 rfl ?_
        obtain ⟨v13, ev13, hf⟩ := ol_e hf
        refine g_nm2 ev13 ?_
        obtain ⟨h14, hf⟩ := og_e hf
        obtain ⟨σ15, eσ15, hf⟩ := ol_e hf
        refine g_iast C (a_99 ad cy _) h14 (w_99 ad cy _) eσ15 dX11_sell_43 ?_
        refine g_aload_n C dX11_sell_44 rfl 0 rfl ?_
        refine g_get C (a_98 ad cy _) rfl hin_X11 0 (by decide) hF_X11_7 rfl rfl dX11_sell_45 ?_
        refine g_iconst (v := 5) C dX11_sell_48 (by decide) ?_
        refine g_iload_n C dX11_sell_49 rfl 1 rfl ?_
        refine g_imul C dX11_sell_50 ?_
        refine g_iconst (v := 4) C dX11_sell_51 (by decide) ?_
        refine g_iadd C dX11_sell_52 ?_
        refine g_aload_n C dX11_sell_53 rfl 0 rfl ?_
        refine g_iload_n C dX11_sell_54 rfl 1 rfl ?_
        refine g_iconst (v := 4) C dX11_sell_55 (by decide) ?_
        obtain ⟨r16, σ17, h18, hf⟩ := obp_e hf
        refine g_callVi (As := [.int x1, .int 4]) (rest := [.int ((5 * x1) + 4), .ref (ad 99)]) C (a_98 ad cy _) rfl (c_X11_of l dC dI ad cy x1 ((4 : Int32))) h18 hM_X11_172 cal_X11_of ⟨Nat.zero_le _, Nat.zero_le _⟩ ⟨rfl, rfl⟩ ⟨Nat.le_of_ble_eq_true rfl, Nat.le_of_ble_eq_true rfl⟩ rfl rfl (Nat.le_of_ble_eq_true rfl) dX11_sell_56 ?_
        refine g_iload_n C dX11_sell_59 rfl 2 rfl ?_
        rcases oi_e hf with ⟨c19, hf⟩ | ⟨c19, hf⟩
        · refine g_icmp_ne_t (tgt := 68) C dX11_sell_60 (by decide) c19 ?_
          refine g_aload_n C dX11_sell_68 rfl 0 rfl ?_
          refine g_iload_n C dX11_sell_69 rfl 1 rfl ?_
          refine g_iconst (v := 4) C dX11_sell_70 (by decide) ?_
          obtain ⟨r20, σ21, h22, hf⟩ := obp_e hf
          refine g_callVi (As := [.int x1, .int 4]) (rest := [.int ((5 * x1) + 4), .ref (ad 99)]) C (a_98 ad cy _) rfl (c_X11_of l dC dI ad cy x1 ((4 : Int32))) h22 hM_X11_172 cal_X11_of ⟨Nat.zero_le _, Nat.zero_le _⟩ ⟨rfl, rfl⟩ ⟨Nat.le_of_ble_eq_true rfl, Nat.le_of_ble_eq_true rfl⟩ rfl rfl (Nat.le_of_ble_eq_true rfl) dX11_sell_71 ?_
          exact g_sub [3] rfl (fX11_sell_b74_ok C σ21 r9 r20 ((5 * x1) + 4) hf)
        · refine g_icmp_ne_f (tgt := 68) C dX11_sell_60 (by decide) (Decidable.of_not_not c19) ?_
          refine g_bipush (v := (-4)) C dX11_sell_63 (by decide) ?_
          refine g_goto (tgt := 74) C dX11_sell_65 (by decide) ?_
          exact g_sub [3] rfl (fX11_sell_b74_ok C σ17 r9 ((-4)) ((5 * x1) + 4) hf)
      · refine g_icmp_ne_f (tgt := 33) C dX11_sell_27 (by decide) (Decidable.of_not_not c12) ?_
        refine g_bipush (v := (-2)) C dX11_sell_30 (by decide) ?_
        obtain ⟨rfl, rfl⟩ := os_e hf
        exact g_iret C rfl dX11_sell_32
    · refine g_if_ne_f (tgt := 18) C dX11_sell_13 (by decide) (Decidable.of_not_not c8) ?_
      refine g_iconst (v := (-1)) C dX11_sell_16 (by decide) ?_
      obtain ⟨rfl, rfl⟩ := os_e hf
      exact g_iret C rfl dX11_sell_17
theorem c_X11_sell (l : Launch) (dC : Nat → ClassId) (dI : Nat → Nat → Nat) (ad : Nat → Nat) (cy : Nat → ClassId) (x1 : Int32) (x2 : Int32) : ConI l yX11_sell cX11_sell 4 (some .int) rm_X11_sell dC dI ad cy [.ref (ad 98), .int x1, .int x2] (fun σ => fX11_sell σ x1 x2) := con_i (own := RX11) (by decide) rfl (Nat.le_of_ble_eq_true rfl) (fun _ _ _ _ _ _ _ _ σ _ _ C hf => fX11_sell_ok C σ x1 x2 hf)
theorem cal_X11_sell : CalV yX11_sell RX11 cX11_sell 4 (some .int) 2 := ⟨hI_X11_sell, hS_X11_sell, hIni_X11, hC_X11_sell, by decide +kernel⟩
abbrev rm_X11_half : Room := { frames := 2, cells := 0, slots := 0, locals := 46 }
def fX11_half_b24  (σ : S0) (x1 : Int32) (x2 : Int32) : Option (Int32 × S0) := obp (fX11_of σ x1 ((0 : Int32))) (fun r1 σ2 => if ¬ r1 = x2 then (obp (fX11_of σ2 x1 ((4 : Int32))) (fun r5 σ6 => ol ((5 * x1) + 4) (fun v8 => og (¬ (v8 < 0 ∨ 240 ≤ v8.toNatClampNeg)) (ol (su σ6 99 v8.toNatClampNeg x2) (fun σ10 => some (r5, σ10)))))) else (some ((-2), σ2)))
set_option maxHeartbeats 1000000 in
set_option maxRecDepth 100000 in
theorem fX11_half_b24_ok {p : Program} {l : Launch} {e : Env} {s : State} {m : MethodId} {args : Array Value} {below : List Frame} {meth : Method} {c : Code} {dC : Nat → ClassId} {dI : Nat → Nat → Nat} {ad : Nat → Nat} {cy : Nat → ClassId} {sz : Nat} (C : Cx p s m args meth c RX11 cX11_half 4 (some .int) dC dI ad cy sz) {rr : Int32} {ρ : S0}  (σ : S0) (x1 : Int32) (x2 : Int32)  (hf : fX11_half_b24 σ x1 x2 = some (rr, ρ)) : Gw p l e rm_X11_half s m args below meth c (MQ below (QcI dC dI ad cy sz rr ρ) args s 0 0 (AW ad sz)) dC dI ad cy 4 sz 0 0 24 [(0, .ref (ad 98)), (1, .int x1), (2, .int x2)] [] σ := by
  unfold fX11_half_b24 at hf
  refine g_aload_n C dX11_half_24 rfl 0 rfl ?_
  refine g_iload_n C dX11_half_25 rfl 1 rfl ?_
  refine g_iconst (v := 0) C dX11_half_26 (by decide) ?_
  obtain ⟨r1, σ2, h3, hf⟩ := obp_e hf
  refine g_callVi (As := [.int x1, .int 0]) (rest := []) C (a_98 ad cy _) rfl (c_X11_of l dC dI ad cy x1 ((0 : Int32))) h3 hM_X11_172 cal_X11_of ⟨Nat.zero_le _, Nat.zero_le _⟩ ⟨rfl, rfl⟩ ⟨Nat.le_of_ble_eq_true rfl, Nat.le_of_ble_eq_true rfl⟩ rfl rfl (Nat.le_of_ble_eq_true rfl) dX11_half_27 ?_
  refine g_iload_n C dX11_half_30 rfl 2 rfl ?_
  rcases oi_e hf with ⟨c4, hf⟩ | ⟨c4, hf⟩
  · refine g_icmp_ne_t (tgt := 37) C dX11_half_31 (by decide) c4 ?_
    refine g_aload_n C dX11_half_37 rfl 0 rfl ?_
    refine g_iload_n C dX11_half_38 rfl 1 rfl ?_
    refine g_iconst (v := 4) C dX11_half_39 (by decide) ?_
    obtain ⟨r5, σ6, h7, hf⟩ := obp_e hf
    refine g_callVi (As := [.int x1, .int 4]) (rest := []) C (a_98 ad cy _) rfl (c_X11_of l dC dI ad cy x1 ((4 : Int32))) h7 hM_X11_172 cal_X11_of ⟨Nat.zero_le _, Nat.zero_le _⟩ ⟨rfl, rfl⟩ ⟨Nat.le_of_ble_eq_true rfl, Nat.le_of_ble_eq_true rfl⟩ rfl rfl (Nat.le_of_ble_eq_true rfl) dX11_half_40 ?_
    refine g_istore_n (lv2 := [(0, .ref (ad 98)), (1, .int x1), (2, .int x2), (3, .int r5)]) C dX11_half_43 rfl (by decide) [1, 2, 3, 0] rfl ?_
    refine g_aload_n C dX11_half_44 rfl 0 rfl ?_
    refine g_get C (a_98 ad cy _) rfl hin_X11 0 (by decide) hF_X11_7 rfl rfl dX11_half_45 ?_
    refine g_iconst (v := 5) C dX11_half_48 (by decide) ?_
    refine g_iload_n C dX11_half_49 rfl 1 rfl ?_
    refine g_imul C dX11_half_50 ?_
    refine g_iconst (v := 4) C dX11_half_51 (by decide) ?_
    refine g_iadd C dX11_half_52 ?_
    refine g_iload_n C dX11_half_53 rfl 2 rfl ?_
    obtain ⟨v8, ev8, hf⟩ := ol_e hf
    refine g_nm2 ev8 ?_
    obtain ⟨h9, hf⟩ := og_e hf
    obtain ⟨σ10, eσ10, hf⟩ := ol_e hf
    refine g_iast C (a_99 ad cy _) h9 (w_99 ad cy _) eσ10 dX11_half_54 ?_
    refine g_iload_n C dX11_half_55 rfl 3 rfl ?_
    obtain ⟨rfl, rfl⟩ := os_e hf
    exact g_iret C rfl dX11_half_56
  · refine g_icmp_ne_f (tgt := 37) C dX11_half_31 (by decide) (Decidable.of_not_not c4) ?_
    refine g_bipush (v := (-2)) C dX11_half_34 (by decide) ?_
    obtain ⟨rfl, rfl⟩ := os_e hf
    exact g_iret C rfl dX11_half_36
def fX11_half (σ : S0) (x1 : Int32) (x2 : Int32) : Option (Int32 × S0) := obp (fX11_isBell σ x1) (fun r1 σ2 => if r1 = 0 then (some ((-1), σ2)) else (if x2 = ((-4)) then (fX11_half_b24 σ2 x1 x2) else (obp (fX11_isHouse σ2 x2) (fun r6 σ7 => if ¬ r6 = 0 then (fX11_half_b24 σ7 x1 x2) else (some ((-1), σ7))))))
set_option maxHeartbeats 1000000 in
set_option maxRecDepth 100000 in
theorem fX11_half_ok {p : Program} {l : Launch} {e : Env} {s : State} {m : MethodId} {args : Array Value} {below : List Frame} {meth : Method} {c : Code} {dC : Nat → ClassId} {dI : Nat → Nat → Nat} {ad : Nat → Nat} {cy : Nat → ClassId} {sz : Nat} (C : Cx p s m args meth c RX11 cX11_half 4 (some .int) dC dI ad cy sz) {rr : Int32} {ρ : S0} (σ : S0) (x1 : Int32) (x2 : Int32)  (hf : fX11_half σ x1 x2 = some (rr, ρ)) : Gw p l e rm_X11_half s m args below meth c (MQ below (QcI dC dI ad cy sz rr ρ) args s 0 0 (AW ad sz)) dC dI ad cy 4 sz 0 0 0 [(0, .ref (ad 98)), (1, .int x1), (2, .int x2)] [] σ := by
  unfold fX11_half at hf
  refine g_aload_n C dX11_half_0 rfl 0 rfl ?_
  refine g_iload_n C dX11_half_1 rfl 1 rfl ?_
  obtain ⟨r1, σ2, h3, hf⟩ := obp_e hf
  refine g_callVi (As := [.int x1]) (rest := []) C (a_98 ad cy _) rfl (c_X11_isBell l dC dI ad cy x1) h3 hM_X11_166 cal_X11_isBell ⟨Nat.zero_le _, Nat.zero_le _⟩ ⟨rfl, rfl⟩ ⟨Nat.le_of_ble_eq_true rfl, Nat.le_of_ble_eq_true rfl⟩ rfl rfl (Nat.le_of_ble_eq_true rfl) dX11_half_2 ?_
  rcases oi_e hf with ⟨c4, hf⟩ | ⟨c4, hf⟩
  · refine g_if_eq_t (tgt := 22) C dX11_half_5 (by decide) c4 ?_
    refine g_iconst (v := (-1)) C dX11_half_22 (by decide) ?_
    obtain ⟨rfl, rfl⟩ := os_e hf
    exact g_iret C rfl dX11_half_23
  · refine g_if_eq_f (tgt := 22) C dX11_half_5 (by decide) c4 ?_
    refine g_iload_n C dX11_half_8 rfl 2 rfl ?_
    refine g_bipush (v := (-4)) C dX11_half_9 (by decide) ?_
    rcases oi_e hf with ⟨c5, hf⟩ | ⟨c5, hf⟩
    · refine g_icmp_eq_t (tgt := 24) C dX11_half_11 (by decide) c5 ?_
      exact g_sub [0, 1, 2] rfl (fX11_half_b24_ok C σ2 x1 x2 hf)
    · refine g_icmp_eq_f (tgt := 24) C dX11_half_11 (by decide) c5 ?_
      refine g_aload_n C dX11_half_14 rfl 0 rfl ?_
      refine g_iload_n C dX11_half_15 rfl 2 rfl ?_
      obtain ⟨r6, σ7, h8, hf⟩ := obp_e hf
      refine g_callVi (As := [.int x2]) (rest := []) C (a_98 ad cy _) rfl (c_X11_isHouse l dC dI ad cy x2) h8 hM_X11_186 cal_X11_isHouse ⟨Nat.zero_le _, Nat.zero_le _⟩ ⟨rfl, rfl⟩ ⟨Nat.le_of_ble_eq_true rfl, Nat.le_of_ble_eq_true rfl⟩ rfl rfl (Nat.le_of_ble_eq_true rfl) dX11_half_16 ?_
      rcases oi_e hf with ⟨c9, hf⟩ | ⟨c9, hf⟩
      · refine g_if_ne_t (tgt := 24) C dX11_half_19 (by decide) c9 ?_
        exact g_sub [0, 1, 2] rfl (fX11_half_b24_ok C σ7 x1 x2 hf)
      · refine g_if_ne_f (tgt := 24) C dX11_half_19 (by decide) (Decidable.of_not_not c9) ?_
        refine g_iconst (v := (-1)) C dX11_half_22 (by decide) ?_
        obtain ⟨rfl, rfl⟩ := os_e hf
        exact g_iret C rfl dX11_half_23
theorem c_X11_half (l : Launch) (dC : Nat → ClassId) (dI : Nat → Nat → Nat) (ad : Nat → Nat) (cy : Nat → ClassId) (x1 : Int32) (x2 : Int32) : ConI l yX11_half cX11_half 4 (some .int) rm_X11_half dC dI ad cy [.ref (ad 98), .int x1, .int x2] (fun σ => fX11_half σ x1 x2) := con_i (own := RX11) (by decide) rfl (Nat.le_of_ble_eq_true rfl) (fun _ _ _ _ _ _ _ _ σ _ _ C hf => fX11_half_ok C σ x1 x2 hf)
theorem cal_X11_half : CalV yX11_half RX11 cX11_half 4 (some .int) 2 := ⟨hI_X11_half, hS_X11_half, hIni_X11, hC_X11_half, by decide +kernel⟩
abbrev rm_X11_isFeud : Room := { frames := 0, cells := 0, slots := 0, locals := 0 }
def fX11_isFeud (σ : S0) (x1 : Int32) (x2 : Int32) : Option (Int32 × S0) := ol (60 + x1) (fun v1 => og (¬ (v1 < 0 ∨ 240 ≤ v1.toNatClampNeg)) (ol (σ 99 v1.toNatClampNeg) (fun v3 => if ¬ ((v3 >>> (x2 &&& 31)) &&& 1) = 1 then (some (0, σ)) else (some (1, σ)))))
set_option maxHeartbeats 1000000 in
set_option maxRecDepth 100000 in
theorem fX11_isFeud_ok {p : Program} {l : Launch} {e : Env} {s : State} {m : MethodId} {args : Array Value} {below : List Frame} {meth : Method} {c : Code} {dC : Nat → ClassId} {dI : Nat → Nat → Nat} {ad : Nat → Nat} {cy : Nat → ClassId} {sz : Nat} (C : Cx p s m args meth c RX11 cX11_isFeud 3 (some .boolean) dC dI ad cy sz) {rr : Int32} {ρ : S0} (σ : S0) (x1 : Int32) (x2 : Int32)  (hf : fX11_isFeud σ x1 x2 = some (rr, ρ)) : Gw p l e rm_X11_isFeud s m args below meth c (MQ below (QcI dC dI ad cy sz rr ρ) args s 0 0 (AW ad sz)) dC dI ad cy 3 sz 0 0 0 [(0, .ref (ad 98)), (1, .int x1), (2, .int x2)] [] σ := by
  unfold fX11_isFeud at hf
  refine g_aload_n C dX11_isFeud_0 rfl 0 rfl ?_
  refine g_get C (a_98 ad cy _) rfl hin_X11 0 (by decide) hF_X11_7 rfl rfl dX11_isFeud_1 ?_
  refine g_bipush (v := 60) C dX11_isFeud_4 (by decide) ?_
  refine g_iload_n C dX11_isFeud_6 rfl 1 rfl ?_
  refine g_iadd C dX11_isFeud_7 ?_
  obtain ⟨v1, ev1, hf⟩ := ol_e hf
  refine g_nm ev1 ?_
  obtain ⟨h2, hf⟩ := og_e hf
  refine g_iald C (a_99 ad cy _) h2 dX11_isFeud_8 ?_
  obtain ⟨v3, ev3, hf⟩ := ol_e hf
  refine g_nm ev3 ?_
  refine g_iload_n C dX11_isFeud_9 rfl 2 rfl ?_
  refine g_ishr C dX11_isFeud_10 ?_
  refine g_iconst (v := 1) C dX11_isFeud_11 (by decide) ?_
  refine g_iand C dX11_isFeud_12 ?_
  refine g_iconst (v := 1) C dX11_isFeud_13 (by decide) ?_
  rcases oi_e hf with ⟨c4, hf⟩ | ⟨c4, hf⟩
  · refine g_icmp_ne_t (tgt := 21) C dX11_isFeud_14 (by decide) c4 ?_
    refine g_iconst (v := 0) C dX11_isFeud_21 (by decide) ?_
    obtain ⟨rfl, rfl⟩ := os_e hf
    exact g_zret C rfl (by decide) dX11_isFeud_22
  · refine g_icmp_ne_f (tgt := 21) C dX11_isFeud_14 (by decide) (Decidable.of_not_not c4) ?_
    refine g_iconst (v := 1) C dX11_isFeud_17 (by decide) ?_
    refine g_goto (tgt := 22) C dX11_isFeud_18 (by decide) ?_
    obtain ⟨rfl, rfl⟩ := os_e hf
    exact g_zret C rfl (by decide) dX11_isFeud_22
theorem c_X11_isFeud (l : Launch) (dC : Nat → ClassId) (dI : Nat → Nat → Nat) (ad : Nat → Nat) (cy : Nat → ClassId) (x1 : Int32) (x2 : Int32) : ConI l yX11_isFeud cX11_isFeud 3 (some .boolean) rm_X11_isFeud dC dI ad cy [.ref (ad 98), .int x1, .int x2] (fun σ => fX11_isFeud σ x1 x2) := con_i (own := RX11) (by decide) rfl (Nat.le_of_ble_eq_true rfl) (fun _ _ _ _ _ _ _ _ σ _ _ C hf => fX11_isFeud_ok C σ x1 x2 hf)
theorem cal_X11_isFeud : CalV yX11_isFeud RX11 cX11_isFeud 3 (some .boolean) 2 := ⟨hI_X11_isFeud, hS_X11_isFeud, hIni_X11, hC_X11_isFeud, by decide +kernel⟩
abbrev rm_X11_setsFeud : Room := { frames := 0, cells := 0, slots := 0, locals := 0 }
def fX11_setsFeud_b87  (σ : S0) (t0 : Int32) (t1 : Int32) : Option (Int32 × S0) := og (¬ (t1 < 0 ∨ 240 ≤ t1.toNatClampNeg)) (ol (su σ 99 t1.toNatClampNeg t0) (fun σ2 => some (0, σ2)))
set_option maxHeartbeats 1000000 in
set_option maxRecDepth 100000 in
theorem fX11_setsFeud_b87_ok {p : Program} {l : Launch} {e : Env} {s : State} {m : MethodId} {args : Array Value} {below : List Frame} {meth : Method} {c : Code} {dC : Nat → ClassId} {dI : Nat → Nat → Nat} {ad : Nat → Nat} {cy : Nat → ClassId} {sz : Nat} (C : Cx p s m args meth c RX11 cX11_setsFeud 4 none dC dI ad cy sz) {rr : Int32} {ρ : S0}  (σ : S0) (t0 : Int32) (t1 : Int32)  (hf : fX11_setsFeud_b87 σ t0 t1 = some (rr, ρ)) : Gw p l e rm_X11_setsFeud s m args below meth c (MQ below (QcV dC dI ad cy sz ρ) args s 0 0 (AW ad sz)) dC dI ad cy 4 sz 0 0 87 [] [.int t0, .int t1, .ref (ad 99)] σ := by
  unfold fX11_setsFeud_b87 at hf
  obtain ⟨h1, hf⟩ := og_e hf
  obtain ⟨σ2, eσ2, hf⟩ := ol_e hf
  refine g_iast C (a_99 ad cy _) h1 (w_99 ad cy _) eσ2 dX11_setsFeud_87 ?_
  obtain ⟨rfl, rfl⟩ := os_e hf
  exact g_vret C rfl dX11_setsFeud_88
def fX11_setsFeud_b43  (σ : S0) (x1 : Int32) (x2 : Int32) (x3 : Int32) (t0 : Int32) (t1 : Int32) : Option (Int32 × S0) := og (¬ (t1 < 0 ∨ 240 ≤ t1.toNatClampNeg)) (ol (su σ 99 t1.toNatClampNeg t0) (fun σ2 => if x3 = 0 then (ol (60 + x2) (fun v4 => og (¬ (v4 < 0 ∨ 240 ≤ v4.toNatClampNeg)) (ol (σ2 99 v4.toNatClampNeg) (fun v6 => fX11_setsFeud_b87 σ2 (v6 &&& (((1 : Int32) <<< (x1 &&& 31)) ^^^ ((-1)))) (60 + x2))))) else (ol (60 + x2) (fun v7 => og (¬ (v7 < 0 ∨ 240 ≤ v7.toNatClampNeg)) (ol (σ2 99 v7.toNatClampNeg) (fun v9 => fX11_setsFeud_b87 σ2 (v9 ||| ((1 : Int32) <<< (x1 &&& 31))) (60 + x2)))))))
set_option maxHeartbeats 1000000 in
set_option maxRecDepth 100000 in
theorem fX11_setsFeud_b43_ok {p : Program} {l : Launch} {e : Env} {s : State} {m : MethodId} {args : Array Value} {below : List Frame} {meth : Method} {c : Code} {dC : Nat → ClassId} {dI : Nat → Nat → Nat} {ad : Nat → Nat} {cy : Nat → ClassId} {sz : Nat} (C : Cx p s m args meth c RX11 cX11_setsFeud 4 none dC dI ad cy sz) {rr : Int32} {ρ : S0}  (σ : S0) (x1 : Int32) (x2 : Int32) (x3 : Int32) (t0 : Int32) (t1 : Int32)  (hf : fX11_setsFeud_b43 σ x1 x2 x3 t0 t1 = some (rr, ρ)) : Gw p l e rm_X11_setsFeud s m args below meth c (MQ below (QcV dC dI ad cy sz ρ) args s 0 0 (AW ad sz)) dC dI ad cy 4 sz 0 0 43 [(0, .ref (ad 98)), (1, .int x1), (2, .int x2), (3, .int x3)] [.int t0, .int t1, .ref (ad 99)] σ := by
  unfold fX11_setsFeud_b43 at hf
  obtain ⟨h1, hf⟩ := og_e hf
  obtain ⟨σ2, eσ2, hf⟩ := ol_e hf
  refine g_iast C (a_99 ad cy _) h1 (w_99 ad cy _) eσ2 dX11_setsFeud_43 ?_
  refine g_aload_n C dX11_setsFeud_44 rfl 0 rfl ?_
  refine g_get C (a_98 ad cy _) rfl hin_X11 0 (by decide) hF_X11_7 rfl rfl dX11_setsFeud_45 ?_
  refine g_bipush (v := 60) C dX11_setsFeud_48 (by decide) ?_
  refine g_iload_n C dX11_setsFeud_50 rfl 2 rfl ?_
  refine g_iadd C dX11_setsFeud_51 ?_
  refine g_iload_n C dX11_setsFeud_52 rfl 3 rfl ?_
  rcases oi_e hf with ⟨c3, hf⟩ | ⟨c3, hf⟩
  · refine g_if_eq_t (tgt := 72) C dX11_setsFeud_53 (by decide) c3 ?_
    refine g_aload_n C dX11_setsFeud_72 rfl 0 rfl ?_
    refine g_get C (a_98 ad cy _) rfl hin_X11 0 (by decide) hF_X11_7 rfl rfl dX11_setsFeud_73 ?_
    refine g_bipush (v := 60) C dX11_setsFeud_76 (by decide) ?_
    refine g_iload_n C dX11_setsFeud_78 rfl 2 rfl ?_
    refine g_iadd C dX11_setsFeud_79 ?_
    obtain ⟨v4, ev4, hf⟩ := ol_e hf
    refine g_nm ev4 ?_
    obtain ⟨h5, hf⟩ := og_e hf
    refine g_iald C (a_99 ad cy _) h5 dX11_setsFeud_80 ?_
    obtain ⟨v6, ev6, hf⟩ := ol_e hf
    refine g_nm ev6 ?_
    refine g_iconst (v := 1) C dX11_setsFeud_81 (by decide) ?_
    refine g_iload_n C dX11_setsFeud_82 rfl 1 rfl ?_
    refine g_ishl C dX11_setsFeud_83 ?_
    refine g_iconst (v := (-1)) C dX11_setsFeud_84 (by decide) ?_
    refine g_ixor C dX11_setsFeud_85 ?_
    refine g_iand C dX11_setsFeud_86 ?_
    exact g_sub [] rfl (fX11_setsFeud_b87_ok C σ2 (v6 &&& (((1 : Int32) <<< (x1 &&& 31)) ^^^ ((-1)))) (60 + x2) hf)
  · refine g_if_eq_f (tgt := 72) C dX11_setsFeud_53 (by decide) c3 ?_
    refine g_aload_n C dX11_setsFeud_56 rfl 0 rfl ?_
    refine g_get C (a_98 ad cy _) rfl hin_X11 0 (by decide) hF_X11_7 rfl rfl dX11_setsFeud_57 ?_
    refine g_bipush (v := 60) C dX11_setsFeud_60 (by decide) ?_
    refine g_iload_n C dX11_setsFeud_62 rfl 2 rfl ?_
    refine g_iadd C dX11_setsFeud_63 ?_
    obtain ⟨v7, ev7, hf⟩ := ol_e hf
    refine g_nm ev7 ?_
    obtain ⟨h8, hf⟩ := og_e hf
    refine g_iald C (a_99 ad cy _) h8 dX11_setsFeud_64 ?_
    obtain ⟨v9, ev9, hf⟩ := ol_e hf
    refine g_nm ev9 ?_
    refine g_iconst (v := 1) C dX11_setsFeud_65 (by decide) ?_
    refine g_iload_n C dX11_setsFeud_66 rfl 1 rfl ?_
    refine g_ishl C dX11_setsFeud_67 ?_
    refine g_ior C dX11_setsFeud_68 ?_
    refine g_goto (tgt := 87) C dX11_setsFeud_69 (by decide) ?_
    exact g_sub [] rfl (fX11_setsFeud_b87_ok C σ2 (v9 ||| ((1 : Int32) <<< (x1 &&& 31))) (60 + x2) hf)
def fX11_setsFeud (σ : S0) (x1 : Int32) (x2 : Int32) (x3 : Int32) : Option (Int32 × S0) := if x3 = 0 then (ol (60 + x1) (fun v2 => og (¬ (v2 < 0 ∨ 240 ≤ v2.toNatClampNeg)) (ol (σ 99 v2.toNatClampNeg) (fun v4 => fX11_setsFeud_b43 σ x1 x2 x3 (v4 &&& (((1 : Int32) <<< (x2 &&& 31)) ^^^ ((-1)))) (60 + x1))))) else (ol (60 + x1) (fun v5 => og (¬ (v5 < 0 ∨ 240 ≤ v5.toNatClampNeg)) (ol (σ 99 v5.toNatClampNeg) (fun v7 => fX11_setsFeud_b43 σ x1 x2 x3 (v7 ||| ((1 : Int32) <<< (x2 &&& 31))) (60 + x1)))))
set_option maxHeartbeats 1000000 in
set_option maxRecDepth 100000 in
theorem fX11_setsFeud_ok {p : Program} {l : Launch} {e : Env} {s : State} {m : MethodId} {args : Array Value} {below : List Frame} {meth : Method} {c : Code} {dC : Nat → ClassId} {dI : Nat → Nat → Nat} {ad : Nat → Nat} {cy : Nat → ClassId} {sz : Nat} (C : Cx p s m args meth c RX11 cX11_setsFeud 4 none dC dI ad cy sz) {rr : Int32} {ρ : S0} (σ : S0) (x1 : Int32) (x2 : Int32) (x3 : Int32)  (hf : fX11_setsFeud σ x1 x2 x3 = some (rr, ρ)) : Gw p l e rm_X11_setsFeud s m args below meth c (MQ below (QcV dC dI ad cy sz ρ) args s 0 0 (AW ad sz)) dC dI ad cy 4 sz 0 0 0 [(0, .ref (ad 98)), (1, .int x1), (2, .int x2), (3, .int x3)] [] σ := by
  unfold fX11_setsFeud at hf
  refine g_aload_n C dX11_setsFeud_0 rfl 0 rfl ?_
  refine g_get C (a_98 ad cy _) rfl hin_X11 0 (by decide) hF_X11_7 rfl rfl dX11_setsFeud_1 ?_
  refine g_bipush (v := 60) C dX11_setsFeud_4 (by decide) ?_
  refine g_iload_n C dX11_setsFeud_6 rfl 1 rfl ?_
  refine g_iadd C dX11_setsFeud_7 ?_
  refine g_iload_n C dX11_setsFeud_8 rfl 3 rfl ?_
  rcases oi_e hf with ⟨c1, hf⟩ | ⟨c1, hf⟩
  · refine g_if_eq_t (tgt := 28) C dX11_setsFeud_9 (by decide) c1 ?_
    refine g_aload_n C dX11_setsFeud_28 rfl 0 rfl ?_
    refine g_get C (a_98 ad cy _) rfl hin_X11 0 (by decide) hF_X11_7 rfl rfl dX11_setsFeud_29 ?_
    refine g_bipush (v := 60) C dX11_setsFeud_32 (by decide) ?_
    refine g_iload_n C dX11_setsFeud_34 rfl 1 rfl ?_
    refine g_iadd C dX11_setsFeud_35 ?_
    obtain ⟨v2, ev2, hf⟩ := ol_e hf
    refine g_nm ev2 ?_
    obtain ⟨h3, hf⟩ := og_e hf
    refine g_iald C (a_99 ad cy _) h3 dX11_setsFeud_36 ?_
    obtain ⟨v4, ev4, hf⟩ := ol_e hf
    refine g_nm ev4 ?_
    refine g_iconst (v := 1) C dX11_setsFeud_37 (by decide) ?_
    refine g_iload_n C dX11_setsFeud_38 rfl 2 rfl ?_
    refine g_ishl C dX11_setsFeud_39 ?_
    refine g_iconst (v := (-1)) C dX11_setsFeud_40 (by decide) ?_
    refine g_ixor C dX11_setsFeud_41 ?_
    refine g_iand C dX11_setsFeud_42 ?_
    exact g_sub [0, 1, 2, 3] rfl (fX11_setsFeud_b43_ok C σ x1 x2 x3 (v4 &&& (((1 : Int32) <<< (x2 &&& 31)) ^^^ ((-1)))) (60 + x1) hf)
  · refine g_if_eq_f (tgt := 28) C dX11_setsFeud_9 (by decide) c1 ?_
    refine g_aload_n C dX11_setsFeud_12 rfl 0 rfl ?_
    refine g_get C (a_98 ad cy _) rfl hin_X11 0 (by decide) hF_X11_7 rfl rfl dX11_setsFeud_13 ?_
    refine g_bipush (v := 60) C dX11_setsFeud_16 (by decide) ?_
    refine g_iload_n C dX11_setsFeud_18 rfl 1 rfl ?_
    refine g_iadd C dX11_setsFeud_19 ?_
    obtain ⟨v5, ev5, hf⟩ := ol_e hf
    refine g_nm ev5 ?_
    obtain ⟨h6, hf⟩ := og_e hf
    refine g_iald C (a_99 ad cy _) h6 dX11_setsFeud_20 ?_
    obtain ⟨v7, ev7, hf⟩ := ol_e hf
    refine g_nm ev7 ?_
    refine g_iconst (v := 1) C dX11_setsFeud_21 (by decide) ?_
    refine g_iload_n C dX11_setsFeud_22 rfl 2 rfl ?_
    refine g_ishl C dX11_setsFeud_23 ?_
    refine g_ior C dX11_setsFeud_24 ?_
    refine g_goto (tgt := 43) C dX11_setsFeud_25 (by decide) ?_
    exact g_sub [0, 1, 2, 3] rfl (fX11_setsFeud_b43_ok C σ x1 x2 x3 (v7 ||| ((1 : Int32) <<< (x2 &&& 31))) (60 + x1) hf)
theorem c_X11_setsFeud (l : Launch) (dC : Nat → ClassId) (dI : Nat → Nat → Nat) (ad : Nat → Nat) (cy : Nat → ClassId) (x1 : Int32) (x2 : Int32) (x3 : Int32) : ConV l yX11_setsFeud cX11_setsFeud 4 none rm_X11_setsFeud dC dI ad cy [.ref (ad 98), .int x1, .int x2, .int x3] (fun σ => fX11_setsFeud σ x1 x2 x3) := con_v (own := RX11) (by decide) rfl (Nat.le_of_ble_eq_true rfl) (fun _ _ _ _ _ _ _ _ σ _ _ C hf => fX11_setsFeud_ok C σ x1 x2 x3 hf)
theorem cal_X11_setsFeud : CalV yX11_setsFeud RX11 cX11_setsFeud 4 none 3 := ⟨hI_X11_setsFeud, hS_X11_setsFeud, hIni_X11, hC_X11_setsFeud, by decide +kernel⟩
abbrev rm_X11_feud : Room := { frames := 2, cells := 0, slots := 0, locals := 46 }
def fX11_feud (σ : S0) (x1 : Int32) (x2 : Int32) (x3 : Int32) : Option (Int32 × S0) := obp (fX11_isHouse σ x1) (fun r1 σ2 => if r1 = 0 then (some ((-1), σ2)) else (obp (fX11_isHouse σ2 x2) (fun r5 σ6 => if r5 = 0 then (some ((-1), σ6)) else (if ¬ x1 = x2 then (obp (fX11_isFeud σ6 x1 x2) (fun r10 σ11 => obp (fX11_flag σ11 r10) (fun r13 σ14 => obp (fX11_setsFeud σ14 x1 x2 x3) (fun r16 σ17 => some (r13, σ17))))) else (some ((-1), σ6))))))
set_option maxHeartbeats 1000000 in
set_option maxRecDepth 100000 in
theorem fX11_feud_ok {p : Program} {l : Launch} {e : Env} {s : State} {m : MethodId} {args : Array Value} {below : List Frame} {meth : Method} {c : Code} {dC : Nat → ClassId} {dI : Nat → Nat → Nat} {ad : Nat → Nat} {cy : Nat → ClassId} {sz : Nat} (C : Cx p s m args meth c RX11 cX11_feud 5 (some .int) dC dI ad cy sz) {rr : Int32} {ρ : S0} (σ : S0) (x1 : Int32) (x2 : Int32) (x3 : Int32)  (hf : fX11_feud σ x1 x2 x3 = some (rr, ρ)) : Gw p l e rm_X11_feud s m args below meth c (MQ below (QcI dC dI ad cy sz rr ρ) args s 0 0 (AW ad sz)) dC dI ad cy 5 sz 0 0 0 [(0, .ref (ad 98)), (1, .int x1), (2, .int x2), (3, .int x3)] [] σ := by
  unfold fX11_feud at hf
  refine g_aload_n C dX11_feud_0 rfl 0 rfl ?_
  refine g_iload_n C dX11_feud_1 rfl 1 rfl ?_
  obtain ⟨r1, σ2, h3, hf⟩ := obp_e hf
  refine g_callVi (As := [.int x1]) (rest := []) C (a_98 ad cy _) rfl (c_X11_isHouse l dC dI ad cy x1) h3 hM_X11_186 cal_X11_isHouse ⟨Nat.zero_le _, Nat.zero_le _⟩ ⟨rfl, rfl⟩ ⟨Nat.le_of_ble_eq_true rfl, Nat.le_of_ble_eq_true rfl⟩ rfl rfl (Nat.le_of_ble_eq_true rfl) dX11_feud_2 ?_
  rcases oi_e hf with ⟨c4, hf⟩ | ⟨c4, hf⟩
  · refine g_if_eq_t (tgt := 21) C dX11_feud_5 (by decide) c4 ?_
    refine g_iconst (v := (-1)) C dX11_feud_21 (by decide) ?_
    obtain ⟨rfl, rfl⟩ := os_e hf
    exact g_iret C rfl dX11_feud_22
  · refine g_if_eq_f (tgt := 21) C dX11_feud_5 (by decide) c4 ?_
    refine g_aload_n C dX11_feud_8 rfl 0 rfl ?_
    refine g_iload_n C dX11_feud_9 rfl 2 rfl ?_
    obtain ⟨r5, σ6, h7, hf⟩ := obp_e hf
    refine g_callVi (As := [.int x2]) (rest := []) C (a_98 ad cy _) rfl (c_X11_isHouse l dC dI ad cy x2) h7 hM_X11_186 cal_X11_isHouse ⟨Nat.zero_le _, Nat.zero_le _⟩ ⟨rfl, rfl⟩ ⟨Nat.le_of_ble_eq_true rfl, Nat.le_of_ble_eq_true rfl⟩ rfl rfl (Nat.le_of_ble_eq_true rfl) dX11_feud_10 ?_
    rcases oi_e hf with ⟨c8, hf⟩ | ⟨c8, hf⟩
    · refine g_if_eq_t (tgt := 21) C dX11_feud_13 (by decide) c8 ?_
      refine g_iconst (v := (-1)) C dX11_feud_21 (by decide) ?_
      obtain ⟨rfl, rfl⟩ := os_e hf
      exact g_iret C rfl dX11_feud_22
    · refine g_if_eq_f (tgt := 21) C dX11_feud_13 (by decide) c8 ?_
      refine g_iload_n C dX11_feud_16 rfl 1 rfl ?_
      refine g_iload_n C dX11_feud_17 rfl 2 rfl ?_
      rcases oi_e hf with ⟨c9, hf⟩ | ⟨c9, hf⟩
      · refine g_icmp_ne_t (tgt := 23) C dX11_feud_18 (by decide) c9 ?_
        refine g_aload_n C dX11_feud_23 rfl 0 rfl ?_
        refine g_iload_n C dX11_feud_24 rfl 1 rfl ?_
        refine g_iload_n C dX11_feud_25 rfl 2 rfl ?_
        obtain ⟨r10, σ11, h12, hf⟩ := obp_e hf
        refine g_callVi (As := [.int x1, .int x2]) (rest := []) C (a_98 ad cy _) rfl (c_X11_isFeud l dC dI ad cy x1 x2) h12 hM_X11_195 cal_X11_isFeud ⟨Nat.zero_le _, Nat.zero_le _⟩ ⟨rfl, rfl⟩ ⟨Nat.le_of_ble_eq_true rfl, Nat.le_of_ble_eq_true rfl⟩ rfl rfl (Nat.le_of_ble_eq_true rfl) dX11_feud_26 ?_
        obtain ⟨r13, σ14, h15, hf⟩ := obp_e hf
        refine g_callSi (As := [.int r10]) (rest := []) C (c_X11_flag l dC dI ad cy r10) h15 hM_X11_191 cal_X11_flag ⟨Nat.zero_le _, Nat.zero_le _⟩ ⟨rfl, rfl⟩ ⟨Nat.le_of_ble_eq_true rfl, Nat.le_of_ble_eq_true rfl⟩ rfl rfl (Nat.le_of_ble_eq_true rfl) dX11_feud_29 ?_
        refine g_istore (lv2 := [(0, .ref (ad 98)), (1, .int x1), (2, .int x2), (3, .int x3), (4, .int r13)]) C dX11_feud_32 (by decide) [1, 2, 3, 4, 0] rfl ?_
        refine g_aload_n C dX11_feud_34 rfl 0 rfl ?_
        refine g_iload_n C dX11_feud_35 rfl 1 rfl ?_
        refine g_iload_n C dX11_feud_36 rfl 2 rfl ?_
        refine g_iload_n C dX11_feud_37 rfl 3 rfl ?_
        obtain ⟨r16, σ17, h18, hf⟩ := obp_e hf
        refine g_callVv (As := [.int x1, .int x2, .int x3]) (rest := []) C (a_98 ad cy _) rfl (c_X11_setsFeud l dC dI ad cy x1 x2 x3) h18 hM_X11_199 cal_X11_setsFeud ⟨Nat.zero_le _, Nat.zero_le _⟩ ⟨rfl, rfl⟩ ⟨Nat.le_of_ble_eq_true rfl, Nat.le_of_ble_eq_true rfl⟩ rfl rfl (Nat.le_of_ble_eq_true rfl) dX11_feud_38 ?_
        refine g_iload C dX11_feud_41 4 rfl ?_
        obtain ⟨rfl, rfl⟩ := os_e hf
        exact g_iret C rfl dX11_feud_43
      · refine g_icmp_ne_f (tgt := 23) C dX11_feud_18 (by decide) (Decidable.of_not_not c9) ?_
        refine g_iconst (v := (-1)) C dX11_feud_21 (by decide) ?_
        obtain ⟨rfl, rfl⟩ := os_e hf
        exact g_iret C rfl dX11_feud_22
theorem c_X11_feud (l : Launch) (dC : Nat → ClassId) (dI : Nat → Nat → Nat) (ad : Nat → Nat) (cy : Nat → ClassId) (x1 : Int32) (x2 : Int32) (x3 : Int32) : ConI l yX11_feud cX11_feud 5 (some .int) rm_X11_feud dC dI ad cy [.ref (ad 98), .int x1, .int x2, .int x3] (fun σ => fX11_feud σ x1 x2 x3) := con_i (own := RX11) (by decide) rfl (Nat.le_of_ble_eq_true rfl) (fun _ _ _ _ _ _ _ _ σ _ _ C hf => fX11_feud_ok C σ x1 x2 x3 hf)
theorem cal_X11_feud : CalV yX11_feud RX11 cX11_feud 5 (some .int) 3 := ⟨hI_X11_feud, hS_X11_feud, hIni_X11, hC_X11_feud, by decide +kernel⟩
abbrev rm_X11_feuding : Room := { frames := 1, cells := 0, slots := 0, locals := 23 }
def fX11_feuding_b53 (sf_7 : S0 → Int32 → Int32 → Int32 → Option (Int32 × S0)) (sf_19 : S0 → Int32 → Int32 → Int32 → Int32 → Option (Int32 × S0)) (σ : S0) (x2 : Int32) (x3 : Int32) (x4 : Int32) (x5 : Int32) (t0 : Int32) : Option (Int32 × S0) := obp (fX11_setsFeud σ x5 x4 t0) (fun r1 σ2 => obp (fX11_flag σ2 t0) (fun r4 σ5 => ol (x3 + r4) (fun v7 => ol (x5 + 1) (fun v8 => sf_19 σ5 x2 v7 x4 v8))))
set_option maxHeartbeats 1000000 in
set_option maxRecDepth 100000 in
theorem fX11_feuding_b53_ok {p : Program} {l : Launch} {e : Env} {s : State} {m : MethodId} {args : Array Value} {below : List Frame} {meth : Method} {c : Code} {dC : Nat → ClassId} {dI : Nat → Nat → Nat} {ad : Nat → Nat} {cy : Nat → ClassId} {sz : Nat} (C : Cx p s m args meth c RX11 cX11_feuding 7 (some .int) dC dI ad cy sz) {rr : Int32} {ρ : S0} (sf_7 : S0 → Int32 → Int32 → Int32 → Option (Int32 × S0)) (hs_7 : ∀ (σ : S0) (x2 : Int32) (x3 : Int32) (x4 : Int32) , sf_7 σ x2 x3 x4 = some (rr, ρ) → Gw p l e rm_X11_feuding s m args below meth c (MQ below (QcI dC dI ad cy sz rr ρ) args s 0 0 (AW ad sz)) dC dI ad cy 7 sz 0 0 7 [(0, .ref (ad 98)), (2, .int x2), (3, .int x3), (4, .int x4)] [] σ) (sf_19 : S0 → Int32 → Int32 → Int32 → Int32 → Option (Int32 × S0)) (hs_19 : ∀ (σ : S0) (x2 : Int32) (x3 : Int32) (x4 : Int32) (x5 : Int32) , sf_19 σ x2 x3 x4 x5 = some (rr, ρ) → Gw p l e rm_X11_feuding s m args below meth c (MQ below (QcI dC dI ad cy sz rr ρ) args s 0 0 (AW ad sz)) dC dI ad cy 7 sz 0 0 19 [(0, .ref (ad 98)), (2, .int x2), (3, .int x3), (4, .int x4), (5, .int x5)] [] σ) (σ : S0) (x2 : Int32) (x3 : Int32) (x4 : Int32) (x5 : Int32) (t0 : Int32)  (hf : fX11_feuding_b53 sf_7 sf_19 σ x2 x3 x4 x5 t0 = some (rr, ρ)) : Gw p l e rm_X11_feuding s m args below meth c (MQ below (QcI dC dI ad cy sz rr ρ) args s 0 0 (AW ad sz)) dC dI ad cy 7 sz 0 0 53 [(0, .ref (ad 98)), (2, .int x2), (3, .int x3), (4, .int x4), (5, .int x5)] [.int t0] σ := by
  unfold fX11_feuding_b53 at hf
  refine g_istore (lv2 := [(0, .ref (ad 98)), (2, .int x2), (3, .int x3), (4, .int x4), (5, .int x5), (6, .int t0)]) C dX11_feuding_53 (by decide) [1, 2, 3, 4, 5, 0] rfl ?_
  refine g_aload_n C dX11_feuding_55 rfl 0 rfl ?_
  refine g_iload C dX11_feuding_56 4 rfl ?_
  refine g_iload C dX11_feuding_58 3 rfl ?_
  refine g_iload C dX11_feuding_60 5 rfl ?_
  obtain ⟨r1, σ2, h3, hf⟩ := obp_e hf
  refine g_callVv (As := [.int x5, .int x4, .int t0]) (rest := []) C (a_98 ad cy _) rfl (c_X11_setsFeud l dC dI ad cy x5 x4 t0) h3 hM_X11_199 cal_X11_setsFeud ⟨Nat.zero_le _, Nat.zero_le _⟩ ⟨rfl, rfl⟩ ⟨Nat.le_of_ble_eq_true rfl, Nat.le_of_ble_eq_true rfl⟩ rfl rfl (Nat.le_of_ble_eq_true rfl) dX11_feuding_62 ?_
  refine g_iload_n C dX11_feuding_65 rfl 2 rfl ?_
  refine g_iload C dX11_feuding_66 5 rfl ?_
  obtain ⟨r4, σ5, h6, hf⟩ := obp_e hf
  refine g_callSi (As := [.int t0]) (rest := [.int x3]) C (c_X11_flag l dC dI ad cy t0) h6 hM_X11_191 cal_X11_flag ⟨Nat.zero_le _, Nat.zero_le _⟩ ⟨rfl, rfl⟩ ⟨Nat.le_of_ble_eq_true rfl, Nat.le_of_ble_eq_true rfl⟩ rfl rfl (Nat.le_of_ble_eq_true rfl) dX11_feuding_68 ?_
  refine g_iadd C dX11_feuding_71 ?_
  obtain ⟨v7, ev7, hf⟩ := ol_e hf
  refine g_nm ev7 ?_
  refine g_istore_n (lv2 := [(0, .ref (ad 98)), (2, .int x2), (3, .int v7), (4, .int x4), (5, .int x5), (6, .int t0)]) C dX11_feuding_72 rfl (by decide) [1, 2, 0, 3, 4, 5] rfl ?_
  obtain ⟨v8, ev8, hf⟩ := ol_e hf
  refine g_iinc (j := 4) (w := 1) (lv2 := [(0, .ref (ad 98)), (2, .int x2), (3, .int v7), (4, .int x4), (5, .int v8), (6, .int t0)]) C dX11_feuding_73 rfl (by decide) ev8 (by decide) [1, 2, 3, 4, 0, 5] rfl ?_
  refine g_goto (tgt := 19) C dX11_feuding_76 (by decide) ?_
  exact g_sub [0, 1, 2, 3, 4] rfl (hs_19 σ5 x2 v7 x4 v8 hf)
def fX11_feuding_b19 (sf_7 : S0 → Int32 → Int32 → Int32 → Option (Int32 × S0)) (sf_19 : S0 → Int32 → Int32 → Int32 → Int32 → Option (Int32 × S0)) (σ : S0) (x2 : Int32) (x3 : Int32) (x4 : Int32) (x5 : Int32) : Option (Int32 × S0) := if x4 ≤ x5 then (ol (x4 + 1) (fun v2 => sf_7 σ x2 x3 v2)) else (ol ((x2 * 1103515245) + 12345) (fun v3 => og (¬ ((4 : Int32)) = 0) (ol (((v3 >>> ((16 : Int32) &&& 31)) &&& 32767) - ((v3 >>> ((16 : Int32) &&& 31)) &&& 32767) / 4 * 4) (fun v5 => if ¬ v5 = 0 then (fX11_feuding_b53 sf_7 sf_19 σ v3 x3 x4 x5 0) else (fX11_feuding_b53 sf_7 sf_19 σ v3 x3 x4 x5 1)))))
set_option maxHeartbeats 1000000 in
set_option maxRecDepth 100000 in
theorem fX11_feuding_b19_ok {p : Program} {l : Launch} {e : Env} {s : State} {m : MethodId} {args : Array Value} {below : List Frame} {meth : Method} {c : Code} {dC : Nat → ClassId} {dI : Nat → Nat → Nat} {ad : Nat → Nat} {cy : Nat → ClassId} {sz : Nat} (C : Cx p s m args meth c RX11 cX11_feuding 7 (some .int) dC dI ad cy sz) {rr : Int32} {ρ : S0} (sf_7 : S0 → Int32 → Int32 → Int32 → Option (Int32 × S0)) (hs_7 : ∀ (σ : S0) (x2 : Int32) (x3 : Int32) (x4 : Int32) , sf_7 σ x2 x3 x4 = some (rr, ρ) → Gw p l e rm_X11_feuding s m args below meth c (MQ below (QcI dC dI ad cy sz rr ρ) args s 0 0 (AW ad sz)) dC dI ad cy 7 sz 0 0 7 [(0, .ref (ad 98)), (2, .int x2), (3, .int x3), (4, .int x4)] [] σ) (sf_19 : S0 → Int32 → Int32 → Int32 → Int32 → Option (Int32 × S0)) (hs_19 : ∀ (σ : S0) (x2 : Int32) (x3 : Int32) (x4 : Int32) (x5 : Int32) , sf_19 σ x2 x3 x4 x5 = some (rr, ρ) → Gw p l e rm_X11_feuding s m args below meth c (MQ below (QcI dC dI ad cy sz rr ρ) args s 0 0 (AW ad sz)) dC dI ad cy 7 sz 0 0 19 [(0, .ref (ad 98)), (2, .int x2), (3, .int x3), (4, .int x4), (5, .int x5)] [] σ) (σ : S0) (x2 : Int32) (x3 : Int32) (x4 : Int32) (x5 : Int32)  (hf : fX11_feuding_b19 sf_7 sf_19 σ x2 x3 x4 x5 = some (rr, ρ)) : Gw p l e rm_X11_feuding s m args below meth c (MQ below (QcI dC dI ad cy sz rr ρ) args s 0 0 (AW ad sz)) dC dI ad cy 7 sz 0 0 19 [(0, .ref (ad 98)), (2, .int x2), (3, .int x3), (4, .int x4), (5, .int x5)] [] σ := by
  unfold fX11_feuding_b19 at hf
  refine g_iload C dX11_feuding_19 4 rfl ?_
  refine g_iload C dX11_feuding_21 3 rfl ?_
  rcases oi_e hf with ⟨c1, hf⟩ | ⟨c1, hf⟩
  · refine g_icmp_ge_t (tgt := 79) C dX11_feuding_23 (by decide) c1 ?_
    obtain ⟨v2, ev2, hf⟩ := ol_e hf
    refine g_iinc (j := 3) (w := 1) (lv2 := [(0, .ref (ad 98)), (2, .int x2), (3, .int x3), (4, .int v2), (5, .int x5)]) C dX11_feuding_79 rfl (by decide) ev2 (by decide) [1, 2, 3, 0, 4] rfl ?_
    refine g_goto (tgt := 7) C dX11_feuding_82 (by decide) ?_
    exact g_sub [0, 1, 2, 3] rfl (hs_7 σ x2 x3 v2 hf)
  · refine g_icmp_ge_f (tgt := 79) C dX11_feuding_23 (by decide) c1 ?_
    refine g_iload_n C dX11_feuding_26 rfl 1 rfl ?_
    refine g_ldc (v := 1103515245) C dX11_feuding_27 hK_X11_203 ?_
    refine g_imul C dX11_feuding_29 ?_
    refine g_sipush (v := 12345) C dX11_feuding_30 (by decide) ?_
    refine g_iadd C dX11_feuding_33 ?_
    obtain ⟨v3, ev3, hf⟩ := ol_e hf
    refine g_nm ev3 ?_
    refine g_istore_n (lv2 := [(0, .ref (ad 98)), (2, .int v3), (3, .int x3), (4, .int x4), (5, .int x5)]) C dX11_feuding_34 rfl (by decide) [1, 0, 2, 3, 4] rfl ?_
    refine g_iload_n C dX11_feuding_35 rfl 1 rfl ?_
    refine g_bipush (v := 16) C dX11_feuding_36 (by decide) ?_
    refine g_ishr C dX11_feuding_38 ?_
    refine g_sipush (v := 32767) C dX11_feuding_39 (by decide) ?_
    refine g_iand C dX11_feuding_42 ?_
    refine g_iconst (v := 4) C dX11_feuding_43 (by decide) ?_
    obtain ⟨h4, hf⟩ := og_e hf
    refine g_irem C dX11_feuding_44 h4 ?_
    obtain ⟨v5, ev5, hf⟩ := ol_e hf
    refine g_nm ev5 ?_
    rcases oi_e hf with ⟨c6, hf⟩ | ⟨c6, hf⟩
    · refine g_if_ne_t (tgt := 52) C dX11_feuding_45 (by decide) c6 ?_
      refine g_iconst (v := 0) C dX11_feuding_52 (by decide) ?_
      exact g_sub [0, 1, 2, 3, 4] rfl (fX11_feuding_b53_ok C sf_7 hs_7 sf_19 hs_19 σ v3 x3 x4 x5 0 hf)
    · refine g_if_ne_f (tgt := 52) C dX11_feuding_45 (by decide) (Decidable.of_not_not c6) ?_
      refine g_iconst (v := 1) C dX11_feuding_48 (by decide) ?_
      refine g_goto (tgt := 53) C dX11_feuding_49 (by decide) ?_
      exact g_sub [0, 1, 2, 3, 4] rfl (fX11_feuding_b53_ok C sf_7 hs_7 sf_19 hs_19 σ v3 x3 x4 x5 1 hf)
def fX11_feuding_h19 (sf_7 : S0 → Int32 → Int32 → Int32 → Option (Int32 × S0)) : Nat → S0 → Int32 → Int32 → Int32 → Int32 → Option (Int32 × S0)
  | 0 => fun _ _ _ _ _ => none
  | n + 1 => fun σ x2 x3 x4 x5 => fX11_feuding_b19 sf_7 (fX11_feuding_h19 sf_7 n) σ x2 x3 x4 x5
set_option maxHeartbeats 1000000 in
set_option maxRecDepth 100000 in
theorem fX11_feuding_h19_ok {p : Program} {l : Launch} {e : Env} {s : State} {m : MethodId} {args : Array Value} {below : List Frame} {meth : Method} {c : Code} {dC : Nat → ClassId} {dI : Nat → Nat → Nat} {ad : Nat → Nat} {cy : Nat → ClassId} {sz : Nat} (C : Cx p s m args meth c RX11 cX11_feuding 7 (some .int) dC dI ad cy sz) {rr : Int32} {ρ : S0} (sf_7 : S0 → Int32 → Int32 → Int32 → Option (Int32 × S0)) (hs_7 : ∀ (σ : S0) (x2 : Int32) (x3 : Int32) (x4 : Int32) , sf_7 σ x2 x3 x4 = some (rr, ρ) → Gw p l e rm_X11_feuding s m args below meth c (MQ below (QcI dC dI ad cy sz rr ρ) args s 0 0 (AW ad sz)) dC dI ad cy 7 sz 0 0 7 [(0, .ref (ad 98)), (2, .int x2), (3, .int x3), (4, .int x4)] [] σ) : ∀ (n : Nat) (σ : S0) (x2 : Int32) (x3 : Int32) (x4 : Int32) (x5 : Int32)  (_hf : fX11_feuding_h19 sf_7 n σ x2 x3 x4 x5 = some (rr, ρ)), Gw p l e rm_X11_feuding s m args below meth c (MQ below (QcI dC dI ad cy sz rr ρ) args s 0 0 (AW ad sz)) dC dI ad cy 7 sz 0 0 19 [(0, .ref (ad 98)), (2, .int x2), (3, .int x3), (4, .int x4), (5, .int x5)] [] σ
  | 0, _, _, _, _, _, hf => by cases hf
  | n + 1, σ, x2, x3, x4, x5, hf => fX11_feuding_b19_ok C sf_7 hs_7 (fX11_feuding_h19 sf_7 n) (fX11_feuding_h19_ok C sf_7 hs_7 n) σ x2 x3 x4 x5 hf
def fX11_feuding_b7 (sf_7 : S0 → Int32 → Int32 → Int32 → Option (Int32 × S0)) (σ : S0) (x2 : Int32) (x3 : Int32) (x4 : Int32) : Option (Int32 × S0) := if (σ 98 2) ≤ x4 then (some (x3, σ)) else (fX11_feuding_h19 sf_7 400 σ x2 x3 x4 0)
set_option maxHeartbeats 1000000 in
set_option maxRecDepth 100000 in
theorem fX11_feuding_b7_ok {p : Program} {l : Launch} {e : Env} {s : State} {m : MethodId} {args : Array Value} {below : List Frame} {meth : Method} {c : Code} {dC : Nat → ClassId} {dI : Nat → Nat → Nat} {ad : Nat → Nat} {cy : Nat → ClassId} {sz : Nat} (C : Cx p s m args meth c RX11 cX11_feuding 7 (some .int) dC dI ad cy sz) {rr : Int32} {ρ : S0} (sf_7 : S0 → Int32 → Int32 → Int32 → Option (Int32 × S0)) (hs_7 : ∀ (σ : S0) (x2 : Int32) (x3 : Int32) (x4 : Int32) , sf_7 σ x2 x3 x4 = some (rr, ρ) → Gw p l e rm_X11_feuding s m args below meth c (MQ below (QcI dC dI ad cy sz rr ρ) args s 0 0 (AW ad sz)) dC dI ad cy 7 sz 0 0 7 [(0, .ref (ad 98)), (2, .int x2), (3, .int x3), (4, .int x4)] [] σ) (σ : S0) (x2 : Int32) (x3 : Int32) (x4 : Int32)  (hf : fX11_feuding_b7 sf_7 σ x2 x3 x4 = some (rr, ρ)) : Gw p l e rm_X11_feuding s m args below meth c (MQ below (QcI dC dI ad cy sz rr ρ) args s 0 0 (AW ad sz)) dC dI ad cy 7 sz 0 0 7 [(0, .ref (ad 98)), (2, .int x2), (3, .int x3), (4, .int x4)] [] σ := by
  unfold fX11_feuding_b7 at hf
  refine g_iload C dX11_feuding_7 3 rfl ?_
  refine g_aload_n C dX11_feuding_9 rfl 0 rfl ?_
  refine g_get C (a_98 ad cy _) rfl hin_X11 2 (by decide) hF_X11_75 rfl rfl dX11_feuding_10 ?_
  rcases oi_e hf with ⟨c1, hf⟩ | ⟨c1, hf⟩
  · refine g_icmp_ge_t (tgt := 85) C dX11_feuding_13 (by decide) c1 ?_
    refine g_iload_n C dX11_feuding_85 rfl 2 rfl ?_
    obtain ⟨rfl, rfl⟩ := os_e hf
    exact g_iret C rfl dX11_feuding_86
  · refine g_icmp_ge_f (tgt := 85) C dX11_feuding_13 (by decide) c1 ?_
    refine g_iconst (v := 0) C dX11_feuding_16 (by decide) ?_
    refine g_istore (lv2 := [(0, .ref (ad 98)), (2, .int x2), (3, .int x3), (4, .int x4), (5, .int 0)]) C dX11_feuding_17 (by decide) [1, 2, 3, 4, 0] rfl ?_
    exact g_sub [0, 1, 2, 3, 4] rfl (fX11_feuding_h19_ok C sf_7 hs_7 400 σ x2 x3 x4 0 hf)
def fX11_feuding_h7  : Nat → S0 → Int32 → Int32 → Int32 → Option (Int32 × S0)
  | 0 => fun _ _ _ _ => none
  | n + 1 => fun σ x2 x3 x4 => fX11_feuding_b7  (fX11_feuding_h7  n) σ x2 x3 x4
set_option maxHeartbeats 1000000 in
set_option maxRecDepth 100000 in
theorem fX11_feuding_h7_ok {p : Program} {l : Launch} {e : Env} {s : State} {m : MethodId} {args : Array Value} {below : List Frame} {meth : Method} {c : Code} {dC : Nat → ClassId} {dI : Nat → Nat → Nat} {ad : Nat → Nat} {cy : Nat → ClassId} {sz : Nat} (C : Cx p s m args meth c RX11 cX11_feuding 7 (some .int) dC dI ad cy sz) {rr : Int32} {ρ : S0}  : ∀ (n : Nat) (σ : S0) (x2 : Int32) (x3 : Int32) (x4 : Int32)  (_hf : fX11_feuding_h7  n σ x2 x3 x4 = some (rr, ρ)), Gw p l e rm_X11_feuding s m args below meth c (MQ below (QcI dC dI ad cy sz rr ρ) args s 0 0 (AW ad sz)) dC dI ad cy 7 sz 0 0 7 [(0, .ref (ad 98)), (2, .int x2), (3, .int x3), (4, .int x4)] [] σ
  | 0, _, _, _, _, hf => by cases hf
  | n + 1, σ, x2, x3, x4, hf => fX11_feuding_b7_ok C  (fX11_feuding_h7  n) (fX11_feuding_h7_ok C  n) σ x2 x3 x4 hf
def fX11_feuding (σ : S0) (x1 : Int32) : Option (Int32 × S0) := fX11_feuding_h7 400 σ x1 0 1
set_option maxHeartbeats 1000000 in
set_option maxRecDepth 100000 in
theorem fX11_feuding_ok {p : Program} {l : Launch} {e : Env} {s : State} {m : MethodId} {args : Array Value} {below : List Frame} {meth : Method} {c : Code} {dC : Nat → ClassId} {dI : Nat → Nat → Nat} {ad : Nat → Nat} {cy : Nat → ClassId} {sz : Nat} (C : Cx p s m args meth c RX11 cX11_feuding 7 (some .int) dC dI ad cy sz) {rr : Int32} {ρ : S0} (σ : S0) (x1 : Int32)  (hf : fX11_feuding σ x1 = some (rr, ρ)) : Gw p l e rm_X11_feuding s m args below meth c (MQ below (QcI dC dI ad cy sz rr ρ) args s 0 0 (AW ad sz)) dC dI ad cy 7 sz 0 0 0 [(0, .ref (ad 98)), (1, .int x1)] [] σ := by
  unfold fX11_feuding at hf
  refine g_iload_n C dX11_feuding_0 rfl 1 rfl ?_
  refine g_istore_n (lv2 := [(0, .ref (ad 98)), (1, .int x1), (2, .int x1)]) C dX11_feuding_1 rfl (by decide) [1, 2, 0] rfl ?_
  refine g_iconst (v := 0) C dX11_feuding_2 (by decide) ?_
  refine g_istore_n (lv2 := [(0, .ref (ad 98)), (1, .int x1), (2, .int x1), (3, .int 0)]) C dX11_feuding_3 rfl (by decide) [1, 2, 3, 0] rfl ?_
  refine g_iconst (v := 1) C dX11_feuding_4 (by decide) ?_
  refine g_istore (lv2 := [(0, .ref (ad 98)), (1, .int x1), (2, .int x1), (3, .int 0), (4, .int 1)]) C dX11_feuding_5 (by decide) [1, 2, 3, 4, 0] rfl ?_
  exact g_sub [0, 2, 3, 4] rfl (fX11_feuding_h7_ok C 400 σ x1 0 1 hf)
theorem c_X11_feuding (l : Launch) (dC : Nat → ClassId) (dI : Nat → Nat → Nat) (ad : Nat → Nat) (cy : Nat → ClassId) (x1 : Int32) : ConI l yX11_feuding cX11_feuding 7 (some .int) rm_X11_feuding dC dI ad cy [.ref (ad 98), .int x1] (fun σ => fX11_feuding σ x1) := con_i (own := RX11) (by decide) rfl (Nat.le_of_ble_eq_true rfl) (fun _ _ _ _ _ _ _ _ σ _ _ C hf => fX11_feuding_ok C σ x1 hf)
theorem cal_X11_feuding : CalV yX11_feuding RX11 cX11_feuding 7 (some .int) 1 := ⟨hI_X11_feuding, hS_X11_feuding, hIni_X11, hC_X11_feuding, by decide +kernel⟩
abbrev rm_X11_noRung : Room := { frames := 0, cells := 0, slots := 0, locals := 0 }
def fX11_noRung_b2 (sf_2 : S0 → Int32 → Option (Int32 × S0)) (σ : S0) (x1 : Int32) : Option (Int32 × S0) := if (6 : Int32) ≤ x1 then (some (0, σ)) else (og (¬ (x1 < 0 ∨ 6 ≤ x1.toNatClampNeg)) (ol (su σ 105 x1.toNatClampNeg 0) (fun σ3 => ol (x1 + 1) (fun v4 => sf_2 σ3 v4))))
set_option maxHeartbeats 1000000 in
set_option maxRecDepth 100000 in
theorem fX11_noRung_b2_ok {p : Program} {l : Launch} {e : Env} {s : State} {m : MethodId} {args : Array Value} {below : List Frame} {meth : Method} {c : Code} {dC : Nat → ClassId} {dI : Nat → Nat → Nat} {ad : Nat → Nat} {cy : Nat → ClassId} {sz : Nat} (C : Cx p s m args meth c RX11 cX11_noRung 2 none dC dI ad cy sz) {rr : Int32} {ρ : S0} (sf_2 : S0 → Int32 → Option (Int32 × S0)) (hs_2 : ∀ (σ : S0) (x1 : Int32) , sf_2 σ x1 = some (rr, ρ) → Gw p l e rm_X11_noRung s m args below meth c (MQ below (QcV dC dI ad cy sz ρ) args s 0 0 (AW ad sz)) dC dI ad cy 2 sz 0 0 2 [(0, .ref (ad 98)), (1, .int x1)] [] σ) (σ : S0) (x1 : Int32)  (hf : fX11_noRung_b2 sf_2 σ x1 = some (rr, ρ)) : Gw p l e rm_X11_noRung s m args below meth c (MQ below (QcV dC dI ad cy sz ρ) args s 0 0 (AW ad sz)) dC dI ad cy 2 sz 0 0 2 [(0, .ref (ad 98)), (1, .int x1)] [] σ := by
  unfold fX11_noRung_b2 at hf
  refine g_iload_n C dX11_noRung_2 rfl 1 rfl ?_
  refine g_bipush (v := 6) C dX11_noRung_3 (by decide) ?_
  rcases oi_e hf with ⟨c1, hf⟩ | ⟨c1, hf⟩
  · refine g_icmp_ge_t (tgt := 21) C dX11_noRung_5 (by decide) c1 ?_
    obtain ⟨rfl, rfl⟩ := os_e hf
    exact g_vret C rfl dX11_noRung_21
  · refine g_icmp_ge_f (tgt := 21) C dX11_noRung_5 (by decide) c1 ?_
    refine g_aload_n C dX11_noRung_8 rfl 0 rfl ?_
    refine g_get C (a_98 ad cy _) rfl hin_X11 28 (by decide) hF_X11_29 rfl rfl dX11_noRung_9 ?_
    refine g_iload_n C dX11_noRung_12 rfl 1 rfl ?_
    refine g_iconst (v := 0) C dX11_noRung_13 (by decide) ?_
    obtain ⟨h2, hf⟩ := og_e hf
    obtain ⟨σ3, eσ3, hf⟩ := ol_e hf
    refine g_iast C (a_105 ad cy _) h2 (w_105 ad cy _) eσ3 dX11_noRung_14 ?_
    obtain ⟨v4, ev4, hf⟩ := ol_e hf
    refine g_iinc (j := 1) (w := 1) (lv2 := [(0, .ref (ad 98)), (1, .int v4)]) C dX11_noRung_15 rfl (by decide) ev4 (by decide) [1, 0] rfl ?_
    refine g_goto (tgt := 2) C dX11_noRung_18 (by decide) ?_
    exact g_sub [0, 1] rfl (hs_2 σ3 v4 hf)
def fX11_noRung_h2  : Nat → S0 → Int32 → Option (Int32 × S0)
  | 0 => fun _ _ => none
  | n + 1 => fun σ x1 => fX11_noRung_b2  (fX11_noRung_h2  n) σ x1
set_option maxHeartbeats 1000000 in
set_option maxRecDepth 100000 in
theorem fX11_noRung_h2_ok {p : Program} {l : Launch} {e : Env} {s : State} {m : MethodId} {args : Array Value} {below : List Frame} {meth : Method} {c : Code} {dC : Nat → ClassId} {dI : Nat → Nat → Nat} {ad : Nat → Nat} {cy : Nat → ClassId} {sz : Nat} (C : Cx p s m args meth c RX11 cX11_noRung 2 none dC dI ad cy sz) {rr : Int32} {ρ : S0}  : ∀ (n : Nat) (σ : S0) (x1 : Int32)  (_hf : fX11_noRung_h2  n σ x1 = some (rr, ρ)), Gw p l e rm_X11_noRung s m args below meth c (MQ below (QcV dC dI ad cy sz ρ) args s 0 0 (AW ad sz)) dC dI ad cy 2 sz 0 0 2 [(0, .ref (ad 98)), (1, .int x1)] [] σ
  | 0, _, _, hf => by cases hf
  | n + 1, σ, x1, hf => fX11_noRung_b2_ok C  (fX11_noRung_h2  n) (fX11_noRung_h2_ok C  n) σ x1 hf
def fX11_noRung (σ : S0)  : Option (Int32 × S0) := fX11_noRung_h2 400 σ 0
set_option maxHeartbeats 1000000 in
set_option maxRecDepth 100000 in
theorem fX11_noRung_ok {p : Program} {l : Launch} {e : Env} {s : State} {m : MethodId} {args : Array Value} {below : List Frame} {meth : Method} {c : Code} {dC : Nat → ClassId} {dI : Nat → Nat → Nat} {ad : Nat → Nat} {cy : Nat → ClassId} {sz : Nat} (C : Cx p s m args meth c RX11 cX11_noRung 2 none dC dI ad cy sz) {rr : Int32} {ρ : S0} (σ : S0)   (hf : fX11_noRung σ = some (rr, ρ)) : Gw p l e rm_X11_noRung s m args below meth c (MQ below (QcV dC dI ad cy sz ρ) args s 0 0 (AW ad sz)) dC dI ad cy 2 sz 0 0 0 [(0, .ref (ad 98))] [] σ := by
  unfold fX11_noRung at hf
  refine g_iconst (v := 0) C dX11_noRung_0 (by decide) ?_
  refine g_istore_n (lv2 := [(0, .ref (ad 98)), (1, .int 0)]) C dX11_noRung_1 rfl (by decide) [1, 0] rfl ?_
  exact g_sub [0, 1] rfl (fX11_noRung_h2_ok C 400 σ 0 hf)
theorem c_X11_noRung (l : Launch) (dC : Nat → ClassId) (dI : Nat → Nat → Nat) (ad : Nat → Nat) (cy : Nat → ClassId)  : ConV l yX11_noRung cX11_noRung 2 none rm_X11_noRung dC dI ad cy [.ref (ad 98)] (fun σ => fX11_noRung σ) := con_v (own := RX11) (by decide) rfl (Nat.le_of_ble_eq_true rfl) (fun _ _ _ _ _ _ _ _ σ _ _ C hf => fX11_noRung_ok C σ  hf)
theorem cal_X11_noRung : CalV yX11_noRung RX11 cX11_noRung 2 none 0 := ⟨hI_X11_noRung, hS_X11_noRung, hIni_X11, hC_X11_noRung, by decide +kernel⟩
abbrev rm_X11_rings : Room := { frames := 1, cells := 0, slots := 0, locals := 22 }
def fX11_rings_b149 (sf_25 : S0 → Int32 → Int32 → Int32 → Option (Int32 × S0)) (σ : S0) (x1 : Int32) (x2 : Int32) (x3 : Int32) : Option (Int32 × S0) := ol (x3 + 1) (fun v1 => sf_25 σ x1 x2 v1)
set_option maxHeartbeats 1000000 in
set_option maxRecDepth 100000 in
theorem fX11_rings_b149_ok {p : Program} {l : Launch} {e : Env} {s : State} {m : MethodId} {args : Array Value} {below : List Frame} {meth : Method} {c : Code} {dC : Nat → ClassId} {dI : Nat → Nat → Nat} {ad : Nat → Nat} {cy : Nat → ClassId} {sz : Nat} (C : Cx p s m args meth c RX11 cX11_rings 6 none dC dI ad cy sz) {rr : Int32} {ρ : S0} (sf_25 : S0 → Int32 → Int32 → Int32 → Option (Int32 × S0)) (hs_25 : ∀ (σ : S0) (x1 : Int32) (x2 : Int32) (x3 : Int32) , sf_25 σ x1 x2 x3 = some (rr, ρ) → Gw p l e rm_X11_rings s m args below meth c (MQ below (QcV dC dI ad cy sz ρ) args s 0 0 (AW ad sz)) dC dI ad cy 6 sz 0 0 25 [(0, .ref (ad 98)), (1, .int x1), (2, .int x2), (3, .int x3)] [] σ) (σ : S0) (x1 : Int32) (x2 : Int32) (x3 : Int32)  (hf : fX11_rings_b149 sf_25 σ x1 x2 x3 = some (rr, ρ)) : Gw p l e rm_X11_rings s m args below meth c (MQ below (QcV dC dI ad cy sz ρ) args s 0 0 (AW ad sz)) dC dI ad cy 6 sz 0 0 149 [(0, .ref (ad 98)), (1, .int x1), (2, .int x2), (3, .int x3)] [] σ := by
  unfold fX11_rings_b149 at hf
  obtain ⟨v1, ev1, hf⟩ := ol_e hf
  refine g_iinc (j := 3) (w := 1) (lv2 := [(0, .ref (ad 98)), (1, .int x1), (2, .int x2), (3, .int v1)]) C dX11_rings_149 rfl (by decide) ev1 (by decide) [1, 2, 3, 0] rfl ?_
  refine g_goto (tgt := 25) C dX11_rings_152 (by decide) ?_
  exact g_sub [0, 1, 2, 3] rfl (hs_25 σ x1 x2 v1 hf)
def fX11_rings_b78 (sf_25 : S0 → Int32 → Int32 → Int32 → Option (Int32 × S0)) (σ : S0) (x1 : Int32) (x2 : Int32) (x3 : Int32) : Option (Int32 × S0) := ol ((σ 98 26) ||| ((1 : Int32) <<< (x3 &&& 31))) (fun v1 => ol (su σ 98 26 v1) (fun σ2 => ol ((σ2 98 27) + 1) (fun v3 => ol (su σ2 98 27 v3) (fun σ4 => fX11_rings_b149 sf_25 σ4 x1 x2 x3))))
set_option maxHeartbeats 1000000 in
set_option maxRecDepth 100000 in
theorem fX11_rings_b78_ok {p : Program} {l : Launch} {e : Env} {s : State} {m : MethodId} {args : Array Value} {below : List Frame} {meth : Method} {c : Code} {dC : Nat → ClassId} {dI : Nat → Nat → Nat} {ad : Nat → Nat} {cy : Nat → ClassId} {sz : Nat} (C : Cx p s m args meth c RX11 cX11_rings 6 none dC dI ad cy sz) {rr : Int32} {ρ : S0} (sf_25 : S0 → Int32 → Int32 → Int32 → Option (Int32 × S0)) (hs_25 : ∀ (σ : S0) (x1 : Int32) (x2 : Int32) (x3 : Int32) , sf_25 σ x1 x2 x3 = some (rr, ρ) → Gw p l e rm_X11_rings s m args below meth c (MQ below (QcV dC dI ad cy sz ρ) args s 0 0 (AW ad sz)) dC dI ad cy 6 sz 0 0 25 [(0, .ref (ad 98)), (1, .int x1), (2, .int x2), (3, .int x3)] [] σ) (σ : S0) (x1 : Int32) (x2 : Int32) (x3 : Int32)  (hf : fX11_rings_b78 sf_25 σ x1 x2 x3 = some (rr, ρ)) : Gw p l e rm_X11_rings s m args below meth c (MQ below (QcV dC dI ad cy sz ρ) args s 0 0 (AW ad sz)) dC dI ad cy 6 sz 0 0 78 [(0, .ref (ad 98)), (1, .int x1), (2, .int x2), (3, .int x3)] [] σ := by
  unfold fX11_rings_b78 at hf
  refine g_aload_n C dX11_rings_78 rfl 0 rfl ?_
  refine g_dup C dX11_rings_79 rfl ?_
  refine g_get C (a_98 ad cy _) rfl hin_X11 26 (by decide) hF_X11_210 rfl rfl dX11_rings_80 ?_
  refine g_iconst (v := 1) C dX11_rings_83 (by decide) ?_
  refine g_iload_n C dX11_rings_84 rfl 3 rfl ?_
  refine g_ishl C dX11_rings_85 ?_
  refine g_ior C dX11_rings_86 ?_
  obtain ⟨v1, ev1, hf⟩ := ol_e hf
  refine g_nm ev1 ?_
  obtain ⟨σ2, eσ2, hf⟩ := ol_e hf
  refine g_put (ty := .int) C (a_98 ad cy _) rfl hin_X11 tyX11 tyX11_ok nmX11 26 (by decide) hF_X11_210 rfl rfl (by decide +kernel) rfl rfl (Nat.le_of_ble_eq_true rfl) (p_98_26 ad cy _ _) eσ2 dX11_rings_87 ?_
  refine g_aload_n C dX11_rings_90 rfl 0 rfl ?_
  refine g_dup C dX11_rings_91 rfl ?_
  refine g_get C (a_98 ad cy _) rfl hin_X11 27 (by decide) hF_X11_213 rfl rfl dX11_rings_92 ?_
  refine g_iconst (v := 1) C dX11_rings_95 (by decide) ?_
  refine g_iadd C dX11_rings_96 ?_
  obtain ⟨v3, ev3, hf⟩ := ol_e hf
  refine g_nm ev3 ?_
  obtain ⟨σ4, eσ4, hf⟩ := ol_e hf
  refine g_put (ty := .int) C (a_98 ad cy _) rfl hin_X11 tyX11 tyX11_ok nmX11 27 (by decide) hF_X11_213 rfl rfl (by decide +kernel) rfl rfl (Nat.le_of_ble_eq_true rfl) (p_98_27 ad cy _ _) eσ4 dX11_rings_97 ?_
  refine g_goto (tgt := 149) C dX11_rings_100 (by decide) ?_
  exact g_sub [0, 1, 2, 3] rfl (fX11_rings_b149_ok C sf_25 hs_25 σ4 x1 x2 x3 hf)
def fX11_rings_b103 (sf_25 : S0 → Int32 → Int32 → Int32 → Option (Int32 × S0)) (σ : S0) (x1 : Int32) (x3 : Int32) (x4 : Int32) (x5 : Int32) : Option (Int32 × S0) := obp (fX11_of σ x4 ((1 : Int32))) (fun r1 σ2 => ol ((σ 98 24) + r1) (fun v4 => ol (su σ2 98 24 v4) (fun σ5 => obp (fX11_of σ5 x4 ((2 : Int32))) (fun r6 σ7 => ol ((σ5 98 25) + r6) (fun v9 => ol (su σ7 98 25 v9) (fun σ10 => og (¬ (x5 < 0 ∨ 6 ≤ x5.toNatClampNeg)) (ol (σ10 105 x5.toNatClampNeg) (fun v12 => ol (v12 + 1) (fun v13 => og (¬ (x5 < 0 ∨ 6 ≤ x5.toNatClampNeg)) (ol (su σ10 105 x5.toNatClampNeg v13) (fun σ15 => fX11_rings_b149 sf_25 σ15 x1 x5 x3)))))))))))
set_option maxHeartbeats 1000000 in
set_option maxRecDepth 100000 in
theorem fX11_rings_b103_ok {p : Program} {l : Launch} {e : Env} {s : State} {m : MethodId} {args : Array Value} {below : List Frame} {meth : Method} {c : Code} {dC : Nat → ClassId} {dI : Nat → Nat → Nat} {ad : Nat → Nat} {cy : Nat → ClassId} {sz : Nat} (C : Cx p s m args meth c RX11 cX11_rings 6 none dC dI ad cy sz) {rr : Int32} {ρ : S0} (sf_25 : S0 → Int32 → Int32 → Int32 → Option (Int32 × S0)) (hs_25 : ∀ (σ : S0) (x1 : Int32) (x2 : Int32) (x3 : Int32) , sf_25 σ x1 x2 x3 = some (rr, ρ) → Gw p l e rm_X11_rings s m args below meth c (MQ below (QcV dC dI ad cy sz ρ) args s 0 0 (AW ad sz)) dC dI ad cy 6 sz 0 0 25 [(0, .ref (ad 98)), (1, .int x1), (2, .int x2), (3, .int x3)] [] σ) (σ : S0) (x1 : Int32) (x3 : Int32) (x4 : Int32) (x5 : Int32)  (hf : fX11_rings_b103 sf_25 σ x1 x3 x4 x5 = some (rr, ρ)) : Gw p l e rm_X11_rings s m args below meth c (MQ below (QcV dC dI ad cy sz ρ) args s 0 0 (AW ad sz)) dC dI ad cy 6 sz 0 0 103 [(0, .ref (ad 98)), (1, .int x1), (3, .int x3), (4, .int x4), (5, .int x5)] [] σ := by
  unfold fX11_rings_b103 at hf
  refine g_aload_n C dX11_rings_103 rfl 0 rfl ?_
  refine g_dup C dX11_rings_104 rfl ?_
  refine g_get C (a_98 ad cy _) rfl hin_X11 24 (by decide) hF_X11_204 rfl rfl dX11_rings_105 ?_
  refine g_aload_n C dX11_rings_108 rfl 0 rfl ?_
  refine g_iload C dX11_rings_109 3 rfl ?_
  refine g_iconst (v := 1) C dX11_rings_111 (by decide) ?_
  obtain ⟨r1, σ2, h3, hf⟩ := obp_e hf
  refine g_callVi (As := [.int x4, .int 1]) (rest := [.int (σ 98 24), .ref (ad 98)]) C (a_98 ad cy _) rfl (c_X11_of l dC dI ad cy x4 ((1 : Int32))) h3 hM_X11_172 cal_X11_of ⟨Nat.zero_le _, Nat.zero_le _⟩ ⟨rfl, rfl⟩ ⟨Nat.le_of_ble_eq_true rfl, Nat.le_of_ble_eq_true rfl⟩ rfl rfl (Nat.le_of_ble_eq_true rfl) dX11_rings_112 ?_
  refine g_iadd C dX11_rings_115 ?_
  obtain ⟨v4, ev4, hf⟩ := ol_e hf
  refine g_nm ev4 ?_
  obtain ⟨σ5, eσ5, hf⟩ := ol_e hf
  refine g_put (ty := .int) C (a_98 ad cy _) rfl hin_X11 tyX11 tyX11_ok nmX11 24 (by decide) hF_X11_204 rfl rfl (by decide +kernel) rfl rfl (Nat.le_of_ble_eq_true rfl) (p_98_24 ad cy _ _) eσ5 dX11_rings_116 ?_
  refine g_aload_n C dX11_rings_119 rfl 0 rfl ?_
  refine g_dup C dX11_rings_120 rfl ?_
  refine g_get C (a_98 ad cy _) rfl hin_X11 25 (by decide) hF_X11_207 rfl rfl dX11_rings_121 ?_
  refine g_aload_n C dX11_rings_124 rfl 0 rfl ?_
  refine g_iload C dX11_rings_125 3 rfl ?_
  refine g_iconst (v := 2) C dX11_rings_127 (by decide) ?_
  obtain ⟨r6, σ7, h8, hf⟩ := obp_e hf
  refine g_callVi (As := [.int x4, .int 2]) (rest := [.int (σ5 98 25), .ref (ad 98)]) C (a_98 ad cy _) rfl (c_X11_of l dC dI ad cy x4 ((2 : Int32))) h8 hM_X11_172 cal_X11_of ⟨Nat.zero_le _, Nat.zero_le _⟩ ⟨rfl, rfl⟩ ⟨Nat.le_of_ble_eq_true rfl, Nat.le_of_ble_eq_true rfl⟩ rfl rfl (Nat.le_of_ble_eq_true rfl) dX11_rings_128 ?_
  refine g_iadd C dX11_rings_131 ?_
  obtain ⟨v9, ev9, hf⟩ := ol_e hf
  refine g_nm ev9 ?_
  obtain ⟨σ10, eσ10, hf⟩ := ol_e hf
  refine g_put (ty := .int) C (a_98 ad cy _) rfl hin_X11 tyX11 tyX11_ok nmX11 25 (by decide) hF_X11_207 rfl rfl (by decide +kernel) rfl rfl (Nat.le_of_ble_eq_true rfl) (p_98_25 ad cy _ _) eσ10 dX11_rings_132 ?_
  refine g_aload_n C dX11_rings_135 rfl 0 rfl ?_
  refine g_get C (a_98 ad cy _) rfl hin_X11 28 (by decide) hF_X11_29 rfl rfl dX11_rings_136 ?_
  refine g_iload C dX11_rings_139 4 rfl ?_
  refine g_dup2 C dX11_rings_141 rfl rfl ?_
  obtain ⟨h11, hf⟩ := og_e hf
  refine g_iald C (a_105 ad cy _) h11 dX11_rings_142 ?_
  obtain ⟨v12, ev12, hf⟩ := ol_e hf
  refine g_nm ev12 ?_
  refine g_iconst (v := 1) C dX11_rings_143 (by decide) ?_
  refine g_iadd C dX11_rings_144 ?_
  obtain ⟨v13, ev13, hf⟩ := ol_e hf
  refine g_nm ev13 ?_
  obtain ⟨h14, hf⟩ := og_e hf
  obtain ⟨σ15, eσ15, hf⟩ := ol_e hf
  refine g_iast C (a_105 ad cy _) h14 (w_105 ad cy _) eσ15 dX11_rings_145 ?_
  refine g_iload C dX11_rings_146 4 rfl ?_
  refine g_istore_n (lv2 := [(0, .ref (ad 98)), (1, .int x1), (2, .int x5), (3, .int x3), (4, .int x4), (5, .int x5)]) C dX11_rings_148 rfl (by decide) [1, 2, 0, 3, 4, 5] rfl ?_
  exact g_sub [0, 1, 2, 3] rfl (fX11_rings_b149_ok C sf_25 hs_25 σ15 x1 x5 x3 hf)
def fX11_rings_b25 (sf_25 : S0 → Int32 → Int32 → Int32 → Option (Int32 × S0)) (σ : S0) (x1 : Int32) (x2 : Int32) (x3 : Int32) : Option (Int32 × S0) := obp (fX11_strokes σ x1) (fun r1 σ2 => if r1 ≤ x3 then (some (0, σ2)) else (obp (fX11_stroke σ2 x1 x3) (fun r5 σ6 => obp (fX11_of σ6 r5 ((0 : Int32))) (fun r8 σ9 => obp (fX11_of σ9 r5 ((3 : Int32))) (fun r11 σ12 => if r11 = 1 then (fX11_rings_b78 sf_25 σ12 x1 x2 x3) else (if x2 = ((-4)) then (fX11_rings_b103 sf_25 σ12 x1 x3 r5 r8) else (obp (fX11_isFeud σ12 x2 r8) (fun r16 σ17 => if r16 = 0 then (fX11_rings_b103 sf_25 σ17 x1 x3 r5 r8) else (fX11_rings_b78 sf_25 σ17 x1 x2 x3)))))))))
set_option maxHeartbeats 1000000 in
set_option maxRecDepth 100000 in
theorem fX11_rings_b25_ok {p : Program} {l : Launch} {e : Env} {s : State} {m : MethodId} {args : Array Value} {below : List Frame} {meth : Method} {c : Code} {dC : Nat → ClassId} {dI : Nat → Nat → Nat} {ad : Nat → Nat} {cy : Nat → ClassId} {sz : Nat} (C : Cx p s m args meth c RX11 cX11_rings 6 none dC dI ad cy sz) {rr : Int32} {ρ : S0} (sf_25 : S0 → Int32 → Int32 → Int32 → Option (Int32 × S0)) (hs_25 : ∀ (σ : S0) (x1 : Int32) (x2 : Int32) (x3 : Int32) , sf_25 σ x1 x2 x3 = some (rr, ρ) → Gw p l e rm_X11_rings s m args below meth c (MQ below (QcV dC dI ad cy sz ρ) args s 0 0 (AW ad sz)) dC dI ad cy 6 sz 0 0 25 [(0, .ref (ad 98)), (1, .int x1), (2, .int x2), (3, .int x3)] [] σ) (σ : S0) (x1 : Int32) (x2 : Int32) (x3 : Int32)  (hf : fX11_rings_b25 sf_25 σ x1 x2 x3 = some (rr, ρ)) : Gw p l e rm_X11_rings s m args below meth c (MQ below (QcV dC dI ad cy sz ρ) args s 0 0 (AW ad sz)) dC dI ad cy 6 sz 0 0 25 [(0, .ref (ad 98)), (1, .int x1), (2, .int x2), (3, .int x3)] [] σ := by
  unfold fX11_rings_b25 at hf
  refine g_iload_n C dX11_rings_25 rfl 3 rfl ?_
  refine g_aload_n C dX11_rings_26 rfl 0 rfl ?_
  refine g_iload_n C dX11_rings_27 rfl 1 rfl ?_
  obtain ⟨r1, σ2, h3, hf⟩ := obp_e hf
  refine g_callVi (As := [.int x1]) (rest := [.int x3]) C (a_98 ad cy _) rfl (c_X11_strokes l dC dI ad cy x1) h3 hM_X11_180 cal_X11_strokes ⟨Nat.zero_le _, Nat.zero_le _⟩ ⟨rfl, rfl⟩ ⟨Nat.le_of_ble_eq_true rfl, Nat.le_of_ble_eq_true rfl⟩ rfl rfl (Nat.le_of_ble_eq_true rfl) dX11_rings_28 ?_
  rcases oi_e hf with ⟨c4, hf⟩ | ⟨c4, hf⟩
  · refine g_icmp_ge_t (tgt := 155) C dX11_rings_31 (by decide) c4 ?_
    obtain ⟨rfl, rfl⟩ := os_e hf
    exact g_vret C rfl dX11_rings_155
  · refine g_icmp_ge_f (tgt := 155) C dX11_rings_31 (by decide) c4 ?_
    refine g_aload_n C dX11_rings_34 rfl 0 rfl ?_
    refine g_iload_n C dX11_rings_35 rfl 1 rfl ?_
    refine g_iload_n C dX11_rings_36 rfl 3 rfl ?_
    obtain ⟨r5, σ6, h7, hf⟩ := obp_e hf
    refine g_callVi (As := [.int x1, .int x3]) (rest := []) C (a_98 ad cy _) rfl (c_X11_stroke l dC dI ad cy x1 x3) h7 hM_X11_183 cal_X11_stroke ⟨Nat.zero_le _, Nat.zero_le _⟩ ⟨rfl, rfl⟩ ⟨Nat.le_of_ble_eq_true rfl, Nat.le_of_ble_eq_true rfl⟩ rfl rfl (Nat.le_of_ble_eq_true rfl) dX11_rings_37 ?_
    refine g_istore (lv2 := [(0, .ref (ad 98)), (1, .int x1), (2, .int x2), (3, .int x3), (4, .int r5)]) C dX11_rings_40 (by decide) [1, 2, 3, 4, 0] rfl ?_
    refine g_aload_n C dX11_rings_42 rfl 0 rfl ?_
    refine g_iload C dX11_rings_43 4 rfl ?_
    refine g_iconst (v := 0) C dX11_rings_45 (by decide) ?_
    obtain ⟨r8, σ9, h10, hf⟩ := obp_e hf
    refine g_callVi (As := [.int r5, .int 0]) (rest := []) C (a_98 ad cy _) rfl (c_X11_of l dC dI ad cy r5 ((0 : Int32))) h10 hM_X11_172 cal_X11_of ⟨Nat.zero_le _, Nat.zero_le _⟩ ⟨rfl, rfl⟩ ⟨Nat.le_of_ble_eq_true rfl, Nat.le_of_ble_eq_true rfl⟩ rfl rfl (Nat.le_of_ble_eq_true rfl) dX11_rings_46 ?_
    refine g_istore (lv2 := [(0, .ref (ad 98)), (1, .int x1), (2, .int x2), (3, .int x3), (4, .int r5), (5, .int r8)]) C dX11_rings_49 (by decide) [1, 2, 3, 4, 5, 0] rfl ?_
    refine g_aload_n C dX11_rings_51 rfl 0 rfl ?_
    refine g_iload C dX11_rings_52 4 rfl ?_
    refine g_iconst (v := 3) C dX11_rings_54 (by decide) ?_
    obtain ⟨r11, σ12, h13, hf⟩ := obp_e hf
    refine g_callVi (As := [.int r5, .int 3]) (rest := []) C (a_98 ad cy _) rfl (c_X11_of l dC dI ad cy r5 ((3 : Int32))) h13 hM_X11_172 cal_X11_of ⟨Nat.zero_le _, Nat.zero_le _⟩ ⟨rfl, rfl⟩ ⟨Nat.le_of_ble_eq_true rfl, Nat.le_of_ble_eq_true rfl⟩ rfl rfl (Nat.le_of_ble_eq_true rfl) dX11_rings_55 ?_
    refine g_iconst (v := 1) C dX11_rings_58 (by decide) ?_
    rcases oi_e hf with ⟨c14, hf⟩ | ⟨c14, hf⟩
    · refine g_icmp_eq_t (tgt := 78) C dX11_rings_59 (by decide) c14 ?_
      exact g_sub [0, 1, 2, 3] rfl (fX11_rings_b78_ok C sf_25 hs_25 σ12 x1 x2 x3 hf)
    · refine g_icmp_eq_f (tgt := 78) C dX11_rings_59 (by decide) c14 ?_
      refine g_iload_n C dX11_rings_62 rfl 2 rfl ?_
      refine g_bipush (v := (-4)) C dX11_rings_63 (by decide) ?_
      rcases oi_e hf with ⟨c15, hf⟩ | ⟨c15, hf⟩
      · refine g_icmp_eq_t (tgt := 103) C dX11_rings_65 (by decide) c15 ?_
        exact g_sub [0, 1, 3, 4, 5] rfl (fX11_rings_b103_ok C sf_25 hs_25 σ12 x1 x3 r5 r8 hf)
      · refine g_icmp_eq_f (tgt := 103) C dX11_rings_65 (by decide) c15 ?_
        refine g_aload_n C dX11_rings_68 rfl 0 rfl ?_
        refine g_iload_n C dX11_rings_69 rfl 2 rfl ?_
        refine g_iload C dX11_rings_70 5 rfl ?_
        obtain ⟨r16, σ17, h18, hf⟩ := obp_e hf
        refine g_callVi (As := [.int x2, .int r8]) (rest := []) C (a_98 ad cy _) rfl (c_X11_isFeud l dC dI ad cy x2 r8) h18 hM_X11_195 cal_X11_isFeud ⟨Nat.zero_le _, Nat.zero_le _⟩ ⟨rfl, rfl⟩ ⟨Nat.le_of_ble_eq_true rfl, Nat.le_of_ble_eq_true rfl⟩ rfl rfl (Nat.le_of_ble_eq_true rfl) dX11_rings_72 ?_
        rcases oi_e hf with ⟨c19, hf⟩ | ⟨c19, hf⟩
        · refine g_if_eq_t (tgt := 103) C dX11_rings_75 (by decide) c19 ?_
          exact g_sub [0, 1, 3, 4, 5] rfl (fX11_rings_b103_ok C sf_25 hs_25 σ17 x1 x3 r5 r8 hf)
        · refine g_if_eq_f (tgt := 103) C dX11_rings_75 (by decide) c19 ?_
          exact g_sub [0, 1, 2, 3] rfl (fX11_rings_b78_ok C sf_25 hs_25 σ17 x1 x2 x3 hf)
def fX11_rings_h25  : Nat → S0 → Int32 → Int32 → Int32 → Option (Int32 × S0)
  | 0 => fun _ _ _ _ => none
  | n + 1 => fun σ x1 x2 x3 => fX11_rings_b25  (fX11_rings_h25  n) σ x1 x2 x3
set_option maxHeartbeats 1000000 in
set_option maxRecDepth 100000 in
theorem fX11_rings_h25_ok {p : Program} {l : Launch} {e : Env} {s : State} {m : MethodId} {args : Array Value} {below : List Frame} {meth : Method} {c : Code} {dC : Nat → ClassId} {dI : Nat → Nat → Nat} {ad : Nat → Nat} {cy : Nat → ClassId} {sz : Nat} (C : Cx p s m args meth c RX11 cX11_rings 6 none dC dI ad cy sz) {rr : Int32} {ρ : S0}  : ∀ (n : Nat) (σ : S0) (x1 : Int32) (x2 : Int32) (x3 : Int32)  (_hf : fX11_rings_h25  n σ x1 x2 x3 = some (rr, ρ)), Gw p l e rm_X11_rings s m args below meth c (MQ below (QcV dC dI ad cy sz ρ) args s 0 0 (AW ad sz)) dC dI ad cy 6 sz 0 0 25 [(0, .ref (ad 98)), (1, .int x1), (2, .int x2), (3, .int x3)] [] σ
  | 0, _, _, _, _, hf => by cases hf
  | n + 1, σ, x1, x2, x3, hf => fX11_rings_b25_ok C  (fX11_rings_h25  n) (fX11_rings_h25_ok C  n) σ x1 x2 x3 hf
def fX11_rings (σ : S0) (x1 : Int32) : Option (Int32 × S0) := ol (su σ 98 24 0) (fun σ1 => ol (su σ1 98 25 0) (fun σ2 => ol (su σ2 98 26 0) (fun σ3 => ol (su σ3 98 27 0) (fun σ4 => fX11_rings_h25 400 σ4 x1 ((-4)) 0))))
set_option maxHeartbeats 1000000 in
set_option maxRecDepth 100000 in
theorem fX11_rings_ok {p : Program} {l : Launch} {e : Env} {s : State} {m : MethodId} {args : Array Value} {below : List Frame} {meth : Method} {c : Code} {dC : Nat → ClassId} {dI : Nat → Nat → Nat} {ad : Nat → Nat} {cy : Nat → ClassId} {sz : Nat} (C : Cx p s m args meth c RX11 cX11_rings 6 none dC dI ad cy sz) {rr : Int32} {ρ : S0} (σ : S0) (x1 : Int32)  (hf : fX11_rings σ x1 = some (rr, ρ)) : Gw p l e rm_X11_rings s m args below meth c (MQ below (QcV dC dI ad cy sz ρ) args s 0 0 (AW ad sz)) dC dI ad cy 6 sz 0 0 0 [(0, .ref (ad 98)), (1, .int x1)] [] σ := by
  unfold fX11_rings at hf
  refine g_aload_n C dX11_rings_0 rfl 0 rfl ?_
  refine g_iconst (v := 0) C dX11_rings_1 (by decide) ?_
  obtain ⟨σ1, eσ1, hf⟩ := ol_e hf
  refine g_put (ty := .int) C (a_98 ad cy _) rfl hin_X11 tyX11 tyX11_ok nmX11 24 (by decide) hF_X11_204 rfl rfl (by decide +kernel) rfl rfl (Nat.le_of_ble_eq_true rfl) (p_98_24 ad cy _ _) eσ1 dX11_rings_2 ?_
  refine g_aload_n C dX11_rings_5 rfl 0 rfl ?_
  refine g_iconst (v := 0) C dX11_rings_6 (by decide) ?_
  obtain ⟨σ2, eσ2, hf⟩ := ol_e hf
  refine g_put (ty := .int) C (a_98 ad cy _) rfl hin_X11 tyX11 tyX11_ok nmX11 25 (by decide) hF_X11_207 rfl rfl (by decide +kernel) rfl rfl (Nat.le_of_ble_eq_true rfl) (p_98_25 ad cy _ _) eσ2 dX11_rings_7 ?_
  refine g_aload_n C dX11_rings_10 rfl 0 rfl ?_
  refine g_iconst (v := 0) C dX11_rings_11 (by decide) ?_
  obtain ⟨σ3, eσ3, hf⟩ := ol_e hf
  refine g_put (ty := .int) C (a_98 ad cy _) rfl hin_X11 tyX11 tyX11_ok nmX11 26 (by decide) hF_X11_210 rfl rfl (by decide +kernel) rfl rfl (Nat.le_of_ble_eq_true rfl) (p_98_26 ad cy _ _) eσ3 dX11_rings_12 ?_
  refine g_aload_n C dX11_rings_15 rfl 0 rfl ?_
  refine g_iconst (v := 0) C dX11_rings_16 (by decide) ?_
  obtain ⟨σ4, eσ4, hf⟩ := ol_e hf
  refine g_put (ty := .int) C (a_98 ad cy _) rfl hin_X11 tyX11 tyX11_ok nmX11 27 (by decide) hF_X11_213 rfl rfl (by decide +kernel) rfl rfl (Nat.le_of_ble_eq_true rfl) (p_98_27 ad cy _ _) eσ4 dX11_rings_17 ?_
  refine g_bipush (v := (-4)) C dX11_rings_20 (by decide) ?_
  refine g_istore_n (lv2 := [(0, .ref (ad 98)), (1, .int x1), (2, .int ((-4)))]) C dX11_rings_22 rfl (by decide) [1, 2, 0] rfl ?_
  refine g_iconst (v := 0) C dX11_rings_23 (by decide) ?_
  refine g_istore_n (lv2 := [(0, .ref (ad 98)), (1, .int x1), (2, .int ((-4))), (3, .int 0)]) C dX11_rings_24 rfl (by decide) [1, 2, 3, 0] rfl ?_
  exact g_sub [0, 1, 2, 3] rfl (fX11_rings_h25_ok C 400 σ4 x1 ((-4)) 0 hf)
theorem c_X11_rings (l : Launch) (dC : Nat → ClassId) (dI : Nat → Nat → Nat) (ad : Nat → Nat) (cy : Nat → ClassId) (x1 : Int32) : ConV l yX11_rings cX11_rings 6 none rm_X11_rings dC dI ad cy [.ref (ad 98), .int x1] (fun σ => fX11_rings σ x1) := con_v (own := RX11) (by decide) rfl (Nat.le_of_ble_eq_true rfl) (fun _ _ _ _ _ _ _ _ σ _ _ C hf => fX11_rings_ok C σ x1 hf)
theorem cal_X11_rings : CalV yX11_rings RX11 cX11_rings 6 none 1 := ⟨hI_X11_rings, hS_X11_rings, hIni_X11, hC_X11_rings, by decide +kernel⟩
