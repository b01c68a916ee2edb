abbrev rm_X11_readNumber : Room := { frames := 2, cells := 0, slots := 0, locals := 47 }
def fX11_readNumber (σ : S0) (x1 : Int32) (x2 : Int32) : Option (Int32 × S0) := obp (fX11_looked σ x1 x2) (fun r1 σ2 => obp (fX11_next σ2) (fun r4 σ5 => some (r1, σ5)))
set_option maxHeartbeats 1000000 in
set_option maxRecDepth 100000 in
theorem fX11_readNumber_ok {p : Program} {l : Launch} {e : Env} {s : State} {m : MethodId} {args : Array Value} {below : List Frame} {meth : Method} {c : Code} {dC : Nat → ClassId} {dI : Nat → Nat → Nat} {ad : Nat → Nat} {cy : Nat → ClassId} {sz : Nat} (C : Cx p s m args meth c RX11 cX11_readNumber 4 (some .int) dC dI ad cy sz) {rr : Int32} {ρ : S0} (σ : S0) (x1 : Int32) (x2 : Int32)  (hf : fX11_readNumber σ x1 x2 = some (rr, ρ)) : Gw p l e rm_X11_readNumber s m args below meth c (MQ below (QcI dC dI ad cy sz rr ρ) args s 0 0 (AW ad sz)) dC dI ad cy 4 sz 0 0 0 [(0, .ref (ad 98)), (1, .int x1), (2, .int x2)] [] σ := by
  unfold fX11_readNumber at hf
  refine g_aload_n C dX11_readNumber_0 rfl 0 rfl ?_
  refine g_iload_n C dX11_readNumber_1 rfl 1 rfl ?_
  refine g_iload_n C dX11_readNumber_2 rfl 2 rfl ?_
  obtain ⟨r1, σ2, h3, hf⟩ := obp_e hf
  refine g_callVi (As := [.int x1, .int x2]) (rest := []) C (a_98 ad cy _) rfl (c_X11_looked l dC dI ad cy x1 x2) h3 hM_X11_134 cal_X11_looked ⟨Nat.zero_le _, Nat.zero_le _⟩ ⟨rfl, rfl⟩ ⟨Nat.le_of_ble_eq_true rfl, Nat.le_of_ble_eq_true rfl⟩ rfl rfl (Nat.le_of_ble_eq_true rfl) dX11_readNumber_3 ?_
  refine g_istore_n (lv2 := [(0, .ref (ad 98)), (1, .int x1), (2, .int x2), (3, .int r1)]) C dX11_readNumber_6 rfl (by decide) [1, 2, 3, 0] rfl ?_
  refine g_aload_n C dX11_readNumber_7 rfl 0 rfl ?_
  obtain ⟨r4, σ5, h6, hf⟩ := obp_e hf
  refine g_callVv (As := []) (rest := []) C (a_98 ad cy _) rfl (c_X11_next l dC dI ad cy ) h6 hM_X11_138 cal_X11_next ⟨Nat.zero_le _, Nat.zero_le _⟩ ⟨rfl, rfl⟩ ⟨Nat.le_of_ble_eq_true rfl, Nat.le_of_ble_eq_true rfl⟩ rfl rfl (Nat.le_of_ble_eq_true rfl) dX11_readNumber_8 ?_
  refine g_iload_n C dX11_readNumber_11 rfl 3 rfl ?_
  obtain ⟨rfl, rfl⟩ := os_e hf
  exact g_iret C rfl dX11_readNumber_12
theorem c_X11_readNumber (l : Launch) (dC : Nat → ClassId) (dI : Nat → Nat → Nat) (ad : Nat → Nat) (cy : Nat → ClassId) (x1 : Int32) (x2 : Int32) : ConI l yX11_readNumber cX11_readNumber 4 (some .int) rm_X11_readNumber dC dI ad cy [.ref (ad 98), .int x1, .int x2] (fun σ => fX11_readNumber σ x1 x2) := con_i (own := RX11) (by decide) rfl (Nat.le_of_ble_eq_true rfl) (fun _ _ _ _ _ _ _ _ σ _ _ C hf => fX11_readNumber_ok C σ x1 x2 hf)
theorem cal_X11_readNumber : CalV yX11_readNumber RX11 cX11_readNumber 4 (some .int) 2 := ⟨hI_X11_readNumber, hS_X11_readNumber, hIni_X11, hC_X11_readNumber, by decide +kernel⟩
abbrev rm_X11_readHouse : Room := { frames := 2, cells := 0, slots := 0, locals := 47 }
def fX11_readHouse_b46  (σ : S0) (x2 : Int32) (t0 : Int32) : Option (Int32 × S0) := ol (su σ 98 13 t0) (fun σ1 => obp (fX11_next σ1) (fun r2 σ3 => some (x2, σ3)))
set_option maxHeartbeats 1000000 in
set_option maxRecDepth 100000 in
theorem fX11_readHouse_b46_ok {p : Program} {l : Launch} {e : Env} {s : State} {m : MethodId} {args : Array Value} {below : List Frame} {meth : Method} {c : Code} {dC : Nat → ClassId} {dI : Nat → Nat → Nat} {ad : Nat → Nat} {cy : Nat → ClassId} {sz : Nat} (C : Cx p s m args meth c RX11 cX11_readHouse 3 (some .int) dC dI ad cy sz) {rr : Int32} {ρ : S0}  (σ : S0) (x2 : Int32) (t0 : Int32)  (hf : fX11_readHouse_b46 σ x2 t0 = some (rr, ρ)) : Gw p l e rm_X11_readHouse s m args below meth c (MQ below (QcI dC dI ad cy sz rr ρ) args s 0 0 (AW ad sz)) dC dI ad cy 3 sz 0 0 46 [(0, .ref (ad 98)), (2, .int x2)] [.int t0, .ref (ad 98)] σ := by
  unfold fX11_readHouse_b46 at hf
  obtain ⟨σ1, eσ1, hf⟩ := ol_e hf
  refine g_put (ty := .int) C (a_98 ad cy _) rfl hin_X11 tyX11 tyX11_ok nmX11 13 (by decide) hF_X11_66 rfl rfl (by decide +kernel) rfl rfl (Nat.le_of_ble_eq_true rfl) (p_98_13 ad cy _ _) eσ1 dX11_readHouse_46 ?_
  refine g_aload_n C dX11_readHouse_49 rfl 0 rfl ?_
  obtain ⟨r2, σ3, h4, hf⟩ := obp_e hf
  refine g_callVv (As := []) (rest := []) C (a_98 ad cy _) rfl (c_X11_next l dC dI ad cy ) h4 hM_X11_138 cal_X11_next ⟨Nat.zero_le _, Nat.zero_le _⟩ ⟨rfl, rfl⟩ ⟨Nat.le_of_ble_eq_true rfl, Nat.le_of_ble_eq_true rfl⟩ rfl rfl (Nat.le_of_ble_eq_true rfl) dX11_readHouse_50 ?_
  refine g_iload_n C dX11_readHouse_53 rfl 1 rfl ?_
  obtain ⟨rfl, rfl⟩ := os_e hf
  exact g_iret C rfl dX11_readHouse_54
def fX11_readHouse_b29  (σ : S0) (x2 : Int32) : Option (Int32 × S0) := if x2 ≤ (σ 98 13) then (fX11_readHouse_b46 σ x2 (σ 98 13)) else (fX11_readHouse_b46 σ x2 x2)
set_option maxHeartbeats 1000000 in
set_option maxRecDepth 100000 in
theorem fX11_readHouse_b29_ok {p : Program} {l : Launch} {e : Env} {s : State} {m : MethodId} {args : Array Value} {below : List Frame} {meth : Method} {c : Code} {dC : Nat → ClassId} {dI : Nat → Nat → Nat} {ad : Nat → Nat} {cy : Nat → ClassId} {sz : Nat} (C : Cx p s m args meth c RX11 cX11_readHouse 3 (some .int) dC dI ad cy sz) {rr : Int32} {ρ : S0}  (σ : S0) (x2 : Int32)  (hf : fX11_readHouse_b29 σ x2 = some (rr, ρ)) : Gw p l e rm_X11_readHouse s m args below meth c (MQ below (QcI dC dI ad cy sz rr ρ) args s 0 0 (AW ad sz)) dC dI ad cy 3 sz 0 0 29 [(0, .ref (ad 98)), (2, .int x2)] [] σ := by
  unfold fX11_readHouse_b29 at hf
  refine g_aload_n C dX11_readHouse_29 rfl 0 rfl ?_
  refine g_iload_n C dX11_readHouse_30 rfl 1 rfl ?_
  refine g_aload_n C dX11_readHouse_31 rfl 0 rfl ?_
  refine g_get C (a_98 ad cy _) rfl hin_X11 13 (by decide) hF_X11_66 rfl rfl dX11_readHouse_32 ?_
  rcases oi_e hf with ⟨c1, hf⟩ | ⟨c1, hf⟩
  · refine g_icmp_le_t (tgt := 42) C dX11_readHouse_35 (by decide) c1 ?_
    refine g_aload_n C dX11_readHouse_42 rfl 0 rfl ?_
    refine g_get C (a_98 ad cy _) rfl hin_X11 13 (by decide) hF_X11_66 rfl rfl dX11_readHouse_43 ?_
    exact g_sub [0, 1] rfl (fX11_readHouse_b46_ok C σ x2 (σ 98 13) hf)
  · refine g_icmp_le_f (tgt := 42) C dX11_readHouse_35 (by decide) c1 ?_
    refine g_iload_n C dX11_readHouse_38 rfl 1 rfl ?_
    refine g_goto (tgt := 46) C dX11_readHouse_39 (by decide) ?_
    exact g_sub [0, 1] rfl (fX11_readHouse_b46_ok C σ x2 x2 hf)
def fX11_readHouse_b25  (σ : S0) (x2 : Int32) (t0 : Int32) : Option (Int32 × S0) := obp (fX11_needs σ t0 ((4 : Int32))) (fun r1 σ2 => fX11_readHouse_b29 σ2 x2)
set_option maxHeartbeats 1000000 in
set_option maxRecDepth 100000 in
theorem fX11_readHouse_b25_ok {p : Program} {l : Launch} {e : Env} {s : State} {m : MethodId} {args : Array Value} {below : List Frame} {meth : Method} {c : Code} {dC : Nat → ClassId} {dI : Nat → Nat → Nat} {ad : Nat → Nat} {cy : Nat → ClassId} {sz : Nat} (C : Cx p s m args meth c RX11 cX11_readHouse 3 (some .int) dC dI ad cy sz) {rr : Int32} {ρ : S0}  (σ : S0) (x2 : Int32) (t0 : Int32)  (hf : fX11_readHouse_b25 σ x2 t0 = some (rr, ρ)) : Gw p l e rm_X11_readHouse s m args below meth c (MQ below (QcI dC dI ad cy sz rr ρ) args s 0 0 (AW ad sz)) dC dI ad cy 3 sz 0 0 25 [(0, .ref (ad 98)), (2, .int x2)] [.int t0, .ref (ad 98)] σ := by
  unfold fX11_readHouse_b25 at hf
  refine g_iconst (v := 4) C dX11_readHouse_25 (by decide) ?_
  obtain ⟨r1, σ2, h3, hf⟩ := obp_e hf
  refine g_callVv (As := [.int t0, .int 4]) (rest := []) C (a_98 ad cy _) rfl (c_X11_needs l dC dI ad cy t0 ((4 : Int32))) h3 hM_X11_130 cal_X11_needs ⟨Nat.zero_le _, Nat.zero_le _⟩ ⟨rfl, rfl⟩ ⟨Nat.le_of_ble_eq_true rfl, Nat.le_of_ble_eq_true rfl⟩ rfl rfl (Nat.le_of_ble_eq_true rfl) dX11_readHouse_26 ?_
  exact g_sub [0, 1] rfl (fX11_readHouse_b29_ok C σ2 x2 hf)
def fX11_readHouse (σ : S0) (x1 : Int32) : Option (Int32 × S0) := obp (fX11_looked σ ((0 : Int32)) ((5 : Int32))) (fun r1 σ2 => if ¬ (σ2 98 22) = 0 then (fX11_readHouse_b29 σ2 r1) else (if r1 = x1 then (fX11_readHouse_b25 σ2 r1 0) else (fX11_readHouse_b25 σ2 r1 1)))
set_option maxHeartbeats 1000000 in
set_option maxRecDepth 100000 in
theorem fX11_readHouse_ok {p : Program} {l : Launch} {e : Env} {s : State} {m : MethodId} {args : Array Value} {below : List Frame} {meth : Method} {c : Code} {dC : Nat → ClassId} {dI : Nat → Nat → Nat} {ad : Nat → Nat} {cy : Nat → ClassId} {sz : Nat} (C : Cx p s m args meth c RX11 cX11_readHouse 3 (some .int) dC dI ad cy sz) {rr : Int32} {ρ : S0} (σ : S0) (x1 : Int32)  (hf : fX11_readHouse σ x1 = some (rr, ρ)) : Gw p l e rm_X11_readHouse s m args below meth c (MQ below (QcI dC dI ad cy sz rr ρ) args s 0 0 (AW ad sz)) dC dI ad cy 3 sz 0 0 0 [(0, .ref (ad 98)), (1, .int x1)] [] σ := by
  unfold fX11_readHouse at hf
  refine g_aload_n C dX11_readHouse_0 rfl 0 rfl ?_
  refine g_iconst (v := 0) C dX11_readHouse_1 (by decide) ?_
  refine g_iconst (v := 5) C dX11_readHouse_2 (by decide) ?_
  obtain ⟨r1, σ2, h3, hf⟩ := obp_e hf
  refine g_callVi (As := [.int 0, .int 5]) (rest := []) C (a_98 ad cy _) rfl (c_X11_looked l dC dI ad cy ((0 : Int32)) ((5 : Int32))) h3 hM_X11_134 cal_X11_looked ⟨Nat.zero_le _, Nat.zero_le _⟩ ⟨rfl, rfl⟩ ⟨Nat.le_of_ble_eq_true rfl, Nat.le_of_ble_eq_true rfl⟩ rfl rfl (Nat.le_of_ble_eq_true rfl) dX11_readHouse_3 ?_
  refine g_istore_n (lv2 := [(0, .ref (ad 98)), (1, .int x1), (2, .int r1)]) C dX11_readHouse_6 rfl (by decide) [1, 2, 0] rfl ?_
  refine g_aload_n C dX11_readHouse_7 rfl 0 rfl ?_
  refine g_get C (a_98 ad cy _) rfl hin_X11 22 (by decide) hF_X11_96 rfl rfl dX11_readHouse_8 ?_
  rcases oi_e hf with ⟨c4, hf⟩ | ⟨c4, hf⟩
  · refine g_if_ne_t (tgt := 29) C dX11_readHouse_11 (by decide) c4 ?_
    exact g_sub [0, 2] rfl (fX11_readHouse_b29_ok C σ2 r1 hf)
  · refine g_if_ne_f (tgt := 29) C dX11_readHouse_11 (by decide) (Decidable.of_not_not c4) ?_
    refine g_aload_n C dX11_readHouse_14 rfl 0 rfl ?_
    refine g_iload_n C dX11_readHouse_15 rfl 2 rfl ?_
    refine g_iload_n C dX11_readHouse_16 rfl 1 rfl ?_
    rcases oi_e hf with ⟨c5, hf⟩ | ⟨c5, hf⟩
    · refine g_icmp_eq_t (tgt := 24) C dX11_readHouse_17 (by decide) c5 ?_
      refine g_iconst (v := 0) C dX11_readHouse_24 (by decide) ?_
      exact g_sub [0, 2] rfl (fX11_readHouse_b25_ok C σ2 r1 0 hf)
    · refine g_icmp_eq_f (tgt := 24) C dX11_readHouse_17 (by decide) c5 ?_
      refine g_iconst (v := 1) C dX11_readHouse_20 (by decide) ?_
      refine g_goto (tgt := 25) C dX11_readHouse_21 (by decide) ?_
      exact g_sub [0, 2] rfl (fX11_readHouse_b25_ok C σ2 r1 1 hf)
theorem c_X11_readHouse (l : Launch) (dC : Nat → ClassId) (dI : Nat → Nat → Nat) (ad : Nat → Nat) (cy : Nat → ClassId) (x1 : Int32) : ConI l yX11_readHouse cX11_readHouse 3 (some .int) rm_X11_readHouse dC dI ad cy [.ref (ad 98), .int x1] (fun σ => fX11_readHouse σ x1) := con_i (own := RX11) (by decide) rfl (Nat.le_of_ble_eq_true rfl) (fun _ _ _ _ _ _ _ _ σ _ _ C hf => fX11_readHouse_ok C σ x1 hf)
theorem cal_X11_readHouse : CalV yX11_readHouse RX11 cX11_readHouse 3 (some .int) 1 := ⟨hI_X11_readHouse, hS_X11_readHouse, hIni_X11, hC_X11_readHouse, by decide +kernel⟩
abbrev rm_X11_readBell : Room := { frames := 3, cells := 0, slots := 0, locals := 70 }
def fX11_readBell_b204 (sf_72 : S0 → Int32 → Int32 → Option (Int32 × S0)) (σ : S0) (x1 : Int32) (x2 : Int32) : Option (Int32 × S0) := sf_72 σ x1 x2
set_option maxHeartbeats 1000000 in
set_option maxRecDepth 100000 in
theorem fX11_readBell_b204_ok {p : Program} {l : Launch} {e : Env} {s : State} {m : MethodId} {args : Array Value} {below : List Frame} {meth : Method} {c : Code} {dC : Nat → ClassId} {dI : Nat → Nat → Nat} {ad : Nat → Nat} {cy : Nat → ClassId} {sz : Nat} (C : Cx p s m args meth c RX11 cX11_readBell 4 none dC dI ad cy sz) {rr : Int32} {ρ : S0} (sf_72 : S0 → Int32 → Int32 → Option (Int32 × S0)) (hs_72 : ∀ (σ : S0) (x1 : Int32) (x2 : Int32) , sf_72 σ x1 x2 = some (rr, ρ) → Gw p l e rm_X11_readBell s m args below meth c (MQ below (QcV dC dI ad cy sz ρ) args s 0 0 (AW ad sz)) dC dI ad cy 4 sz 0 0 72 [(0, .ref (ad 98)), (1, .int x1), (2, .int x2)] [] σ) (σ : S0) (x1 : Int32) (x2 : Int32)  (hf : fX11_readBell_b204 sf_72 σ x1 x2 = some (rr, ρ)) : Gw p l e rm_X11_readBell s m args below meth c (MQ below (QcV dC dI ad cy sz ρ) args s 0 0 (AW ad sz)) dC dI ad cy 4 sz 0 0 204 [(0, .ref (ad 98)), (1, .int x1), (2, .int x2)] [] σ := by
  unfold fX11_readBell_b204 at hf
  refine g_goto (tgt := 72) C dX11_readBell_204 (by decide) ?_
  exact g_sub [0, 1, 2] rfl (hs_72 σ x1 x2 hf)
def fX11_readBell_b177 (sf_72 : S0 → Int32 → Int32 → Option (Int32 × S0)) (σ : S0) (x1 : Int32) (x2 : Int32) : Option (Int32 × S0) := if ¬ (σ 98 22) = 0 then (fX11_readBell_b204 sf_72 σ x1 x2) else (ol (x1 + 0) (fun v2 => og (¬ (v2 < 0 ∨ 80 ≤ v2.toNatClampNeg)) (ol (σ 102 v2.toNatClampNeg) (fun v4 => obp (fX11_readHouse σ v4) (fun r5 σ6 => ol (x1 + 4) (fun v8 => og (¬ (v8 < 0 ∨ 80 ≤ v8.toNatClampNeg)) (ol (su σ6 102 v8.toNatClampNeg r5) (fun σ10 => fX11_readBell_b204 sf_72 σ10 x1 x2))))))))
set_option maxHeartbeats 1000000 in
set_option maxRecDepth 100000 in
theorem fX11_readBell_b177_ok {p : Program} {l : Launch} {e : Env} {s : State} {m : MethodId} {args : Array Value} {below : List Frame} {meth : Method} {c : Code} {dC : Nat → ClassId} {dI : Nat → Nat → Nat} {ad : Nat → Nat} {cy : Nat → ClassId} {sz : Nat} (C : Cx p s m args meth c RX11 cX11_readBell 4 none dC dI ad cy sz) {rr : Int32} {ρ : S0} (sf_72 : S0 → Int32 → Int32 → Option (Int32 × S0)) (hs_72 : ∀ (σ : S0) (x1 : Int32) (x2 : Int32) , sf_72 σ x1 x2 = some (rr, ρ) → Gw p l e rm_X11_readBell s m args below meth c (MQ below (QcV dC dI ad cy sz ρ) args s 0 0 (AW ad sz)) dC dI ad cy 4 sz 0 0 72 [(0, .ref (ad 98)), (1, .int x1), (2, .int x2)] [] σ) (σ : S0) (x1 : Int32) (x2 : Int32)  (hf : fX11_readBell_b177 sf_72 σ x1 x2 = some (rr, ρ)) : Gw p l e rm_X11_readBell s m args below meth c (MQ below (QcV dC dI ad cy sz ρ) args s 0 0 (AW ad sz)) dC dI ad cy 4 sz 0 0 177 [(0, .ref (ad 98)), (1, .int x1), (2, .int x2)] [] σ := by
  unfold fX11_readBell_b177 at hf
  refine g_aload_n C dX11_readBell_177 rfl 0 rfl ?_
  refine g_get C (a_98 ad cy _) rfl hin_X11 22 (by decide) hF_X11_96 rfl rfl dX11_readBell_178 ?_
  rcases oi_e hf with ⟨c1, hf⟩ | ⟨c1, hf⟩
  · refine g_if_ne_t (tgt := 204) C dX11_readBell_181 (by decide) c1 ?_
    exact g_sub [0, 1, 2] rfl (fX11_readBell_b204_ok C sf_72 hs_72 σ x1 x2 hf)
  · refine g_if_ne_f (tgt := 204) C dX11_readBell_181 (by decide) (Decidable.of_not_not c1) ?_
    refine g_aload_n C dX11_readBell_184 rfl 0 rfl ?_
    refine g_get C (a_98 ad cy _) rfl hin_X11 7 (by decide) hF_X11_20 rfl rfl dX11_readBell_185 ?_
    refine g_iload_n C dX11_readBell_188 rfl 1 rfl ?_
    refine g_iconst (v := 4) C dX11_readBell_189 (by decide) ?_
    refine g_iadd C dX11_readBell_190 ?_
    refine g_aload_n C dX11_readBell_191 rfl 0 rfl ?_
    refine g_aload_n C dX11_readBell_192 rfl 0 rfl ?_
    refine g_get C (a_98 ad cy _) rfl hin_X11 7 (by decide) hF_X11_20 rfl rfl dX11_readBell_193 ?_
    refine g_iload_n C dX11_readBell_196 rfl 1 rfl ?_
    refine g_iconst (v := 0) C dX11_readBell_197 (by decide) ?_
    refine g_iadd C dX11_readBell_198 ?_
    obtain ⟨v2, ev2, hf⟩ := ol_e hf
    refine g_nm ev2 ?_
    obtain ⟨h3, hf⟩ := og_e hf
    refine g_iald C (a_102 ad cy _) h3 dX11_readBell_199 ?_
    obtain ⟨v4, ev4, hf⟩ := ol_e hf
    refine g_nm ev4 ?_
    obtain ⟨r5, σ6, h7, hf⟩ := obp_e hf
    refine g_callVi (As := [.int v4]) (rest := [.int (x1 + 4), .ref (ad 102)]) C (a_98 ad cy _) rfl (c_X11_readHouse l dC dI ad cy v4) h7 hM_X11_141 cal_X11_readHouse ⟨Nat.zero_le _, Nat.zero_le _⟩ ⟨rfl, rfl⟩ ⟨Nat.le_of_ble_eq_true rfl, Nat.le_of_ble_eq_true rfl⟩ rfl rfl (Nat.le_of_ble_eq_true rfl) dX11_readBell_200 ?_
    obtain ⟨v8, ev8, hf⟩ := ol_e hf
    refine g_nm2 ev8 ?_
    obtain ⟨h9, hf⟩ := og_e hf
    obtain ⟨σ10, eσ10, hf⟩ := ol_e hf
    refine g_iast C (a_102 ad cy _) h9 (w_102 ad cy _) eσ10 dX11_readBell_203 ?_
    exact g_sub [0, 1, 2] rfl (fX11_readBell_b204_ok C sf_72 hs_72 σ10 x1 x2 hf)
def fX11_readBell_b146 (sf_72 : S0 → Int32 → Int32 → Option (Int32 × S0)) (σ : S0) (x1 : Int32) (x3 : Int32) (t0 : Int32) (t1 : Int32) : Option (Int32 × S0) := ol (t1 ||| t0) (fun v1 => obp (fX11_next σ) (fun r2 σ3 => if ¬ (σ3 98 22) = 0 then (fX11_readBell_b177 sf_72 σ3 x1 v1) else (if ¬ x3 = 11 then (fX11_readBell_b177 sf_72 σ3 x1 v1) else (ol (x1 + 3) (fun v7 => og (¬ (v7 < 0 ∨ 80 ≤ v7.toNatClampNeg)) (ol (su σ3 102 v7.toNatClampNeg 1) (fun σ9 => fX11_readBell_b204 sf_72 σ9 x1 v1)))))))
set_option maxHeartbeats 1000000 in
set_option maxRecDepth 100000 in
theorem fX11_readBell_b146_ok {p : Program} {l : Launch} {e : Env} {s : State} {m : MethodId} {args : Array Value} {below : List Frame} {meth : Method} {c : Code} {dC : Nat → ClassId} {dI : Nat → Nat → Nat} {ad : Nat → Nat} {cy : Nat → ClassId} {sz : Nat} (C : Cx p s m args meth c RX11 cX11_readBell 4 none dC dI ad cy sz) {rr : Int32} {ρ : S0} (sf_72 : S0 → Int32 → Int32 → Option (Int32 × S0)) (hs_72 : ∀ (σ : S0) (x1 : Int32) (x2 : Int32) , sf_72 σ x1 x2 = some (rr, ρ) → Gw p l e rm_X11_readBell s m args below meth c (MQ below (QcV dC dI ad cy sz ρ) args s 0 0 (AW ad sz)) dC dI ad cy 4 sz 0 0 72 [(0, .ref (ad 98)), (1, .int x1), (2, .int x2)] [] σ) (σ : S0) (x1 : Int32) (x3 : Int32) (t0 : Int32) (t1 : Int32)  (hf : fX11_readBell_b146 sf_72 σ x1 x3 t0 t1 = some (rr, ρ)) : Gw p l e rm_X11_readBell s m args below meth c (MQ below (QcV dC dI ad cy sz ρ) args s 0 0 (AW ad sz)) dC dI ad cy 4 sz 0 0 146 [(0, .ref (ad 98)), (1, .int x1), (3, .int x3)] [.int t0, .int t1] σ := by
  unfold fX11_readBell_b146 at hf
  refine g_ior C dX11_readBell_146 ?_
  obtain ⟨v1, ev1, hf⟩ := ol_e hf
  refine g_nm ev1 ?_
  refine g_istore_n (lv2 := [(0, .ref (ad 98)), (1, .int x1), (2, .int v1), (3, .int x3)]) C dX11_readBell_147 rfl (by decide) [1, 2, 0, 3] rfl ?_
  refine g_aload_n C dX11_readBell_148 rfl 0 rfl ?_
  obtain ⟨r2, σ3, h4, hf⟩ := obp_e hf
  refine g_callVv (As := []) (rest := []) C (a_98 ad cy _) rfl (c_X11_next l dC dI ad cy ) h4 hM_X11_138 cal_X11_next ⟨Nat.zero_le _, Nat.zero_le _⟩ ⟨rfl, rfl⟩ ⟨Nat.le_of_ble_eq_true rfl, Nat.le_of_ble_eq_true rfl⟩ rfl rfl (Nat.le_of_ble_eq_true rfl) dX11_readBell_149 ?_
  refine g_aload_n C dX11_readBell_152 rfl 0 rfl ?_
  refine g_get C (a_98 ad cy _) rfl hin_X11 22 (by decide) hF_X11_96 rfl rfl dX11_readBell_153 ?_
  rcases oi_e hf with ⟨c5, hf⟩ | ⟨c5, hf⟩
  · refine g_if_ne_t (tgt := 177) C dX11_readBell_156 (by decide) c5 ?_
    exact g_sub [0, 1, 2] rfl (fX11_readBell_b177_ok C sf_72 hs_72 σ3 x1 v1 hf)
  · refine g_if_ne_f (tgt := 177) C dX11_readBell_156 (by decide) (Decidable.of_not_not c5) ?_
    refine g_iload_n C dX11_readBell_159 rfl 3 rfl ?_
    refine g_bipush (v := 11) C dX11_readBell_160 (by decide) ?_
    rcases oi_e hf with ⟨c6, hf⟩ | ⟨c6, hf⟩
    · refine g_icmp_ne_t (tgt := 177) C dX11_readBell_162 (by decide) c6 ?_
      exact g_sub [0, 1, 2] rfl (fX11_readBell_b177_ok C sf_72 hs_72 σ3 x1 v1 hf)
    · refine g_icmp_ne_f (tgt := 177) C dX11_readBell_162 (by decide) (Decidable.of_not_not c6) ?_
      refine g_aload_n C dX11_readBell_165 rfl 0 rfl ?_
      refine g_get C (a_98 ad cy _) rfl hin_X11 7 (by decide) hF_X11_20 rfl rfl dX11_readBell_166 ?_
      refine g_iload_n C dX11_readBell_169 rfl 1 rfl ?_
      refine g_iconst (v := 3) C dX11_readBell_170 (by decide) ?_
      refine g_iadd C dX11_readBell_171 ?_
      refine g_iconst (v := 1) C dX11_readBell_172 (by decide) ?_
      obtain ⟨v7, ev7, hf⟩ := ol_e hf
      refine g_nm2 ev7 ?_
      obtain ⟨h8, hf⟩ := og_e hf
      obtain ⟨σ9, eσ9, hf⟩ := ol_e hf
      refine g_iast C (a_102 ad cy _) h8 (w_102 ad cy _) eσ9 dX11_readBell_173 ?_
      refine g_goto (tgt := 204) C dX11_readBell_174 (by decide) ?_
      exact g_sub [0, 1, 2] rfl (fX11_readBell_b204_ok C sf_72 hs_72 σ9 x1 v1 hf)
def fX11_readBell_b128 (sf_72 : S0 → Int32 → Int32 → Option (Int32 × S0)) (σ : S0) (x1 : Int32) (x2 : Int32) (x3 : Int32) (t0 : Int32) : Option (Int32 × S0) := obp (fX11_needs σ t0 ((4 : Int32))) (fun r1 σ2 => if ¬ x3 = ((-4)) then (fX11_readBell_b146 sf_72 σ2 x1 x3 ((1 : Int32) <<< (x3 &&& 31)) x2) else (fX11_readBell_b146 sf_72 σ2 x1 x3 0 x2))
set_option maxHeartbeats 1000000 in
set_option maxRecDepth 100000 in
theorem fX11_readBell_b128_ok {p : Program} {l : Launch} {e : Env} {s : State} {m : MethodId} {args : Array Value} {below : List Frame} {meth : Method} {c : Code} {dC : Nat → ClassId} {dI : Nat → Nat → Nat} {ad : Nat → Nat} {cy : Nat → ClassId} {sz : Nat} (C : Cx p s m args meth c RX11 cX11_readBell 4 none dC dI ad cy sz) {rr : Int32} {ρ : S0} (sf_72 : S0 → Int32 → Int32 → Option (Int32 × S0)) (hs_72 : ∀ (σ : S0) (x1 : Int32) (x2 : Int32) , sf_72 σ x1 x2 = some (rr, ρ) → Gw p l e rm_X11_readBell s m args below meth c (MQ below (QcV dC dI ad cy sz ρ) args s 0 0 (AW ad sz)) dC dI ad cy 4 sz 0 0 72 [(0, .ref (ad 98)), (1, .int x1), (2, .int x2)] [] σ) (σ : S0) (x1 : Int32) (x2 : Int32) (x3 : Int32) (t0 : Int32)  (hf : fX11_readBell_b128 sf_72 σ x1 x2 x3 t0 = some (rr, ρ)) : Gw p l e rm_X11_readBell s m args below meth c (MQ below (QcV dC dI ad cy sz ρ) args s 0 0 (AW ad sz)) dC dI ad cy 4 sz 0 0 128 [(0, .ref (ad 98)), (1, .int x1), (2, .int x2), (3, .int x3)] [.int t0, .ref (ad 98)] σ := by
  unfold fX11_readBell_b128 at hf
  refine g_iconst (v := 4) C dX11_readBell_128 (by decide) ?_
  obtain ⟨r1, σ2, h3, hf⟩ := obp_e hf
  refine g_callVv (As := [.int t0, .int 4]) (rest := []) C (a_98 ad cy _) rfl (c_X11_needs l dC dI ad cy t0 ((4 : Int32))) h3 hM_X11_130 cal_X11_needs ⟨Nat.zero_le _, Nat.zero_le _⟩ ⟨rfl, rfl⟩ ⟨Nat.le_of_ble_eq_true rfl, Nat.le_of_ble_eq_true rfl⟩ rfl rfl (Nat.le_of_ble_eq_true rfl) dX11_readBell_129 ?_
  refine g_iload_n C dX11_readBell_132 rfl 2 rfl ?_
  refine g_iload_n C dX11_readBell_133 rfl 3 rfl ?_
  refine g_bipush (v := (-4)) C dX11_readBell_134 (by decide) ?_
  rcases oi_e hf with ⟨c4, hf⟩ | ⟨c4, hf⟩
  · refine g_icmp_ne_t (tgt := 143) C dX11_readBell_136 (by decide) c4 ?_
    refine g_iconst (v := 1) C dX11_readBell_143 (by decide) ?_
    refine g_iload_n C dX11_readBell_144 rfl 3 rfl ?_
    refine g_ishl C dX11_readBell_145 ?_
    exact g_sub [0, 1, 3] rfl (fX11_readBell_b146_ok C sf_72 hs_72 σ2 x1 x3 ((1 : Int32) <<< (x3 &&& 31)) x2 hf)
  · refine g_icmp_ne_f (tgt := 143) C dX11_readBell_136 (by decide) (Decidable.of_not_not c4) ?_
    refine g_iconst (v := 0) C dX11_readBell_139 (by decide) ?_
    refine g_goto (tgt := 146) C dX11_readBell_140 (by decide) ?_
    exact g_sub [0, 1, 3] rfl (fX11_readBell_b146_ok C sf_72 hs_72 σ2 x1 x3 0 x2 hf)
def fX11_readBell_b123 (sf_72 : S0 → Int32 → Int32 → Option (Int32 × S0)) (σ : S0) (x1 : Int32) (x2 : Int32) (x3 : Int32) : Option (Int32 × S0) := fX11_readBell_b128 sf_72 σ x1 x2 x3 1
set_option maxHeartbeats 1000000 in
set_option maxRecDepth 100000 in
theorem fX11_readBell_b123_ok {p : Program} {l : Launch} {e : Env} {s : State} {m : MethodId} {args : Array Value} {below : List Frame} {meth : Method} {c : Code} {dC : Nat → ClassId} {dI : Nat → Nat → Nat} {ad : Nat → Nat} {cy : Nat → ClassId} {sz : Nat} (C : Cx p s m args meth c RX11 cX11_readBell 4 none dC dI ad cy sz) {rr : Int32} {ρ : S0} (sf_72 : S0 → Int32 → Int32 → Option (Int32 × S0)) (hs_72 : ∀ (σ : S0) (x1 : Int32) (x2 : Int32) , sf_72 σ x1 x2 = some (rr, ρ) → Gw p l e rm_X11_readBell s m args below meth c (MQ below (QcV dC dI ad cy sz ρ) args s 0 0 (AW ad sz)) dC dI ad cy 4 sz 0 0 72 [(0, .ref (ad 98)), (1, .int x1), (2, .int x2)] [] σ) (σ : S0) (x1 : Int32) (x2 : Int32) (x3 : Int32)  (hf : fX11_readBell_b123 sf_72 σ x1 x2 x3 = some (rr, ρ)) : Gw p l e rm_X11_readBell s m args below meth c (MQ below (QcV dC dI ad cy sz ρ) args s 0 0 (AW ad sz)) dC dI ad cy 4 sz 0 0 123 [(0, .ref (ad 98)), (1, .int x1), (2, .int x2), (3, .int x3)] [.ref (ad 98)] σ := by
  unfold fX11_readBell_b123 at hf
  refine g_iconst (v := 1) C dX11_readBell_123 (by decide) ?_
  refine g_goto (tgt := 128) C dX11_readBell_124 (by decide) ?_
  exact g_sub [0, 1, 2, 3] rfl (fX11_readBell_b128_ok C sf_72 hs_72 σ x1 x2 x3 1 hf)
def fX11_readBell_b104 (sf_72 : S0 → Int32 → Int32 → Option (Int32 × S0)) (σ : S0) (x1 : Int32) (x2 : Int32) (x3 : Int32) (t0 : Int32) : Option (Int32 × S0) := obp (fX11_needs σ t0 ((2 : Int32))) (fun r1 σ2 => if x3 = ((-4)) then (fX11_readBell_b123 sf_72 σ2 x1 x2 x3) else (if ¬ ((x2 >>> (x3 &&& 31)) &&& 1) = 0 then (fX11_readBell_b128 sf_72 σ2 x1 x2 x3 0) else (fX11_readBell_b123 sf_72 σ2 x1 x2 x3)))
set_option maxHeartbeats 1000000 in
set_option maxRecDepth 100000 in
theorem fX11_readBell_b104_ok {p : Program} {l : Launch} {e : Env} {s : State} {m : MethodId} {args : Array Value} {below : List Frame} {meth : Method} {c : Code} {dC : Nat → ClassId} {dI : Nat → Nat → Nat} {ad : Nat → Nat} {cy : Nat → ClassId} {sz : Nat} (C : Cx p s m args meth c RX11 cX11_readBell 4 none dC dI ad cy sz) {rr : Int32} {ρ : S0} (sf_72 : S0 → Int32 → Int32 → Option (Int32 × S0)) (hs_72 : ∀ (σ : S0) (x1 : Int32) (x2 : Int32) , sf_72 σ x1 x2 = some (rr, ρ) → Gw p l e rm_X11_readBell s m args below meth c (MQ below (QcV dC dI ad cy sz ρ) args s 0 0 (AW ad sz)) dC dI ad cy 4 sz 0 0 72 [(0, .ref (ad 98)), (1, .int x1), (2, .int x2)] [] σ) (σ : S0) (x1 : Int32) (x2 : Int32) (x3 : Int32) (t0 : Int32)  (hf : fX11_readBell_b104 sf_72 σ x1 x2 x3 t0 = some (rr, ρ)) : Gw p l e rm_X11_readBell s m args below meth c (MQ below (QcV dC dI ad cy sz ρ) args s 0 0 (AW ad sz)) dC dI ad cy 4 sz 0 0 104 [(0, .ref (ad 98)), (1, .int x1), (2, .int x2), (3, .int x3)] [.int t0, .ref (ad 98)] σ := by
  unfold fX11_readBell_b104 at hf
  refine g_iconst (v := 2) C dX11_readBell_104 (by decide) ?_
  obtain ⟨r1, σ2, h3, hf⟩ := obp_e hf
  refine g_callVv (As := [.int t0, .int 2]) (rest := []) C (a_98 ad cy _) rfl (c_X11_needs l dC dI ad cy t0 ((2 : Int32))) h3 hM_X11_130 cal_X11_needs ⟨Nat.zero_le _, Nat.zero_le _⟩ ⟨rfl, rfl⟩ ⟨Nat.le_of_ble_eq_true rfl, Nat.le_of_ble_eq_true rfl⟩ rfl rfl (Nat.le_of_ble_eq_true rfl) dX11_readBell_105 ?_
  refine g_aload_n C dX11_readBell_108 rfl 0 rfl ?_
  refine g_iload_n C dX11_readBell_109 rfl 3 rfl ?_
  refine g_bipush (v := (-4)) C dX11_readBell_110 (by decide) ?_
  rcases oi_e hf with ⟨c4, hf⟩ | ⟨c4, hf⟩
  · refine g_icmp_eq_t (tgt := 123) C dX11_readBell_112 (by decide) c4 ?_
    exact g_sub [0, 1, 2, 3] rfl (fX11_readBell_b123_ok C sf_72 hs_72 σ2 x1 x2 x3 hf)
  · refine g_icmp_eq_f (tgt := 123) C dX11_readBell_112 (by decide) c4 ?_
    refine g_iload_n C dX11_readBell_115 rfl 2 rfl ?_
    refine g_iload_n C dX11_readBell_116 rfl 3 rfl ?_
    refine g_ishr C dX11_readBell_117 ?_
    refine g_iconst (v := 1) C dX11_readBell_118 (by decide) ?_
    refine g_iand C dX11_readBell_119 ?_
    rcases oi_e hf with ⟨c5, hf⟩ | ⟨c5, hf⟩
    · refine g_if_ne_t (tgt := 127) C dX11_readBell_120 (by decide) c5 ?_
      refine g_iconst (v := 0) C dX11_readBell_127 (by decide) ?_
      exact g_sub [0, 1, 2, 3] rfl (fX11_readBell_b128_ok C sf_72 hs_72 σ2 x1 x2 x3 0 hf)
    · refine g_if_ne_f (tgt := 127) C dX11_readBell_120 (by decide) (Decidable.of_not_not c5) ?_
      exact g_sub [0, 1, 2, 3] rfl (fX11_readBell_b123_ok C sf_72 hs_72 σ2 x1 x2 x3 hf)
def fX11_readBell_b207  (σ : S0)  : Option (Int32 × S0) := ol ((σ 98 11) + 1) (fun v1 => ol (su σ 98 11 v1) (fun σ2 => some (0, σ2)))
set_option maxHeartbeats 1000000 in
set_option maxRecDepth 100000 in
theorem fX11_readBell_b207_ok {p : Program} {l : Launch} {e : Env} {s : State} {m : MethodId} {args : Array Value} {below : List Frame} {meth : Method} {c : Code} {dC : Nat → ClassId} {dI : Nat → Nat → Nat} {ad : Nat → Nat} {cy : Nat → ClassId} {sz : Nat} (C : Cx p s m args meth c RX11 cX11_readBell 4 none dC dI ad cy sz) {rr : Int32} {ρ : S0}  (σ : S0)   (hf : fX11_readBell_b207 σ = some (rr, ρ)) : Gw p l e rm_X11_readBell s m args below meth c (MQ below (QcV dC dI ad cy sz ρ) args s 0 0 (AW ad sz)) dC dI ad cy 4 sz 0 0 207 [(0, .ref (ad 98))] [] σ := by
  unfold fX11_readBell_b207 at hf
  refine g_aload_n C dX11_readBell_207 rfl 0 rfl ?_
  refine g_dup C dX11_readBell_208 rfl ?_
  refine g_get C (a_98 ad cy _) rfl hin_X11 11 (by decide) hF_X11_60 rfl rfl dX11_readBell_209 ?_
  refine g_iconst (v := 1) C dX11_readBell_212 (by decide) ?_
  refine g_iadd C dX11_readBell_213 ?_
  obtain ⟨v1, ev1, hf⟩ := ol_e hf
  refine g_nm ev1 ?_
  obtain ⟨σ2, eσ2, hf⟩ := ol_e hf
  refine g_put (ty := .int) C (a_98 ad cy _) rfl hin_X11 tyX11 tyX11_ok nmX11 11 (by decide) hF_X11_60 rfl rfl (by decide +kernel) rfl rfl (Nat.le_of_ble_eq_true rfl) (p_98_11 ad cy _ _) eσ2 dX11_readBell_214 ?_
  obtain ⟨rfl, rfl⟩ := os_e hf
  exact g_vret C rfl dX11_readBell_217
def fX11_readBell_b72 (sf_72 : S0 → Int32 → Int32 → Option (Int32 × S0)) (σ : S0) (x1 : Int32) (x2 : Int32) : Option (Int32 × S0) := if ¬ (σ 98 22) = 0 then (fX11_readBell_b207 σ) else (if ¬ (σ 98 20) = 1 then (fX11_readBell_b207 σ) else (obp (fX11_withNow σ) (fun r3 σ4 => if r3 = ((-4)) then (fX11_readBell_b104 sf_72 σ4 x1 x2 r3 0) else (fX11_readBell_b104 sf_72 σ4 x1 x2 r3 1))))
set_option maxHeartbeats 1000000 in
set_option maxRecDepth 100000 in
theorem fX11_readBell_b72_ok {p : Program} {l : Launch} {e : Env} {s : State} {m : MethodId} {args : Array Value} {below : List Frame} {meth : Method} {c : Code} {dC : Nat → ClassId} {dI : Nat → Nat → Nat} {ad : Nat → Nat} {cy : Nat → ClassId} {sz : Nat} (C : Cx p s m args meth c RX11 cX11_readBell 4 none dC dI ad cy sz) {rr : Int32} {ρ : S0} (sf_72 : S0 → Int32 → Int32 → Option (Int32 × S0)) (hs_72 : ∀ (σ : S0) (x1 : Int32) (x2 : Int32) , sf_72 σ x1 x2 = some (rr, ρ) → Gw p l e rm_X11_readBell s m args below meth c (MQ below (QcV dC dI ad cy sz ρ) args s 0 0 (AW ad sz)) dC dI ad cy 4 sz 0 0 72 [(0, .ref (ad 98)), (1, .int x1), (2, .int x2)] [] σ) (σ : S0) (x1 : Int32) (x2 : Int32)  (hf : fX11_readBell_b72 sf_72 σ x1 x2 = some (rr, ρ)) : Gw p l e rm_X11_readBell s m args below meth c (MQ below (QcV dC dI ad cy sz ρ) args s 0 0 (AW ad sz)) dC dI ad cy 4 sz 0 0 72 [(0, .ref (ad 98)), (1, .int x1), (2, .int x2)] [] σ := by
  unfold fX11_readBell_b72 at hf
  refine g_aload_n C dX11_readBell_72 rfl 0 rfl ?_
  refine g_get C (a_98 ad cy _) rfl hin_X11 22 (by decide) hF_X11_96 rfl rfl dX11_readBell_73 ?_
  rcases oi_e hf with ⟨c1, hf⟩ | ⟨c1, hf⟩
  · refine g_if_ne_t (tgt := 207) C dX11_readBell_76 (by decide) c1 ?_
    exact g_sub [0] rfl (fX11_readBell_b207_ok C σ hf)
  · refine g_if_ne_f (tgt := 207) C dX11_readBell_76 (by decide) (Decidable.of_not_not c1) ?_
    refine g_aload_n C dX11_readBell_79 rfl 0 rfl ?_
    refine g_get C (a_98 ad cy _) rfl hin_X11 20 (by decide) hF_X11_116 rfl rfl dX11_readBell_80 ?_
    refine g_iconst (v := 1) C dX11_readBell_83 (by decide) ?_
    rcases oi_e hf with ⟨c2, hf⟩ | ⟨c2, hf⟩
    · refine g_icmp_ne_t (tgt := 207) C dX11_readBell_84 (by decide) c2 ?_
      exact g_sub [0] rfl (fX11_readBell_b207_ok C σ hf)
    · refine g_icmp_ne_f (tgt := 207) C dX11_readBell_84 (by decide) (Decidable.of_not_not c2) ?_
      refine g_aload_n C dX11_readBell_87 rfl 0 rfl ?_
      obtain ⟨r3, σ4, h5, hf⟩ := obp_e hf
      refine g_callVi (As := []) (rest := []) C (a_98 ad cy _) rfl (c_X11_withNow l dC dI ad cy ) h5 hM_X11_147 cal_X11_withNow ⟨Nat.zero_le _, Nat.zero_le _⟩ ⟨rfl, rfl⟩ ⟨Nat.le_of_ble_eq_true rfl, Nat.le_of_ble_eq_true rfl⟩ rfl rfl (Nat.le_of_ble_eq_true rfl) dX11_readBell_88 ?_
      refine g_istore_n (lv2 := [(0, .ref (ad 98)), (1, .int x1), (2, .int x2), (3, .int r3)]) C dX11_readBell_91 rfl (by decide) [1, 2, 3, 0] rfl ?_
      refine g_aload_n C dX11_readBell_92 rfl 0 rfl ?_
      refine g_iload_n C dX11_readBell_93 rfl 3 rfl ?_
      refine g_bipush (v := (-4)) C dX11_readBell_94 (by decide) ?_
      rcases oi_e hf with ⟨c6, hf⟩ | ⟨c6, hf⟩
      · refine g_icmp_eq_t (tgt := 103) C dX11_readBell_96 (by decide) c6 ?_
        refine g_iconst (v := 0) C dX11_readBell_103 (by decide) ?_
        exact g_sub [0, 1, 2, 3] rfl (fX11_readBell_b104_ok C sf_72 hs_72 σ4 x1 x2 r3 0 hf)
      · refine g_icmp_eq_f (tgt := 103) C dX11_readBell_96 (by decide) c6 ?_
        refine g_iconst (v := 1) C dX11_readBell_99 (by decide) ?_
        refine g_goto (tgt := 104) C dX11_readBell_100 (by decide) ?_
        exact g_sub [0, 1, 2, 3] rfl (fX11_readBell_b104_ok C sf_72 hs_72 σ4 x1 x2 r3 1 hf)
def fX11_readBell_h72  : Nat → S0 → Int32 → Int32 → Option (Int32 × S0)
  | 0 => fun _ _ _ => none
  | n + 1 => fun σ x1 x2 => fX11_readBell_b72  (fX11_readBell_h72  n) σ x1 x2
set_option maxHeartbeats 1000000 in
set_option maxRecDepth 100000 in
theorem fX11_readBell_h72_ok {p : Program} {l : Launch} {e : Env} {s : State} {m : MethodId} {args : Array Value} {below : List Frame} {meth : Method} {c : Code} {dC : Nat → ClassId} {dI : Nat → Nat → Nat} {ad : Nat → Nat} {cy : Nat → ClassId} {sz : Nat} (C : Cx p s m args meth c RX11 cX11_readBell 4 none dC dI ad cy sz) {rr : Int32} {ρ : S0}  : ∀ (n : Nat) (σ : S0) (x1 : Int32) (x2 : Int32)  (_hf : fX11_readBell_h72  n σ x1 x2 = some (rr, ρ)), Gw p l e rm_X11_readBell s m args below meth c (MQ below (QcV dC dI ad cy sz ρ) args s 0 0 (AW ad sz)) dC dI ad cy 4 sz 0 0 72 [(0, .ref (ad 98)), (1, .int x1), (2, .int x2)] [] σ
  | 0, _, _, _, hf => by cases hf
  | n + 1, σ, x1, x2, hf => fX11_readBell_b72_ok C  (fX11_readBell_h72  n) (fX11_readBell_h72_ok C  n) σ x1 x2 hf
def fX11_readBell (σ : S0)  : Option (Int32 × S0) := ol (5 * (σ 98 11)) (fun v1 => obp (fX11_readHouse σ (((-4) : Int32))) (fun r2 σ3 => ol (v1 + 0) (fun v5 => og (¬ (v5 < 0 ∨ 80 ≤ v5.toNatClampNeg)) (ol (su σ3 102 v5.toNatClampNeg r2) (fun σ7 => obp (fX11_readNumber σ7 ((0 : Int32)) ((20 : Int32))) (fun r8 σ9 => ol (v1 + 1) (fun v11 => og (¬ (v11 < 0 ∨ 80 ≤ v11.toNatClampNeg)) (ol (su σ9 102 v11.toNatClampNeg r8) (fun σ13 => obp (fX11_readNumber σ13 ((0 : Int32)) ((9 : Int32))) (fun r14 σ15 => ol (v1 + 2) (fun v17 => og (¬ (v17 < 0 ∨ 80 ≤ v17.toNatClampNeg)) (ol (su σ15 102 v17.toNatClampNeg r14) (fun σ19 => ol (v1 + 3) (fun v20 => og (¬ (v20 < 0 ∨ 80 ≤ v20.toNatClampNeg)) (ol (su σ19 102 v20.toNatClampNeg 0) (fun σ22 => ol (v1 + 4) (fun v23 => og (¬ (v23 < 0 ∨ 80 ≤ v23.toNatClampNeg)) (ol (su σ22 102 v23.toNatClampNeg ((-4))) (fun σ25 => fX11_readBell_h72 400 σ25 v1 0)))))))))))))))))))
set_option maxHeartbeats 1000000 in
set_option maxRecDepth 100000 in
theorem fX11_readBell_ok {p : Program} {l : Launch} {e : Env} {s : State} {m : MethodId} {args : Array Value} {below : List Frame} {meth : Method} {c : Code} {dC : Nat → ClassId} {dI : Nat → Nat → Nat} {ad : Nat → Nat} {cy : Nat → ClassId} {sz : Nat} (C : Cx p s m args meth c RX11 cX11_readBell 4 none dC dI ad cy sz) {rr : Int32} {ρ : S0} (σ : S0)   (hf : fX11_readBell σ = some (rr, ρ)) : Gw p l e rm_X11_readBell s m args below meth c (MQ below (QcV dC dI ad cy sz ρ) args s 0 0 (AW ad sz)) dC dI ad cy 4 sz 0 0 0 [(0, .ref (ad 98))] [] σ := by
  unfold fX11_readBell at hf
  refine g_iconst (v := 5) C dX11_readBell_0 (by decide) ?_
  refine g_aload_n C dX11_readBell_1 rfl 0 rfl ?_
  refine g_get C (a_98 ad cy _) rfl hin_X11 11 (by decide) hF_X11_60 rfl rfl dX11_readBell_2 ?_
  refine g_imul C dX11_readBell_5 ?_
  obtain ⟨v1, ev1, hf⟩ := ol_e hf
  refine g_nm ev1 ?_
  refine g_istore_n (lv2 := [(0, .ref (ad 98)), (1, .int v1)]) C dX11_readBell_6 rfl (by decide) [1, 0] rfl ?_
  refine g_aload_n C dX11_readBell_7 rfl 0 rfl ?_
  refine g_get C (a_98 ad cy _) rfl hin_X11 7 (by decide) hF_X11_20 rfl rfl dX11_readBell_8 ?_
  refine g_iload_n C dX11_readBell_11 rfl 1 rfl ?_
  refine g_iconst (v := 0) C dX11_readBell_12 (by decide) ?_
  refine g_iadd C dX11_readBell_13 ?_
  refine g_aload_n C dX11_readBell_14 rfl 0 rfl ?_
  refine g_bipush (v := (-4)) C dX11_readBell_15 (by decide) ?_
  obtain ⟨r2, σ3, h4, hf⟩ := obp_e hf
  refine g_callVi (As := [.int ((-4))]) (rest := [.int (v1 + 0), .ref (ad 102)]) C (a_98 ad cy _) rfl (c_X11_readHouse l dC dI ad cy (((-4) : Int32))) h4 hM_X11_141 cal_X11_readHouse ⟨Nat.zero_le _, Nat.zero_le _⟩ ⟨rfl, rfl⟩ ⟨Nat.le_of_ble_eq_true rfl, Nat.le_of_ble_eq_true rfl⟩ rfl rfl (Nat.le_of_ble_eq_true rfl) dX11_readBell_17 ?_
  obtain ⟨v5, ev5, hf⟩ := ol_e hf
  refine g_nm2 ev5 ?_
  obtain ⟨h6, hf⟩ := og_e hf
  obtain ⟨σ7, eσ7, hf⟩ := ol_e hf
  refine g_iast C (a_102 ad cy _) h6 (w_102 ad cy _) eσ7 dX11_readBell_20 ?_
  refine g_aload_n C dX11_readBell_21 rfl 0 rfl ?_
  refine g_get C (a_98 ad cy _) rfl hin_X11 7 (by decide) hF_X11_20 rfl rfl dX11_readBell_22 ?_
  refine g_iload_n C dX11_readBell_25 rfl 1 rfl ?_
  refine g_iconst (v := 1) C dX11_readBell_26 (by decide) ?_
  refine g_iadd C dX11_readBell_27 ?_
  refine g_aload_n C dX11_readBell_28 rfl 0 rfl ?_
  refine g_iconst (v := 0) C dX11_readBell_29 (by decide) ?_
  refine g_bipush (v := 20) C dX11_readBell_30 (by decide) ?_
  obtain ⟨r8, σ9, h10, hf⟩ := obp_e hf
  refine g_callVi (As := [.int 0, .int 20]) (rest := [.int (v1 + 1), .ref (ad 102)]) C (a_98 ad cy _) rfl (c_X11_readNumber l dC dI ad cy ((0 : Int32)) ((20 : Int32))) h10 hM_X11_144 cal_X11_readNumber ⟨Nat.zero_le _, Nat.zero_le _⟩ ⟨rfl, rfl⟩ ⟨Nat.le_of_ble_eq_true rfl, Nat.le_of_ble_eq_true rfl⟩ rfl rfl (Nat.le_of_ble_eq_true rfl) dX11_readBell_32 ?_
  obtain ⟨v11, ev11, hf⟩ := ol_e hf
  refine g_nm2 ev11 ?_
  obtain ⟨h12, hf⟩ := og_e hf
  obtain ⟨σ13, eσ13, hf⟩ := ol_e hf
  refine g_iast C (a_102 ad cy _) h12 (w_102 ad cy _) eσ13 dX11_readBell_35 ?_
  refine g_aload_n C dX11_readBell_36 rfl 0 rfl ?_
  refine g_get C (a_98 ad cy _) rfl hin_X11 7 (by decide) hF_X11_20 rfl rfl dX11_readBell_37 ?_
  refine g_iload_n C dX11_readBell_40 rfl 1 rfl ?_
  refine g_iconst (v := 2) C dX11_readBell_41 (by decide) ?_
  refine g_iadd C dX11_readBell_42 ?_
  refine g_aload_n C dX11_readBell_43 rfl 0 rfl ?_
  refine g_iconst (v := 0) C dX11_readBell_44 (by decide) ?_
  refine g_bipush (v := 9) C dX11_readBell_45 (by decide) ?_
  obtain ⟨r14, σ15, h16, hf⟩ := obp_e hf
  refine g_callVi (As := [.int 0, .int 9]) (rest := [.int (v1 + 2), .ref (ad 102)]) C (a_98 ad cy _) rfl (c_X11_readNumber l dC dI ad cy ((0 : Int32)) ((9 : Int32))) h16 hM_X11_144 cal_X11_readNumber ⟨Nat.zero_le _, Nat.zero_le _⟩ ⟨rfl, rfl⟩ ⟨Nat.le_of_ble_eq_true rfl, Nat.le_of_ble_eq_true rfl⟩ rfl rfl (Nat.le_of_ble_eq_true rfl) dX11_readBell_47 ?_
  obtain ⟨v17, ev17, hf⟩ := ol_e hf
  refine g_nm2 ev17 ?_
  obtain ⟨h18, hf⟩ := og_e hf
  obtain ⟨σ19, eσ19, hf⟩ := ol_e hf
  refine g_iast C (a_102 ad cy _) h18 (w_102 ad cy _) eσ19 dX11_readBell_50 ?_
  refine g_aload_n C dX11_readBell_51 rfl 0 rfl ?_
  refine g_get C (a_98 ad cy _) rfl hin_X11 7 (by decide) hF_X11_20 rfl rfl dX11_readBell_52 ?_
  refine g_iload_n C dX11_readBell_55 rfl 1 rfl ?_
  refine g_iconst (v := 3) C dX11_readBell_56 (by decide) ?_
  refine g_iadd C dX11_readBell_57 ?_
  refine g_iconst (v := 0) C dX11_readBell_58 (by decide) ?_
  obtain ⟨v20, ev20, hf⟩ := ol_e hf
  refine g_nm2 ev20 ?_
  obtain ⟨h21, hf⟩ := og_e hf
  obtain ⟨σ22, eσ22, hf⟩ := ol_e hf
  refine g_iast C (a_102 ad cy _) h21 (w_102 ad cy _) eσ22 dX11_readBell_59 ?_
  refine g_aload_n C dX11_readBell_60 rfl 0 rfl ?_
  refine g_get C (a_98 ad cy _) rfl hin_X11 7 (by decide) hF_X11_20 rfl rfl dX11_readBell_61 ?_
  refine g_iload_n C dX11_readBell_64 rfl 1 rfl ?_
  refine g_iconst (v := 4) C dX11_readBell_65 (by decide) ?_
  refine g_iadd C dX11_readBell_66 ?_
  refine g_bipush (v := (-4)) C dX11_readBell_67 (by decide) ?_
  obtain ⟨v23, ev23, hf⟩ := ol_e hf
  refine g_nm2 ev23 ?_
  obtain ⟨h24, hf⟩ := og_e hf
  obtain ⟨σ25, eσ25, hf⟩ := ol_e hf
  refine g_iast C (a_102 ad cy _) h24 (w_102 ad cy _) eσ25 dX11_readBell_69 ?_
  refine g_iconst (v := 0) C dX11_readBell_70 (by decide) ?_
  refine g_istore_n (lv2 := [(0, .ref (ad 98)), (1, .int v1), (2, .int 0)]) C dX11_readBell_71 rfl (by decide) [1, 2, 0] rfl ?_
  exact g_sub [0, 1, 2] rfl (fX11_readBell_h72_ok C 400 σ25 v1 0 hf)
theorem c_X11_readBell (l : Launch) (dC : Nat → ClassId) (dI : Nat → Nat → Nat) (ad : Nat → Nat) (cy : Nat → ClassId)  : ConV l yX11_readBell cX11_readBell 4 none rm_X11_readBell dC dI ad cy [.ref (ad 98)] (fun σ => fX11_readBell σ) := con_v (own := RX11) (by decide) rfl (Nat.le_of_ble_eq_true rfl) (fun _ _ _ _ _ _ _ _ σ _ _ C hf => fX11_readBell_ok C σ  hf)
theorem cal_X11_readBell : CalV yX11_readBell RX11 cX11_readBell 4 none 0 := ⟨hI_X11_readBell, hS_X11_readBell, hIni_X11, hC_X11_readBell, by decide +kernel⟩
abbrev rm_X11_readTune : Room := { frames := 3, cells := 0, slots := 0, locals := 70 }
def fX11_readTune_b130 (sf_25 : S0 → Int32 → Int32 → Int32 → Option (Int32 × S0)) (σ : S0) (x1 : Int32) (x2 : Int32) (t0 : Int32) : Option (Int32 × S0) := sf_25 σ x1 x2 t0
set_option maxHeartbeats 1000000 in
set_option maxRecDepth 100000 in
theorem fX11_readTune_b130_ok {p : Program} {l : Launch} {e : Env} {s : State} {m : MethodId} {args : Array Value} {below : List Frame} {meth : Method} {c : Code} {dC : Nat → ClassId} {dI : Nat → Nat → Nat} {ad : Nat → Nat} {cy : Nat → ClassId} {sz : Nat} (C : Cx p s m args meth c RX11 cX11_readTune 5 none dC dI ad cy sz) {rr : Int32} {ρ : S0} (sf_25 : S0 → Int32 → Int32 → Int32 → Option (Int32 × S0)) (hs_25 : ∀ (σ : S0) (x1 : Int32) (x2 : Int32) (x3 : Int32) , sf_25 σ x1 x2 x3 = some (rr, ρ) → Gw p l e rm_X11_readTune s m args below meth c (MQ below (QcV dC dI ad cy sz ρ) args s 0 0 (AW ad sz)) dC dI ad cy 5 sz 0 0 25 [(0, .ref (ad 98)), (1, .int x1), (2, .int x2), (3, .int x3)] [] σ) (σ : S0) (x1 : Int32) (x2 : Int32) (t0 : Int32)  (hf : fX11_readTune_b130 sf_25 σ x1 x2 t0 = some (rr, ρ)) : Gw p l e rm_X11_readTune s m args below meth c (MQ below (QcV dC dI ad cy sz ρ) args s 0 0 (AW ad sz)) dC dI ad cy 5 sz 0 0 130 [(0, .ref (ad 98)), (1, .int x1), (2, .int x2)] [.int t0] σ := by
  unfold fX11_readTune_b130 at hf
  refine g_istore_n (lv2 := [(0, .ref (ad 98)), (1, .int x1), (2, .int x2), (3, .int t0)]) C dX11_readTune_130 rfl (by decide) [1, 2, 3, 0] rfl ?_
  refine g_goto (tgt := 25) C dX11_readTune_131 (by decide) ?_
  exact g_sub [0, 1, 2, 3] rfl (hs_25 σ x1 x2 t0 hf)
def fX11_readTune_b117 (sf_25 : S0 → Int32 → Int32 → Int32 → Option (Int32 × S0)) (σ : S0) (x1 : Int32) (x2 : Int32) : Option (Int32 × S0) := if ¬ (σ 98 20) = 2 then (fX11_readTune_b130 sf_25 σ x1 x2 0) else (fX11_readTune_b130 sf_25 σ x1 x2 1)
set_option maxHeartbeats 1000000 in
set_option maxRecDepth 100000 in
theorem fX11_readTune_b117_ok {p : Program} {l : Launch} {e : Env} {s : State} {m : MethodId} {args : Array Value} {below : List Frame} {meth : Method} {c : Code} {dC : Nat → ClassId} {dI : Nat → Nat → Nat} {ad : Nat → Nat} {cy : Nat → ClassId} {sz : Nat} (C : Cx p s m args meth c RX11 cX11_readTune 5 none dC dI ad cy sz) {rr : Int32} {ρ : S0} (sf_25 : S0 → Int32 → Int32 → Int32 → Option (Int32 × S0)) (hs_25 : ∀ (σ : S0) (x1 : Int32) (x2 : Int32) (x3 : Int32) , sf_25 σ x1 x2 x3 = some (rr, ρ) → Gw p l e rm_X11_readTune s m args below meth c (MQ below (QcV dC dI ad cy sz ρ) args s 0 0 (AW ad sz)) dC dI ad cy 5 sz 0 0 25 [(0, .ref (ad 98)), (1, .int x1), (2, .int x2), (3, .int x3)] [] σ) (σ : S0) (x1 : Int32) (x2 : Int32)  (hf : fX11_readTune_b117 sf_25 σ x1 x2 = some (rr, ρ)) : Gw p l e rm_X11_readTune s m args below meth c (MQ below (QcV dC dI ad cy sz ρ) args s 0 0 (AW ad sz)) dC dI ad cy 5 sz 0 0 117 [(0, .ref (ad 98)), (1, .int x1), (2, .int x2)] [] σ := by
  unfold fX11_readTune_b117 at hf
  refine g_aload_n C dX11_readTune_117 rfl 0 rfl ?_
  refine g_get C (a_98 ad cy _) rfl hin_X11 20 (by decide) hF_X11_116 rfl rfl dX11_readTune_118 ?_
  refine g_iconst (v := 2) C dX11_readTune_121 (by decide) ?_
  rcases oi_e hf with ⟨c1, hf⟩ | ⟨c1, hf⟩
  · refine g_icmp_ne_t (tgt := 129) C dX11_readTune_122 (by decide) c1 ?_
    refine g_iconst (v := 0) C dX11_readTune_129 (by decide) ?_
    exact g_sub [0, 1, 2] rfl (fX11_readTune_b130_ok C sf_25 hs_25 σ x1 x2 0 hf)
  · refine g_icmp_ne_f (tgt := 129) C dX11_readTune_122 (by decide) (Decidable.of_not_not c1) ?_
    refine g_iconst (v := 1) C dX11_readTune_125 (by decide) ?_
    refine g_goto (tgt := 130) C dX11_readTune_126 (by decide) ?_
    exact g_sub [0, 1, 2] rfl (fX11_readTune_b130_ok C sf_25 hs_25 σ x1 x2 1 hf)
def fX11_readTune_b111 (sf_25 : S0 → Int32 → Int32 → Int32 → Option (Int32 × S0)) (σ : S0) (x1 : Int32) (x2 : Int32) (t0 : Int32) : Option (Int32 × S0) := ol (su σ 98 14 t0) (fun σ1 => ol (x2 + 1) (fun v2 => fX11_readTune_b117 sf_25 σ1 x1 v2))
set_option maxHeartbeats 1000000 in
set_option maxRecDepth 100000 in
theorem fX11_readTune_b111_ok {p : Program} {l : Launch} {e : Env} {s : State} {m : MethodId} {args : Array Value} {below : List Frame} {meth : Method} {c : Code} {dC : Nat → ClassId} {dI : Nat → Nat → Nat} {ad : Nat → Nat} {cy : Nat → ClassId} {sz : Nat} (C : Cx p s m args meth c RX11 cX11_readTune 5 none dC dI ad cy sz) {rr : Int32} {ρ : S0} (sf_25 : S0 → Int32 → Int32 → Int32 → Option (Int32 × S0)) (hs_25 : ∀ (σ : S0) (x1 : Int32) (x2 : Int32) (x3 : Int32) , sf_25 σ x1 x2 x3 = some (rr, ρ) → Gw p l e rm_X11_readTune s m args below meth c (MQ below (QcV dC dI ad cy sz ρ) args s 0 0 (AW ad sz)) dC dI ad cy 5 sz 0 0 25 [(0, .ref (ad 98)), (1, .int x1), (2, .int x2), (3, .int x3)] [] σ) (σ : S0) (x1 : Int32) (x2 : Int32) (t0 : Int32)  (hf : fX11_readTune_b111 sf_25 σ x1 x2 t0 = some (rr, ρ)) : Gw p l e rm_X11_readTune s m args below meth c (MQ below (QcV dC dI ad cy sz ρ) args s 0 0 (AW ad sz)) dC dI ad cy 5 sz 0 0 111 [(0, .ref (ad 98)), (1, .int x1), (2, .int x2)] [.int t0, .ref (ad 98)] σ := by
  unfold fX11_readTune_b111 at hf
  obtain ⟨σ1, eσ1, hf⟩ := ol_e hf
  refine g_put (ty := .int) C (a_98 ad cy _) rfl hin_X11 tyX11 tyX11_ok nmX11 14 (by decide) hF_X11_69 rfl rfl (by decide +kernel) rfl rfl (Nat.le_of_ble_eq_true rfl) (p_98_14 ad cy _ _) eσ1 dX11_readTune_111 ?_
  obtain ⟨v2, ev2, hf⟩ := ol_e hf
  refine g_iinc (j := 2) (w := 1) (lv2 := [(0, .ref (ad 98)), (1, .int x1), (2, .int v2)]) C dX11_readTune_114 rfl (by decide) ev2 (by decide) [1, 2, 0] rfl ?_
  exact g_sub [0, 1, 2] rfl (fX11_readTune_b117_ok C sf_25 hs_25 σ1 x1 v2 hf)
def fX11_readTune_b56 (sf_25 : S0 → Int32 → Int32 → Int32 → Option (Int32 × S0)) (σ : S0) (x1 : Int32) (x2 : Int32) (t0 : Int32) : Option (Int32 × S0) := obp (fX11_needs σ t0 ((5 : Int32))) (fun r1 σ2 => obp (fX11_looked σ2 ((0 : Int32)) ((11 : Int32))) (fun r4 σ5 => obp (fX11_next σ5) (fun r7 σ8 => if ¬ (σ8 98 22) = 0 then (fX11_readTune_b117 sf_25 σ8 x1 x2) else (ol ((x1 + 2) + x2) (fun v11 => og (¬ (v11 < 0 ∨ 84 ≤ v11.toNatClampNeg)) (ol (su σ8 103 v11.toNatClampNeg r4) (fun σ13 => if r4 ≤ (σ13 98 14) then (fX11_readTune_b111 sf_25 σ13 x1 x2 (σ13 98 14)) else (fX11_readTune_b111 sf_25 σ13 x1 x2 r4))))))))
set_option maxHeartbeats 1000000 in
set_option maxRecDepth 100000 in
theorem fX11_readTune_b56_ok {p : Program} {l : Launch} {e : Env} {s : State} {m : MethodId} {args : Array Value} {below : List Frame} {meth : Method} {c : Code} {dC : Nat → ClassId} {dI : Nat → Nat → Nat} {ad : Nat → Nat} {cy : Nat → ClassId} {sz : Nat} (C : Cx p s m args meth c RX11 cX11_readTune 5 none dC dI ad cy sz) {rr : Int32} {ρ : S0} (sf_25 : S0 → Int32 → Int32 → Int32 → Option (Int32 × S0)) (hs_25 : ∀ (σ : S0) (x1 : Int32) (x2 : Int32) (x3 : Int32) , sf_25 σ x1 x2 x3 = some (rr, ρ) → Gw p l e rm_X11_readTune s m args below meth c (MQ below (QcV dC dI ad cy sz ρ) args s 0 0 (AW ad sz)) dC dI ad cy 5 sz 0 0 25 [(0, .ref (ad 98)), (1, .int x1), (2, .int x2), (3, .int x3)] [] σ) (σ : S0) (x1 : Int32) (x2 : Int32) (t0 : Int32)  (hf : fX11_readTune_b56 sf_25 σ x1 x2 t0 = some (rr, ρ)) : Gw p l e rm_X11_readTune s m args below meth c (MQ below (QcV dC dI ad cy sz ρ) args s 0 0 (AW ad sz)) dC dI ad cy 5 sz 0 0 56 [(0, .ref (ad 98)), (1, .int x1), (2, .int x2)] [.int t0, .ref (ad 98)] σ := by
  unfold fX11_readTune_b56 at hf
  refine g_iconst (v := 5) C dX11_readTune_56 (by decide) ?_
  obtain ⟨r1, σ2, h3, hf⟩ := obp_e hf
  refine g_callVv (As := [.int t0, .int 5]) (rest := []) C (a_98 ad cy _) rfl (c_X11_needs l dC dI ad cy t0 ((5 : Int32))) h3 hM_X11_130 cal_X11_needs ⟨Nat.zero_le _, Nat.zero_le _⟩ ⟨rfl, rfl⟩ ⟨Nat.le_of_ble_eq_true rfl, Nat.le_of_ble_eq_true rfl⟩ rfl rfl (Nat.le_of_ble_eq_true rfl) dX11_readTune_57 ?_
  refine g_aload_n C dX11_readTune_60 rfl 0 rfl ?_
  refine g_iconst (v := 0) C dX11_readTune_61 (by decide) ?_
  refine g_bipush (v := 11) C dX11_readTune_62 (by decide) ?_
  obtain ⟨r4, σ5, h6, hf⟩ := obp_e hf
  refine g_callVi (As := [.int 0, .int 11]) (rest := []) C (a_98 ad cy _) rfl (c_X11_looked l dC dI ad cy ((0 : Int32)) ((11 : Int32))) h6 hM_X11_134 cal_X11_looked ⟨Nat.zero_le _, Nat.zero_le _⟩ ⟨rfl, rfl⟩ ⟨Nat.le_of_ble_eq_true rfl, Nat.le_of_ble_eq_true rfl⟩ rfl rfl (Nat.le_of_ble_eq_true rfl) dX11_readTune_64 ?_
  refine g_istore (lv2 := [(0, .ref (ad 98)), (1, .int x1), (2, .int x2), (4, .int r4)]) C dX11_readTune_67 (by decide) [1, 2, 3, 0] rfl ?_
  refine g_aload_n C dX11_readTune_69 rfl 0 rfl ?_
  obtain ⟨r7, σ8, h9, hf⟩ := obp_e hf
  refine g_callVv (As := []) (rest := []) C (a_98 ad cy _) rfl (c_X11_next l dC dI ad cy ) h9 hM_X11_138 cal_X11_next ⟨Nat.zero_le _, Nat.zero_le _⟩ ⟨rfl, rfl⟩ ⟨Nat.le_of_ble_eq_true rfl, Nat.le_of_ble_eq_true rfl⟩ rfl rfl (Nat.le_of_ble_eq_true rfl) dX11_readTune_70 ?_
  refine g_aload_n C dX11_readTune_73 rfl 0 rfl ?_
  refine g_get C (a_98 ad cy _) rfl hin_X11 22 (by decide) hF_X11_96 rfl rfl dX11_readTune_74 ?_
  rcases oi_e hf with ⟨c10, hf⟩ | ⟨c10, hf⟩
  · refine g_if_ne_t (tgt := 117) C dX11_readTune_77 (by decide) c10 ?_
    exact g_sub [0, 1, 2] rfl (fX11_readTune_b117_ok C sf_25 hs_25 σ8 x1 x2 hf)
  · refine g_if_ne_f (tgt := 117) C dX11_readTune_77 (by decide) (Decidable.of_not_not c10) ?_
    refine g_aload_n C dX11_readTune_80 rfl 0 rfl ?_
    refine g_get C (a_98 ad cy _) rfl hin_X11 8 (by decide) hF_X11_23 rfl rfl dX11_readTune_81 ?_
    refine g_iload_n C dX11_readTune_84 rfl 1 rfl ?_
    refine g_iconst (v := 2) C dX11_readTune_85 (by decide) ?_
    refine g_iadd C dX11_readTune_86 ?_
    refine g_iload_n C dX11_readTune_87 rfl 2 rfl ?_
    refine g_iadd C dX11_readTune_88 ?_
    refine g_iload C dX11_readTune_89 3 rfl ?_
    obtain ⟨v11, ev11, hf⟩ := ol_e hf
    refine g_nm2 ev11 ?_
    obtain ⟨h12, hf⟩ := og_e hf
    obtain ⟨σ13, eσ13, hf⟩ := ol_e hf
    refine g_iast C (a_103 ad cy _) h12 (w_103 ad cy _) eσ13 dX11_readTune_91 ?_
    refine g_aload_n C dX11_readTune_92 rfl 0 rfl ?_
    refine g_iload C dX11_readTune_93 3 rfl ?_
    refine g_aload_n C dX11_readTune_95 rfl 0 rfl ?_
    refine g_get C (a_98 ad cy _) rfl hin_X11 14 (by decide) hF_X11_69 rfl rfl dX11_readTune_96 ?_
    rcases oi_e hf with ⟨c14, hf⟩ | ⟨c14, hf⟩
    · refine g_icmp_le_t (tgt := 107) C dX11_readTune_99 (by decide) c14 ?_
      refine g_aload_n C dX11_readTune_107 rfl 0 rfl ?_
      refine g_get C (a_98 ad cy _) rfl hin_X11 14 (by decide) hF_X11_69 rfl rfl dX11_readTune_108 ?_
      exact g_sub [0, 1, 2] rfl (fX11_readTune_b111_ok C sf_25 hs_25 σ13 x1 x2 (σ13 98 14) hf)
    · refine g_icmp_le_f (tgt := 107) C dX11_readTune_99 (by decide) c14 ?_
      refine g_iload C dX11_readTune_102 3 rfl ?_
      refine g_goto (tgt := 111) C dX11_readTune_104 (by decide) ?_
      exact g_sub [0, 1, 2] rfl (fX11_readTune_b111_ok C sf_25 hs_25 σ13 x1 x2 r4 hf)
def fX11_readTune_b51 (sf_25 : S0 → Int32 → Int32 → Int32 → Option (Int32 × S0)) (σ : S0) (x1 : Int32) (x2 : Int32) : Option (Int32 × S0) := fX11_readTune_b56 sf_25 σ x1 x2 1
set_option maxHeartbeats 1000000 in
set_option maxRecDepth 100000 in
theorem fX11_readTune_b51_ok {p : Program} {l : Launch} {e : Env} {s : State} {m : MethodId} {args : Array Value} {below : List Frame} {meth : Method} {c : Code} {dC : Nat → ClassId} {dI : Nat → Nat → Nat} {ad : Nat → Nat} {cy : Nat → ClassId} {sz : Nat} (C : Cx p s m args meth c RX11 cX11_readTune 5 none dC dI ad cy sz) {rr : Int32} {ρ : S0} (sf_25 : S0 → Int32 → Int32 → Int32 → Option (Int32 × S0)) (hs_25 : ∀ (σ : S0) (x1 : Int32) (x2 : Int32) (x3 : Int32) , sf_25 σ x1 x2 x3 = some (rr, ρ) → Gw p l e rm_X11_readTune s m args below meth c (MQ below (QcV dC dI ad cy sz ρ) args s 0 0 (AW ad sz)) dC dI ad cy 5 sz 0 0 25 [(0, .ref (ad 98)), (1, .int x1), (2, .int x2), (3, .int x3)] [] σ) (σ : S0) (x1 : Int32) (x2 : Int32)  (hf : fX11_readTune_b51 sf_25 σ x1 x2 = some (rr, ρ)) : Gw p l e rm_X11_readTune s m args below meth c (MQ below (QcV dC dI ad cy sz ρ) args s 0 0 (AW ad sz)) dC dI ad cy 5 sz 0 0 51 [(0, .ref (ad 98)), (1, .int x1), (2, .int x2)] [.ref (ad 98)] σ := by
  unfold fX11_readTune_b51 at hf
  refine g_iconst (v := 1) C dX11_readTune_51 (by decide) ?_
  refine g_goto (tgt := 56) C dX11_readTune_52 (by decide) ?_
  exact g_sub [0, 1, 2] rfl (fX11_readTune_b56_ok C sf_25 hs_25 σ x1 x2 1 hf)
def fX11_readTune_b134  (σ : S0) (x1 : Int32) (x2 : Int32) : Option (Int32 × S0) := ol (x1 + 1) (fun v1 => og (¬ (v1 < 0 ∨ 84 ≤ v1.toNatClampNeg)) (ol (su σ 103 v1.toNatClampNeg x2) (fun σ3 => ol ((σ3 98 12) + 1) (fun v4 => ol (su σ3 98 12 v4) (fun σ5 => some (0, σ5))))))
set_option maxHeartbeats 1000000 in
set_option maxRecDepth 100000 in
theorem fX11_readTune_b134_ok {p : Program} {l : Launch} {e : Env} {s : State} {m : MethodId} {args : Array Value} {below : List Frame} {meth : Method} {c : Code} {dC : Nat → ClassId} {dI : Nat → Nat → Nat} {ad : Nat → Nat} {cy : Nat → ClassId} {sz : Nat} (C : Cx p s m args meth c RX11 cX11_readTune 5 none dC dI ad cy sz) {rr : Int32} {ρ : S0}  (σ : S0) (x1 : Int32) (x2 : Int32)  (hf : fX11_readTune_b134 σ x1 x2 = some (rr, ρ)) : Gw p l e rm_X11_readTune s m args below meth c (MQ below (QcV dC dI ad cy sz ρ) args s 0 0 (AW ad sz)) dC dI ad cy 5 sz 0 0 134 [(0, .ref (ad 98)), (1, .int x1), (2, .int x2)] [] σ := by
  unfold fX11_readTune_b134 at hf
  refine g_aload_n C dX11_readTune_134 rfl 0 rfl ?_
  refine g_get C (a_98 ad cy _) rfl hin_X11 8 (by decide) hF_X11_23 rfl rfl dX11_readTune_135 ?_
  refine g_iload_n C dX11_readTune_138 rfl 1 rfl ?_
  refine g_iconst (v := 1) C dX11_readTune_139 (by decide) ?_
  refine g_iadd C dX11_readTune_140 ?_
  refine g_iload_n C dX11_readTune_141 rfl 2 rfl ?_
  obtain ⟨v1, ev1, hf⟩ := ol_e hf
  refine g_nm2 ev1 ?_
  obtain ⟨h2, hf⟩ := og_e hf
  obtain ⟨σ3, eσ3, hf⟩ := ol_e hf
  refine g_iast C (a_103 ad cy _) h2 (w_103 ad cy _) eσ3 dX11_readTune_142 ?_
  refine g_aload_n C dX11_readTune_143 rfl 0 rfl ?_
  refine g_dup C dX11_readTune_144 rfl ?_
  refine g_get C (a_98 ad cy _) rfl hin_X11 12 (by decide) hF_X11_63 rfl rfl dX11_readTune_145 ?_
  refine g_iconst (v := 1) C dX11_readTune_148 (by decide) ?_
  refine g_iadd C dX11_readTune_149 ?_
  obtain ⟨v4, ev4, hf⟩ := ol_e hf
  refine g_nm ev4 ?_
  obtain ⟨σ5, eσ5, hf⟩ := ol_e hf
  refine g_put (ty := .int) C (a_98 ad cy _) rfl hin_X11 tyX11 tyX11_ok nmX11 12 (by decide) hF_X11_63 rfl rfl (by decide +kernel) rfl rfl (Nat.le_of_ble_eq_true rfl) (p_98_12 ad cy _ _) eσ5 dX11_readTune_150 ?_
  obtain ⟨rfl, rfl⟩ := os_e hf
  exact g_vret C rfl dX11_readTune_153
def fX11_readTune_b25 (sf_25 : S0 → Int32 → Int32 → Int32 → Option (Int32 × S0)) (σ : S0) (x1 : Int32) (x2 : Int32) (x3 : Int32) : Option (Int32 × S0) := if ¬ (σ 98 22) = 0 then (fX11_readTune_b134 σ x1 x2) else (if x3 = 0 then (fX11_readTune_b134 σ x1 x2) else (if ¬ (σ 98 20) = 2 then (fX11_readTune_b51 sf_25 σ x1 x2) else (if (12 : Int32) ≤ x2 then (fX11_readTune_b56 sf_25 σ x1 x2 0) else (fX11_readTune_b51 sf_25 σ x1 x2))))
set_option maxHeartbeats 1000000 in
set_option maxRecDepth 100000 in
theorem fX11_readTune_b25_ok {p : Program} {l : Launch} {e : Env} {s : State} {m : MethodId} {args : Array Value} {below : List Frame} {meth : Method} {c : Code} {dC : Nat → ClassId} {dI : Nat → Nat → Nat} {ad : Nat → Nat} {cy : Nat → ClassId} {sz : Nat} (C : Cx p s m args meth c RX11 cX11_readTune 5 none dC dI ad cy sz) {rr : Int32} {ρ : S0} (sf_25 : S0 → Int32 → Int32 → Int32 → Option (Int32 × S0)) (hs_25 : ∀ (σ : S0) (x1 : Int32) (x2 : Int32) (x3 : Int32) , sf_25 σ x1 x2 x3 = some (rr, ρ) → Gw p l e rm_X11_readTune s m args below meth c (MQ below (QcV dC dI ad cy sz ρ) args s 0 0 (AW ad sz)) dC dI ad cy 5 sz 0 0 25 [(0, .ref (ad 98)), (1, .int x1), (2, .int x2), (3, .int x3)] [] σ) (σ : S0) (x1 : Int32) (x2 : Int32) (x3 : Int32)  (hf : fX11_readTune_b25 sf_25 σ x1 x2 x3 = some (rr, ρ)) : Gw p l e rm_X11_readTune s m args below meth c (MQ below (QcV dC dI ad cy sz ρ) args s 0 0 (AW ad sz)) dC dI ad cy 5 sz 0 0 25 [(0, .ref (ad 98)), (1, .int x1), (2, .int x2), (3, .int x3)] [] σ := by
  unfold fX11_readTune_b25 at hf
  refine g_aload_n C dX11_readTune_25 rfl 0 rfl ?_
  refine g_get C (a_98 ad cy _) rfl hin_X11 22 (by decide) hF_X11_96 rfl rfl dX11_readTune_26 ?_
  rcases oi_e hf with ⟨c1, hf⟩ | ⟨c1, hf⟩
  · refine g_if_ne_t (tgt := 134) C dX11_readTune_29 (by decide) c1 ?_
    exact g_sub [0, 1, 2] rfl (fX11_readTune_b134_ok C σ x1 x2 hf)
  · refine g_if_ne_f (tgt := 134) C dX11_readTune_29 (by decide) (Decidable.of_not_not c1) ?_
    refine g_iload_n C dX11_readTune_32 rfl 3 rfl ?_
    rcases oi_e hf with ⟨c2, hf⟩ | ⟨c2, hf⟩
    · refine g_if_eq_t (tgt := 134) C dX11_readTune_33 (by decide) c2 ?_
      exact g_sub [0, 1, 2] rfl (fX11_readTune_b134_ok C σ x1 x2 hf)
    · refine g_if_eq_f (tgt := 134) C dX11_readTune_33 (by decide) c2 ?_
      refine g_aload_n C dX11_readTune_36 rfl 0 rfl ?_
      refine g_aload_n C dX11_readTune_37 rfl 0 rfl ?_
      refine g_get C (a_98 ad cy _) rfl hin_X11 20 (by decide) hF_X11_116 rfl rfl dX11_readTune_38 ?_
      refine g_iconst (v := 2) C dX11_readTune_41 (by decide) ?_
      rcases oi_e hf with ⟨c3, hf⟩ | ⟨c3, hf⟩
      · refine g_icmp_ne_t (tgt := 51) C dX11_readTune_42 (by decide) c3 ?_
        exact g_sub [0, 1, 2] rfl (fX11_readTune_b51_ok C sf_25 hs_25 σ x1 x2 hf)
      · refine g_icmp_ne_f (tgt := 51) C dX11_readTune_42 (by decide) (Decidable.of_not_not c3) ?_
        refine g_iload_n C dX11_readTune_45 rfl 2 rfl ?_
        refine g_bipush (v := 12) C dX11_readTune_46 (by decide) ?_
        rcases oi_e hf with ⟨c4, hf⟩ | ⟨c4, hf⟩
        · refine g_icmp_ge_t (tgt := 55) C dX11_readTune_48 (by decide) c4 ?_
          refine g_iconst (v := 0) C dX11_readTune_55 (by decide) ?_
          exact g_sub [0, 1, 2] rfl (fX11_readTune_b56_ok C sf_25 hs_25 σ x1 x2 0 hf)
        · refine g_icmp_ge_f (tgt := 55) C dX11_readTune_48 (by decide) c4 ?_
          exact g_sub [0, 1, 2] rfl (fX11_readTune_b51_ok C sf_25 hs_25 σ x1 x2 hf)
def fX11_readTune_h25  : Nat → S0 → Int32 → Int32 → Int32 → Option (Int32 × S0)
  | 0 => fun _ _ _ _ => none
  | n + 1 => fun σ x1 x2 x3 => fX11_readTune_b25  (fX11_readTune_h25  n) σ x1 x2 x3
set_option maxHeartbeats 1000000 in
set_option maxRecDepth 100000 in
theorem fX11_readTune_h25_ok {p : Program} {l : Launch} {e : Env} {s : State} {m : MethodId} {args : Array Value} {below : List Frame} {meth : Method} {c : Code} {dC : Nat → ClassId} {dI : Nat → Nat → Nat} {ad : Nat → Nat} {cy : Nat → ClassId} {sz : Nat} (C : Cx p s m args meth c RX11 cX11_readTune 5 none dC dI ad cy sz) {rr : Int32} {ρ : S0}  : ∀ (n : Nat) (σ : S0) (x1 : Int32) (x2 : Int32) (x3 : Int32)  (_hf : fX11_readTune_h25  n σ x1 x2 x3 = some (rr, ρ)), Gw p l e rm_X11_readTune s m args below meth c (MQ below (QcV dC dI ad cy sz ρ) args s 0 0 (AW ad sz)) dC dI ad cy 5 sz 0 0 25 [(0, .ref (ad 98)), (1, .int x1), (2, .int x2), (3, .int x3)] [] σ
  | 0, _, _, _, _, hf => by cases hf
  | n + 1, σ, x1, x2, x3, hf => fX11_readTune_b25_ok C  (fX11_readTune_h25  n) (fX11_readTune_h25_ok C  n) σ x1 x2 x3 hf
def fX11_readTune (σ : S0)  : Option (Int32 × S0) := ol (14 * (σ 98 12)) (fun v1 => obp (fX11_readNumber σ ((0 : Int32)) ((99 : Int32))) (fun r2 σ3 => og (¬ (v1 < 0 ∨ 84 ≤ v1.toNatClampNeg)) (ol (su σ3 103 v1.toNatClampNeg r2) (fun σ6 => fX11_readTune_h25 400 σ6 v1 0 1))))
set_option maxHeartbeats 1000000 in
set_option maxRecDepth 100000 in
theorem fX11_readTune_ok {p : Program} {l : Launch} {e : Env} {s : State} {m : MethodId} {args : Array Value} {below : List Frame} {meth : Method} {c : Code} {dC : Nat → ClassId} {dI : Nat → Nat → Nat} {ad : Nat → Nat} {cy : Nat → ClassId} {sz : Nat} (C : Cx p s m args meth c RX11 cX11_readTune 5 none dC dI ad cy sz) {rr : Int32} {ρ : S0} (σ : S0)   (hf : fX11_readTune σ = some (rr, ρ)) : Gw p l e rm_X11_readTune s m args below meth c (MQ below (QcV dC dI ad cy sz ρ) args s 0 0 (AW ad sz)) dC dI ad cy 5 sz 0 0 0 [(0, .ref (ad 98))] [] σ := by
  unfold fX11_readTune at hf
  refine g_bipush (v := 14) C dX11_readTune_0 (by decide) ?_
  refine g_aload_n C dX11_readTune_2 rfl 0 rfl ?_
  refine g_get C (a_98 ad cy _) rfl hin_X11 12 (by decide) hF_X11_63 rfl rfl dX11_readTune_3 ?_
  refine g_imul C dX11_readTune_6 ?_
  obtain ⟨v1, ev1, hf⟩ := ol_e hf
  refine g_nm ev1 ?_
  refine g_istore_n (lv2 := [(0, .ref (ad 98)), (1, .int v1)]) C dX11_readTune_7 rfl (by decide) [1, 0] rfl ?_
  refine g_aload_n C dX11_readTune_8 rfl 0 rfl ?_
  refine g_get C (a_98 ad cy _) rfl hin_X11 8 (by decide) hF_X11_23 rfl rfl dX11_readTune_9 ?_
  refine g_iload_n C dX11_readTune_12 rfl 1 rfl ?_
  refine g_aload_n C dX11_readTune_13 rfl 0 rfl ?_
  refine g_iconst (v := 0) C dX11_readTune_14 (by decide) ?_
  refine g_bipush (v := 99) C dX11_readTune_15 (by decide) ?_
  obtain ⟨r2, σ3, h4, hf⟩ := obp_e hf
  refine g_callVi (As := [.int 0, .int 99]) (rest := [.int v1, .ref (ad 103)]) C (a_98 ad cy _) rfl (c_X11_readNumber l dC dI ad cy ((0 : Int32)) ((99 : Int32))) h4 hM_X11_144 cal_X11_readNumber ⟨Nat.zero_le _, Nat.zero_le _⟩ ⟨rfl, rfl⟩ ⟨Nat.le_of_ble_eq_true rfl, Nat.le_of_ble_eq_true rfl⟩ rfl rfl (Nat.le_of_ble_eq_true rfl) dX11_readTune_17 ?_
  obtain ⟨h5, hf⟩ := og_e hf
  obtain ⟨σ6, eσ6, hf⟩ := ol_e hf
  refine g_iast C (a_103 ad cy _) h5 (w_103 ad cy _) eσ6 dX11_readTune_20 ?_
  refine g_iconst (v := 0) C dX11_readTune_21 (by decide) ?_
  refine g_istore_n (lv2 := [(0, .ref (ad 98)), (1, .int v1), (2, .int 0)]) C dX11_readTune_22 rfl (by decide) [1, 2, 0] rfl ?_
  refine g_iconst (v := 1) C dX11_readTune_23 (by decide) ?_
  refine g_istore_n (lv2 := [(0, .ref (ad 98)), (1, .int v1), (2, .int 0), (3, .int 1)]) C dX11_readTune_24 rfl (by decide) [1, 2, 3, 0] rfl ?_
  exact g_sub [0, 1, 2, 3] rfl (fX11_readTune_h25_ok C 400 σ6 v1 0 1 hf)
theorem c_X11_readTune (l : Launch) (dC : Nat → ClassId) (dI : Nat → Nat → Nat) (ad : Nat → Nat) (cy : Nat → ClassId)  : ConV l yX11_readTune cX11_readTune 5 none rm_X11_readTune dC dI ad cy [.ref (ad 98)] (fun σ => fX11_readTune σ) := con_v (own := RX11) (by decide) rfl (Nat.le_of_ble_eq_true rfl) (fun _ _ _ _ _ _ _ _ σ _ _ C hf => fX11_readTune_ok C σ  hf)
theorem cal_X11_readTune : CalV yX11_readTune RX11 cX11_readTune 5 none 0 := ⟨hI_X11_readTune, hS_X11_readTune, hIni_X11, hC_X11_readTune, by decide +kernel⟩
abbrev rm_X11_readFeud : Room := { frames := 3, cells := 0, slots := 0, locals := 69 }
def fX11_readFeud (σ : S0)  : Option (Int32 × S0) := obp (fX11_readHouse σ (((-4) : Int32))) (fun r1 σ2 => obp (fX11_readHouse σ2 r1) (fun r4 σ5 => if ¬ (σ5 98 22) = 0 then (some (0, σ5)) else (ol (60 + r1) (fun v8 => og (¬ (v8 < 0 ∨ 80 ≤ v8.toNatClampNeg)) (ol (σ5 102 v8.toNatClampNeg) (fun v10 => ol (v10 ||| ((1 : Int32) <<< (r4 &&& 31))) (fun v11 => og (¬ (v8 < 0 ∨ 80 ≤ v8.toNatClampNeg)) (ol (su σ5 102 v8.toNatClampNeg v11) (fun σ13 => ol (60 + r4) (fun v14 => og (¬ (v14 < 0 ∨ 80 ≤ v14.toNatClampNeg)) (ol (σ13 102 v14.toNatClampNeg) (fun v16 => ol (v16 ||| ((1 : Int32) <<< (r1 &&& 31))) (fun v17 => og (¬ (v14 < 0 ∨ 80 ≤ v14.toNatClampNeg)) (ol (su σ13 102 v14.toNatClampNeg v17) (fun σ19 => some (0, σ19))))))))))))))))
set_option maxHeartbeats 1000000 in
set_option maxRecDepth 100000 in
theorem fX11_readFeud_ok {p : Program} {l : Launch} {e : Env} {s : State} {m : MethodId} {args : Array Value} {below : List Frame} {meth : Method} {c : Code} {dC : Nat → ClassId} {dI : Nat → Nat → Nat} {ad : Nat → Nat} {cy : Nat → ClassId} {sz : Nat} (C : Cx p s m args meth c RX11 cX11_readFeud 3 none dC dI ad cy sz) {rr : Int32} {ρ : S0} (σ : S0)   (hf : fX11_readFeud σ = some (rr, ρ)) : Gw p l e rm_X11_readFeud s m args below meth c (MQ below (QcV dC dI ad cy sz ρ) args s 0 0 (AW ad sz)) dC dI ad cy 3 sz 0 0 0 [(0, .ref (ad 98))] [] σ := by
  unfold fX11_readFeud at hf
  refine g_aload_n C dX11_readFeud_0 rfl 0 rfl ?_
  refine g_bipush (v := (-4)) C dX11_readFeud_1 (by decide) ?_
  obtain ⟨r1, σ2, h3, hf⟩ := obp_e hf
  refine g_callVi (As := [.int ((-4))]) (rest := []) C (a_98 ad cy _) rfl (c_X11_readHouse l dC dI ad cy (((-4) : Int32))) h3 hM_X11_141 cal_X11_readHouse ⟨Nat.zero_le _, Nat.zero_le _⟩ ⟨rfl, rfl⟩ ⟨Nat.le_of_ble_eq_true rfl, Nat.le_of_ble_eq_true rfl⟩ rfl rfl (Nat.le_of_ble_eq_true rfl) dX11_readFeud_3 ?_
  refine g_istore_n (lv2 := [(0, .ref (ad 98)), (1, .int r1)]) C dX11_readFeud_6 rfl (by decide) [1, 0] rfl ?_
  refine g_aload_n C dX11_readFeud_7 rfl 0 rfl ?_
  refine g_iload_n C dX11_readFeud_8 rfl 1 rfl ?_
  obtain ⟨r4, σ5, h6, hf⟩ := obp_e hf
  refine g_callVi (As := [.int r1]) (rest := []) C (a_98 ad cy _) rfl (c_X11_readHouse l dC dI ad cy r1) h6 hM_X11_141 cal_X11_readHouse ⟨Nat.zero_le _, Nat.zero_le _⟩ ⟨rfl, rfl⟩ ⟨Nat.le_of_ble_eq_true rfl, Nat.le_of_ble_eq_true rfl⟩ rfl rfl (Nat.le_of_ble_eq_true rfl) dX11_readFeud_9 ?_
  refine g_istore_n (lv2 := [(0, .ref (ad 98)), (1, .int r1), (2, .int r4)]) C dX11_readFeud_12 rfl (by decide) [1, 2, 0] rfl ?_
  refine g_aload_n C dX11_readFeud_13 rfl 0 rfl ?_
  refine g_get C (a_98 ad cy _) rfl hin_X11 22 (by decide) hF_X11_96 rfl rfl dX11_readFeud_14 ?_
  rcases oi_e hf with ⟨c7, hf⟩ | ⟨c7, hf⟩
  · refine g_if_ne_t (tgt := 50) C dX11_readFeud_17 (by decide) c7 ?_
    obtain ⟨rfl, rfl⟩ := os_e hf
    exact g_vret C rfl dX11_readFeud_50
  · refine g_if_ne_f (tgt := 50) C dX11_readFeud_17 (by decide) (Decidable.of_not_not c7) ?_
    refine g_aload_n C dX11_readFeud_20 rfl 0 rfl ?_
    refine g_get C (a_98 ad cy _) rfl hin_X11 7 (by decide) hF_X11_20 rfl rfl dX11_readFeud_21 ?_
    refine g_bipush (v := 60) C dX11_readFeud_24 (by decide) ?_
    refine g_iload_n C dX11_readFeud_26 rfl 1 rfl ?_
    refine g_iadd C dX11_readFeud_27 ?_
    obtain ⟨v8, ev8, hf⟩ := ol_e hf
    refine g_nm ev8 ?_
    refine g_dup2 C dX11_readFeud_28 rfl rfl ?_
    obtain ⟨h9, hf⟩ := og_e hf
    refine g_iald C (a_102 ad cy _) h9 dX11_readFeud_29 ?_
    obtain ⟨v10, ev10, hf⟩ := ol_e hf
    refine g_nm ev10 ?_
    refine g_iconst (v := 1) C dX11_readFeud_30 (by decide) ?_
    refine g_iload_n C dX11_readFeud_31 rfl 2 rfl ?_
    refine g_ishl C dX11_readFeud_32 ?_
    refine g_ior C dX11_readFeud_33 ?_
    obtain ⟨v11, ev11, hf⟩ := ol_e hf
    refine g_nm ev11 ?_
    obtain ⟨h12, hf⟩ := og_e hf
    obtain ⟨σ13, eσ13, hf⟩ := ol_e hf
    refine g_iast C (a_102 ad cy _) h12 (w_102 ad cy _) eσ13 dX11_readFeud_34 ?_
    refine g_aload_n C dX11_readFeud_35 rfl 0 rfl ?_
    refine g_get C (a_98 ad cy _) rfl hin_X11 7 (by decide) hF_X11_20 rfl rfl dX11_readFeud_36 ?_
    refine g_bipush (v := 60) C dX11_readFeud_39 (by decide) ?_
    refine g_iload_n C dX11_readFeud_41 rfl 2 rfl ?_
    refine g_iadd C dX11_readFeud_42 ?_
    obtain ⟨v14, ev14, hf⟩ := ol_e hf
    refine g_nm ev14 ?_
    refine g_dup2 C dX11_readFeud_43 rfl rfl ?_
    obtain ⟨h15, hf⟩ := og_e hf
    refine g_iald C (a_102 ad cy _) h15 dX11_readFeud_44 ?_
    obtain ⟨v16, ev16, hf⟩ := ol_e hf
    refine g_nm ev16 ?_
    refine g_iconst (v := 1) C dX11_readFeud_45 (by decide) ?_
    refine g_iload_n C dX11_readFeud_46 rfl 1 rfl ?_
    refine g_ishl C dX11_readFeud_47 ?_
    refine g_ior C dX11_readFeud_48 ?_
    obtain ⟨v17, ev17, hf⟩ := ol_e hf
    refine g_nm ev17 ?_
    obtain ⟨h18, hf⟩ := og_e hf
    obtain ⟨σ19, eσ19, hf⟩ := ol_e hf
    refine g_iast C (a_102 ad cy _) h18 (w_102 ad cy _) eσ19 dX11_readFeud_49 ?_
    obtain ⟨rfl, rfl⟩ := os_e hf
    exact g_vret C rfl dX11_readFeud_50
theorem c_X11_readFeud (l : Launch) (dC : Nat → ClassId) (dI : Nat → Nat → Nat) (ad : Nat → Nat) (cy : Nat → ClassId)  : ConV l yX11_readFeud cX11_readFeud 3 none rm_X11_readFeud dC dI ad cy [.ref (ad 98)] (fun σ => fX11_readFeud σ) := con_v (own := RX11) (by decide) rfl (Nat.le_of_ble_eq_true rfl) (fun _ _ _ _ _ _ _ _ σ _ _ C hf => fX11_readFeud_ok C σ  hf)
theorem cal_X11_readFeud : CalV yX11_readFeud RX11 cX11_readFeud 3 none 0 := ⟨hI_X11_readFeud, hS_X11_readFeud, hIni_X11, hC_X11_readFeud, by decide +kernel⟩
abbrev rm_X11_readLine : Room := { frames := 4, cells := 0, slots := 0, locals := 94 }
def fX11_readLine_b231  (σ : S0)  : Option (Int32 × S0) := obp (fX11_next σ) (fun r1 σ2 => some (0, σ2))
set_option maxHeartbeats 1000000 in
set_option maxRecDepth 100000 in
theorem fX11_readLine_b231_ok {p : Program} {l : Launch} {e : Env} {s : State} {m : MethodId} {args : Array Value} {below : List Frame} {meth : Method} {c : Code} {dC : Nat → ClassId} {dI : Nat → Nat → Nat} {ad : Nat → Nat} {cy : Nat → ClassId} {sz : Nat} (C : Cx p s m args meth c RX11 cX11_readLine 2 none dC dI ad cy sz) {rr : Int32} {ρ : S0}  (σ : S0)   (hf : fX11_readLine_b231 σ = some (rr, ρ)) : Gw p l e rm_X11_readLine s m args below meth c (MQ below (QcV dC dI ad cy sz ρ) args s 0 0 (AW ad sz)) dC dI ad cy 2 sz 0 0 231 [(0, .ref (ad 98))] [] σ := by
  unfold fX11_readLine_b231 at hf
  refine g_aload_n C dX11_readLine_231 rfl 0 rfl ?_
  obtain ⟨r1, σ2, h3, hf⟩ := obp_e hf
  refine g_callVv (As := []) (rest := []) C (a_98 ad cy _) rfl (c_X11_next l dC dI ad cy ) h3 hM_X11_138 cal_X11_next ⟨Nat.zero_le _, Nat.zero_le _⟩ ⟨rfl, rfl⟩ ⟨Nat.le_of_ble_eq_true rfl, Nat.le_of_ble_eq_true rfl⟩ rfl rfl (Nat.le_of_ble_eq_true rfl) dX11_readLine_232 ?_
  obtain ⟨rfl, rfl⟩ := os_e hf
  exact g_vret C rfl dX11_readLine_235
def fX11_readLine_b227  (σ : S0) (t0 : Int32) : Option (Int32 × S0) := obp (fX11_needs σ t0 ((2 : Int32))) (fun r1 σ2 => fX11_readLine_b231 σ2)
set_option maxHeartbeats 1000000 in
set_option maxRecDepth 100000 in
theorem fX11_readLine_b227_ok {p : Program} {l : Launch} {e : Env} {s : State} {m : MethodId} {args : Array Value} {below : List Frame} {meth : Method} {c : Code} {dC : Nat → ClassId} {dI : Nat → Nat → Nat} {ad : Nat → Nat} {cy : Nat → ClassId} {sz : Nat} (C : Cx p s m args meth c RX11 cX11_readLine 2 none dC dI ad cy sz) {rr : Int32} {ρ : S0}  (σ : S0) (t0 : Int32)  (hf : fX11_readLine_b227 σ t0 = some (rr, ρ)) : Gw p l e rm_X11_readLine s m args below meth c (MQ below (QcV dC dI ad cy sz ρ) args s 0 0 (AW ad sz)) dC dI ad cy 2 sz 0 0 227 [(0, .ref (ad 98))] [.int t0, .ref (ad 98)] σ := by
  unfold fX11_readLine_b227 at hf
  refine g_iconst (v := 2) C dX11_readLine_227 (by decide) ?_
  obtain ⟨r1, σ2, h3, hf⟩ := obp_e hf
  refine g_callVv (As := [.int t0, .int 2]) (rest := []) C (a_98 ad cy _) rfl (c_X11_needs l dC dI ad cy t0 ((2 : Int32))) h3 hM_X11_130 cal_X11_needs ⟨Nat.zero_le _, Nat.zero_le _⟩ ⟨rfl, rfl⟩ ⟨Nat.le_of_ble_eq_true rfl, Nat.le_of_ble_eq_true rfl⟩ rfl rfl (Nat.le_of_ble_eq_true rfl) dX11_readLine_228 ?_
  exact g_sub [0] rfl (fX11_readLine_b231_ok C σ2 hf)
def fX11_readLine_b206  (σ : S0)  : Option (Int32 × S0) := if ¬ (σ 98 22) = 0 then (fX11_readLine_b231 σ) else (if ¬ (σ 98 20) = 3 then (fX11_readLine_b227 σ 0) else (fX11_readLine_b227 σ 1))
set_option maxHeartbeats 1000000 in
set_option maxRecDepth 100000 in
theorem fX11_readLine_b206_ok {p : Program} {l : Launch} {e : Env} {s : State} {m : MethodId} {args : Array Value} {below : List Frame} {meth : Method} {c : Code} {dC : Nat → ClassId} {dI : Nat → Nat → Nat} {ad : Nat → Nat} {cy : Nat → ClassId} {sz : Nat} (C : Cx p s m args meth c RX11 cX11_readLine 2 none dC dI ad cy sz) {rr : Int32} {ρ : S0}  (σ : S0)   (hf : fX11_readLine_b206 σ = some (rr, ρ)) : Gw p l e rm_X11_readLine s m args below meth c (MQ below (QcV dC dI ad cy sz ρ) args s 0 0 (AW ad sz)) dC dI ad cy 2 sz 0 0 206 [(0, .ref (ad 98))] [] σ := by
  unfold fX11_readLine_b206 at hf
  refine g_aload_n C dX11_readLine_206 rfl 0 rfl ?_
  refine g_get C (a_98 ad cy _) rfl hin_X11 22 (by decide) hF_X11_96 rfl rfl dX11_readLine_207 ?_
  rcases oi_e hf with ⟨c1, hf⟩ | ⟨c1, hf⟩
  · refine g_if_ne_t (tgt := 231) C dX11_readLine_210 (by decide) c1 ?_
    exact g_sub [0] rfl (fX11_readLine_b231_ok C σ hf)
  · refine g_if_ne_f (tgt := 231) C dX11_readLine_210 (by decide) (Decidable.of_not_not c1) ?_
    refine g_aload_n C dX11_readLine_213 rfl 0 rfl ?_
    refine g_aload_n C dX11_readLine_214 rfl 0 rfl ?_
    refine g_get C (a_98 ad cy _) rfl hin_X11 20 (by decide) hF_X11_116 rfl rfl dX11_readLine_215 ?_
    refine g_iconst (v := 3) C dX11_readLine_218 (by decide) ?_
    rcases oi_e hf with ⟨c2, hf⟩ | ⟨c2, hf⟩
    · refine g_icmp_ne_t (tgt := 226) C dX11_readLine_219 (by decide) c2 ?_
      refine g_iconst (v := 0) C dX11_readLine_226 (by decide) ?_
      exact g_sub [0] rfl (fX11_readLine_b227_ok C σ 0 hf)
    · refine g_icmp_ne_f (tgt := 226) C dX11_readLine_219 (by decide) (Decidable.of_not_not c2) ?_
      refine g_iconst (v := 1) C dX11_readLine_222 (by decide) ?_
      refine g_goto (tgt := 227) C dX11_readLine_223 (by decide) ?_
      exact g_sub [0] rfl (fX11_readLine_b227_ok C σ 1 hf)
def fX11_readLine_b117  (σ : S0) (x1 : Int32) : Option (Int32 × S0) := obp (fX11_next σ) (fun r1 σ2 => if (σ2 98 22) ≤ 0 then (if x1.toInt < 0 ∨ 3 < x1.toInt then (obp (fX11_readFeud σ2) (fun r6 σ7 => fX11_readLine_b206 σ7)) else if x1 = 0 then (obp (fX11_readNumber σ2 ((1 : Int32)) ((6 : Int32))) (fun r10 σ11 => ol (su σ11 98 9 r10) (fun σ13 => fX11_readLine_b206 σ13))) else if x1 = 1 then (obp (fX11_readNumber σ2 ((0 : Int32)) ((9 : Int32))) (fun r15 σ16 => ol (su σ16 98 10 r15) (fun σ18 => fX11_readLine_b206 σ18))) else if x1 = 2 then (obp (fX11_readBell σ2) (fun r20 σ21 => fX11_readLine_b206 σ21)) else if x1 = 3 then (obp (fX11_readTune σ2) (fun r24 σ25 => fX11_readLine_b206 σ25)) else none) else (some (0, σ2)))
set_option maxHeartbeats 1000000 in
set_option maxRecDepth 100000 in
theorem fX11_readLine_b117_ok {p : Program} {l : Launch} {e : Env} {s : State} {m : MethodId} {args : Array Value} {below : List Frame} {meth : Method} {c : Code} {dC : Nat → ClassId} {dI : Nat → Nat → Nat} {ad : Nat → Nat} {cy : Nat → ClassId} {sz : Nat} (C : Cx p s m args meth c RX11 cX11_readLine 2 none dC dI ad cy sz) {rr : Int32} {ρ : S0}  (σ : S0) (x1 : Int32)  (hf : fX11_readLine_b117 σ x1 = some (rr, ρ)) : Gw p l e rm_X11_readLine s m args below meth c (MQ below (QcV dC dI ad cy sz ρ) args s 0 0 (AW ad sz)) dC dI ad cy 2 sz 0 0 117 [(0, .ref (ad 98)), (1, .int x1)] [] σ := by
  unfold fX11_readLine_b117 at hf
  refine g_aload_n C dX11_readLine_117 rfl 0 rfl ?_
  obtain ⟨r1, σ2, h3, hf⟩ := obp_e hf
  refine g_callVv (As := []) (rest := []) C (a_98 ad cy _) rfl (c_X11_next l dC dI ad cy ) h3 hM_X11_138 cal_X11_next ⟨Nat.zero_le _, Nat.zero_le _⟩ ⟨rfl, rfl⟩ ⟨Nat.le_of_ble_eq_true rfl, Nat.le_of_ble_eq_true rfl⟩ rfl rfl (Nat.le_of_ble_eq_true rfl) dX11_readLine_118 ?_
  refine g_aload_n C dX11_readLine_121 rfl 0 rfl ?_
  refine g_get C (a_98 ad cy _) rfl hin_X11 22 (by decide) hF_X11_96 rfl rfl dX11_readLine_122 ?_
  rcases oi_e hf with ⟨c4, hf⟩ | ⟨c4, hf⟩
  · refine g_if_le_t (tgt := 129) C dX11_readLine_125 (by decide) c4 ?_
    refine g_iload_n C dX11_readLine_129 rfl 1 rfl ?_
    rcases oi_e hf with ⟨c5, hf⟩ | ⟨c5, hf⟩
    · refine g_tout (tgt := 202) C dX11_readLine_130 c5 (by decide) ?_
      refine g_aload_n C dX11_readLine_202 rfl 0 rfl ?_
      obtain ⟨r6, σ7, h8, hf⟩ := obp_e hf
      refine g_callVv (As := []) (rest := []) C (a_98 ad cy _) rfl (c_X11_readFeud l dC dI ad cy ) h8 hM_X11_160 cal_X11_readFeud ⟨Nat.zero_le _, Nat.zero_le _⟩ ⟨rfl, rfl⟩ ⟨Nat.le_of_ble_eq_true rfl, Nat.le_of_ble_eq_true rfl⟩ rfl rfl (Nat.le_of_ble_eq_true rfl) dX11_readLine_203 ?_
      exact g_sub [0] rfl (fX11_readLine_b206_ok C σ7 hf)
    · skip
      rcases oi_e hf with ⟨c9, hf⟩ | ⟨c9, hf⟩
      · refine g_tin (tgt := 160) C dX11_readLine_130 (by rw [c9]; decide) (by rw [c9]; decide) (by rw [c9]; rfl) (by decide) ?_
        refine g_aload_n C dX11_readLine_160 rfl 0 rfl ?_
        refine g_aload_n C dX11_readLine_161 rfl 0 rfl ?_
        refine g_iconst (v := 1) C dX11_readLine_162 (by decide) ?_
        refine g_bipush (v := 6) C dX11_readLine_163 (by decide) ?_
        obtain ⟨r10, σ11, h12, hf⟩ := obp_e hf
        refine g_callVi (As := [.int 1, .int 6]) (rest := [.ref (ad 98)]) C (a_98 ad cy _) rfl (c_X11_readNumber l dC dI ad cy ((1 : Int32)) ((6 : Int32))) h12 hM_X11_144 cal_X11_readNumber ⟨Nat.zero_le _, Nat.zero_le _⟩ ⟨rfl, rfl⟩ ⟨Nat.le_of_ble_eq_true rfl, Nat.le_of_ble_eq_true rfl⟩ rfl rfl (Nat.le_of_ble_eq_true rfl) dX11_readLine_165 ?_
        obtain ⟨σ13, eσ13, hf⟩ := ol_e hf
        refine g_put (ty := .int) C (a_98 ad cy _) rfl hin_X11 tyX11 tyX11_ok nmX11 9 (by decide) hF_X11_53 rfl rfl (by decide +kernel) rfl rfl (Nat.le_of_ble_eq_true rfl) (p_98_9 ad cy _ _) eσ13 dX11_readLine_168 ?_
        refine g_goto (tgt := 206) C dX11_readLine_171 (by decide) ?_
        exact g_sub [0] rfl (fX11_readLine_b206_ok C σ13 hf)
      · skip
        rcases oi_e hf with ⟨c14, hf⟩ | ⟨c14, hf⟩
        · refine g_tin (tgt := 174) C dX11_readLine_130 (by rw [c14]; decide) (by rw [c14]; decide) (by rw [c14]; rfl) (by decide) ?_
          refine g_aload_n C dX11_readLine_174 rfl 0 rfl ?_
          refine g_aload_n C dX11_readLine_175 rfl 0 rfl ?_
          refine g_iconst (v := 0) C dX11_readLine_176 (by decide) ?_
          refine g_bipush (v := 9) C dX11_readLine_177 (by decide) ?_
          obtain ⟨r15, σ16, h17, hf⟩ := obp_e hf
          refine g_callVi (As := [.int 0, .int 9]) (rest := [.ref (ad 98)]) C (a_98 ad cy _) rfl (c_X11_readNumber l dC dI ad cy ((0 : Int32)) ((9 : Int32))) h17 hM_X11_144 cal_X11_readNumber ⟨Nat.zero_le _, Nat.zero_le _⟩ ⟨rfl, rfl⟩ ⟨Nat.le_of_ble_eq_true rfl, Nat.le_of_ble_eq_true rfl⟩ rfl rfl (Nat.le_of_ble_eq_true rfl) dX11_readLine_179 ?_
          obtain ⟨σ18, eσ18, hf⟩ := ol_e hf
          refine g_put (ty := .int) C (a_98 ad cy _) rfl hin_X11 tyX11 tyX11_ok nmX11 10 (by decide) hF_X11_57 rfl rfl (by decide +kernel) rfl rfl (Nat.le_of_ble_eq_true rfl) (p_98_10 ad cy _ _) eσ18 dX11_readLine_182 ?_
          refine g_goto (tgt := 206) C dX11_readLine_185 (by decide) ?_
          exact g_sub [0] rfl (fX11_readLine_b206_ok C σ18 hf)
        · skip
          rcases oi_e hf with ⟨c19, hf⟩ | ⟨c19, hf⟩
          · refine g_tin (tgt := 188) C dX11_readLine_130 (by rw [c19]; decide) (by rw [c19]; decide) (by rw [c19]; rfl) (by decide) ?_
            refine g_aload_n C dX11_readLine_188 rfl 0 rfl ?_
            obtain ⟨r20, σ21, h22, hf⟩ := obp_e hf
            refine g_callVv (As := []) (rest := []) C (a_98 ad cy _) rfl (c_X11_readBell l dC dI ad cy ) h22 hM_X11_154 cal_X11_readBell ⟨Nat.zero_le _, Nat.zero_le _⟩ ⟨rfl, rfl⟩ ⟨Nat.le_of_ble_eq_true rfl, Nat.le_of_ble_eq_true rfl⟩ rfl rfl (Nat.le_of_ble_eq_true rfl) dX11_readLine_189 ?_
            refine g_goto (tgt := 206) C dX11_readLine_192 (by decide) ?_
            exact g_sub [0] rfl (fX11_readLine_b206_ok C σ21 hf)
          · skip
            rcases oi_e hf with ⟨c23, hf⟩ | ⟨c23, hf⟩
            · refine g_tin (tgt := 195) C dX11_readLine_130 (by rw [c23]; decide) (by rw [c23]; decide) (by rw [c23]; rfl) (by decide) ?_
              refine g_aload_n C dX11_readLine_195 rfl 0 rfl ?_
              obtain ⟨r24, σ25, h26, hf⟩ := obp_e hf
              refine g_callVv (As := []) (rest := []) C (a_98 ad cy _) rfl (c_X11_readTune l dC dI ad cy ) h26 hM_X11_157 cal_X11_readTune ⟨Nat.zero_le _, Nat.zero_le _⟩ ⟨rfl, rfl⟩ ⟨Nat.le_of_ble_eq_true rfl, Nat.le_of_ble_eq_true rfl⟩ rfl rfl (Nat.le_of_ble_eq_true rfl) dX11_readLine_196 ?_
              refine g_goto (tgt := 206) C dX11_readLine_199 (by decide) ?_
              exact g_sub [0] rfl (fX11_readLine_b206_ok C σ25 hf)
            · skip
              cases hf
  · refine g_if_le_f (tgt := 129) C dX11_readLine_125 (by decide) c4 ?_
    obtain ⟨rfl, rfl⟩ := os_e hf
    exact g_vret C rfl dX11_readLine_128
def fX11_readLine_b101  (σ : S0) (x1 : Int32) (t0 : Int32) : Option (Int32 × S0) := obp (fX11_needs σ t0 ((4 : Int32))) (fun r1 σ2 => ol ((σ2 98 15) ||| ((1 : Int32) <<< (x1 &&& 31))) (fun v4 => ol (su σ2 98 15 v4) (fun σ5 => fX11_readLine_b117 σ5 x1)))
set_option maxHeartbeats 1000000 in
set_option maxRecDepth 100000 in
theorem fX11_readLine_b101_ok {p : Program} {l : Launch} {e : Env} {s : State} {m : MethodId} {args : Array Value} {below : List Frame} {meth : Method} {c : Code} {dC : Nat → ClassId} {dI : Nat → Nat → Nat} {ad : Nat → Nat} {cy : Nat → ClassId} {sz : Nat} (C : Cx p s m args meth c RX11 cX11_readLine 2 none dC dI ad cy sz) {rr : Int32} {ρ : S0}  (σ : S0) (x1 : Int32) (t0 : Int32)  (hf : fX11_readLine_b101 σ x1 t0 = some (rr, ρ)) : Gw p l e rm_X11_readLine s m args below meth c (MQ below (QcV dC dI ad cy sz ρ) args s 0 0 (AW ad sz)) dC dI ad cy 2 sz 0 0 101 [(0, .ref (ad 98)), (1, .int x1)] [.int t0, .ref (ad 98)] σ := by
  unfold fX11_readLine_b101 at hf
  refine g_iconst (v := 4) C dX11_readLine_101 (by decide) ?_
  obtain ⟨r1, σ2, h3, hf⟩ := obp_e hf
  refine g_callVv (As := [.int t0, .int 4]) (rest := []) C (a_98 ad cy _) rfl (c_X11_needs l dC dI ad cy t0 ((4 : Int32))) h3 hM_X11_130 cal_X11_needs ⟨Nat.zero_le _, Nat.zero_le _⟩ ⟨rfl, rfl⟩ ⟨Nat.le_of_ble_eq_true rfl, Nat.le_of_ble_eq_true rfl⟩ rfl rfl (Nat.le_of_ble_eq_true rfl) dX11_readLine_102 ?_
  refine g_aload_n C dX11_readLine_105 rfl 0 rfl ?_
  refine g_dup C dX11_readLine_106 rfl ?_
  refine g_get C (a_98 ad cy _) rfl hin_X11 15 (by decide) hF_X11_72 rfl rfl dX11_readLine_107 ?_
  refine g_iconst (v := 1) C dX11_readLine_110 (by decide) ?_
  refine g_iload_n C dX11_readLine_111 rfl 1 rfl ?_
  refine g_ishl C dX11_readLine_112 ?_
  refine g_ior C dX11_readLine_113 ?_
  obtain ⟨v4, ev4, hf⟩ := ol_e hf
  refine g_nm ev4 ?_
  obtain ⟨σ5, eσ5, hf⟩ := ol_e hf
  refine g_put (ty := .int) C (a_98 ad cy _) rfl hin_X11 tyX11 tyX11_ok nmX11 15 (by decide) hF_X11_72 rfl rfl (by decide +kernel) rfl rfl (Nat.le_of_ble_eq_true rfl) (p_98_15 ad cy _ _) eσ5 dX11_readLine_114 ?_
  exact g_sub [0, 1] rfl (fX11_readLine_b117_ok C σ5 x1 hf)
def fX11_readLine_b68  (σ : S0) (x1 : Int32) (t0 : Int32) : Option (Int32 × S0) := obp (fX11_needs σ t0 ((5 : Int32))) (fun r1 σ2 => if ¬ (σ2 98 22) = 0 then (fX11_readLine_b117 σ2 x1) else (if (1 : Int32) < x1 then (fX11_readLine_b117 σ2 x1) else (if ¬ (((σ2 98 15) >>> (x1 &&& 31)) &&& 1) = 0 then (fX11_readLine_b101 σ2 x1 0) else (fX11_readLine_b101 σ2 x1 1))))
set_option maxHeartbeats 1000000 in
set_option maxRecDepth 100000 in
theorem fX11_readLine_b68_ok {p : Program} {l : Launch} {e : Env} {s : State} {m : MethodId} {args : Array Value} {below : List Frame} {meth : Method} {c : Code} {dC : Nat → ClassId} {dI : Nat → Nat → Nat} {ad : Nat → Nat} {cy : Nat → ClassId} {sz : Nat} (C : Cx p s m args meth c RX11 cX11_readLine 2 none dC dI ad cy sz) {rr : Int32} {ρ : S0}  (σ : S0) (x1 : Int32) (t0 : Int32)  (hf : fX11_readLine_b68 σ x1 t0 = some (rr, ρ)) : Gw p l e rm_X11_readLine s m args below meth c (MQ below (QcV dC dI ad cy sz ρ) args s 0 0 (AW ad sz)) dC dI ad cy 2 sz 0 0 68 [(0, .ref (ad 98)), (1, .int x1)] [.int t0, .ref (ad 98)] σ := by
  unfold fX11_readLine_b68 at hf
  refine g_iconst (v := 5) C dX11_readLine_68 (by decide) ?_
  obtain ⟨r1, σ2, h3, hf⟩ := obp_e hf
  refine g_callVv (As := [.int t0, .int 5]) (rest := []) C (a_98 ad cy _) rfl (c_X11_needs l dC dI ad cy t0 ((5 : Int32))) h3 hM_X11_130 cal_X11_needs ⟨Nat.zero_le _, Nat.zero_le _⟩ ⟨rfl, rfl⟩ ⟨Nat.le_of_ble_eq_true rfl, Nat.le_of_ble_eq_true rfl⟩ rfl rfl (Nat.le_of_ble_eq_true rfl) dX11_readLine_69 ?_
  refine g_aload_n C dX11_readLine_72 rfl 0 rfl ?_
  refine g_get C (a_98 ad cy _) rfl hin_X11 22 (by decide) hF_X11_96 rfl rfl dX11_readLine_73 ?_
  rcases oi_e hf with ⟨c4, hf⟩ | ⟨c4, hf⟩
  · refine g_if_ne_t (tgt := 117) C dX11_readLine_76 (by decide) c4 ?_
    exact g_sub [0, 1] rfl (fX11_readLine_b117_ok C σ2 x1 hf)
  · refine g_if_ne_f (tgt := 117) C dX11_readLine_76 (by decide) (Decidable.of_not_not c4) ?_
    refine g_iload_n C dX11_readLine_79 rfl 1 rfl ?_
    refine g_iconst (v := 1) C dX11_readLine_80 (by decide) ?_
    rcases oi_e hf with ⟨c5, hf⟩ | ⟨c5, hf⟩
    · refine g_icmp_gt_t (tgt := 117) C dX11_readLine_81 (by decide) c5 ?_
      exact g_sub [0, 1] rfl (fX11_readLine_b117_ok C σ2 x1 hf)
    · refine g_icmp_gt_f (tgt := 117) C dX11_readLine_81 (by decide) c5 ?_
      refine g_aload_n C dX11_readLine_84 rfl 0 rfl ?_
      refine g_aload_n C dX11_readLine_85 rfl 0 rfl ?_
      refine g_get C (a_98 ad cy _) rfl hin_X11 15 (by decide) hF_X11_72 rfl rfl dX11_readLine_86 ?_
      refine g_iload_n C dX11_readLine_89 rfl 1 rfl ?_
      refine g_ishr C dX11_readLine_90 ?_
      refine g_iconst (v := 1) C dX11_readLine_91 (by decide) ?_
      refine g_iand C dX11_readLine_92 ?_
      rcases oi_e hf with ⟨c6, hf⟩ | ⟨c6, hf⟩
      · refine g_if_ne_t (tgt := 100) C dX11_readLine_93 (by decide) c6 ?_
        refine g_iconst (v := 0) C dX11_readLine_100 (by decide) ?_
        exact g_sub [0, 1] rfl (fX11_readLine_b101_ok C σ2 x1 0 hf)
      · refine g_if_ne_f (tgt := 100) C dX11_readLine_93 (by decide) (Decidable.of_not_not c6) ?_
        refine g_iconst (v := 1) C dX11_readLine_96 (by decide) ?_
        refine g_goto (tgt := 101) C dX11_readLine_97 (by decide) ?_
        exact g_sub [0, 1] rfl (fX11_readLine_b101_ok C σ2 x1 1 hf)
def fX11_readLine_b63  (σ : S0) (x1 : Int32) : Option (Int32 × S0) := fX11_readLine_b68 σ x1 1
set_option maxHeartbeats 1000000 in
set_option maxRecDepth 100000 in
theorem fX11_readLine_b63_ok {p : Program} {l : Launch} {e : Env} {s : State} {m : MethodId} {args : Array Value} {below : List Frame} {meth : Method} {c : Code} {dC : Nat → ClassId} {dI : Nat → Nat → Nat} {ad : Nat → Nat} {cy : Nat → ClassId} {sz : Nat} (C : Cx p s m args meth c RX11 cX11_readLine 2 none dC dI ad cy sz) {rr : Int32} {ρ : S0}  (σ : S0) (x1 : Int32)  (hf : fX11_readLine_b63 σ x1 = some (rr, ρ)) : Gw p l e rm_X11_readLine s m args below meth c (MQ below (QcV dC dI ad cy sz ρ) args s 0 0 (AW ad sz)) dC dI ad cy 2 sz 0 0 63 [(0, .ref (ad 98)), (1, .int x1)] [.ref (ad 98)] σ := by
  unfold fX11_readLine_b63 at hf
  refine g_iconst (v := 1) C dX11_readLine_63 (by decide) ?_
  refine g_goto (tgt := 68) C dX11_readLine_64 (by decide) ?_
  exact g_sub [0, 1] rfl (fX11_readLine_b68_ok C σ x1 1 hf)
def fX11_readLine_b67  (σ : S0) (x1 : Int32) : Option (Int32 × S0) := fX11_readLine_b68 σ x1 0
set_option maxHeartbeats 1000000 in
set_option maxRecDepth 100000 in
theorem fX11_readLine_b67_ok {p : Program} {l : Launch} {e : Env} {s : State} {m : MethodId} {args : Array Value} {below : List Frame} {meth : Method} {c : Code} {dC : Nat → ClassId} {dI : Nat → Nat → Nat} {ad : Nat → Nat} {cy : Nat → ClassId} {sz : Nat} (C : Cx p s m args meth c RX11 cX11_readLine 2 none dC dI ad cy sz) {rr : Int32} {ρ : S0}  (σ : S0) (x1 : Int32)  (hf : fX11_readLine_b67 σ x1 = some (rr, ρ)) : Gw p l e rm_X11_readLine s m args below meth c (MQ below (QcV dC dI ad cy sz ρ) args s 0 0 (AW ad sz)) dC dI ad cy 2 sz 0 0 67 [(0, .ref (ad 98)), (1, .int x1)] [.ref (ad 98)] σ := by
  unfold fX11_readLine_b67 at hf
  refine g_iconst (v := 0) C dX11_readLine_67 (by decide) ?_
  exact g_sub [0, 1] rfl (fX11_readLine_b68_ok C σ x1 0 hf)
def fX11_readLine_b49  (σ : S0) (x1 : Int32) : Option (Int32 × S0) := if ¬ x1 = 3 then (fX11_readLine_b63 σ x1) else (if (6 : Int32) ≤ (σ 98 12) then (fX11_readLine_b67 σ x1) else (fX11_readLine_b63 σ x1))
set_option maxHeartbeats 1000000 in
set_option maxRecDepth 100000 in
theorem fX11_readLine_b49_ok {p : Program} {l : Launch} {e : Env} {s : State} {m : MethodId} {args : Array Value} {below : List Frame} {meth : Method} {c : Code} {dC : Nat → ClassId} {dI : Nat → Nat → Nat} {ad : Nat → Nat} {cy : Nat → ClassId} {sz : Nat} (C : Cx p s m args meth c RX11 cX11_readLine 2 none dC dI ad cy sz) {rr : Int32} {ρ : S0}  (σ : S0) (x1 : Int32)  (hf : fX11_readLine_b49 σ x1 = some (rr, ρ)) : Gw p l e rm_X11_readLine s m args below meth c (MQ below (QcV dC dI ad cy sz ρ) args s 0 0 (AW ad sz)) dC dI ad cy 2 sz 0 0 49 [(0, .ref (ad 98)), (1, .int x1)] [.ref (ad 98)] σ := by
  unfold fX11_readLine_b49 at hf
  refine g_iload_n C dX11_readLine_49 rfl 1 rfl ?_
  refine g_iconst (v := 3) C dX11_readLine_50 (by decide) ?_
  rcases oi_e hf with ⟨c1, hf⟩ | ⟨c1, hf⟩
  · refine g_icmp_ne_t (tgt := 63) C dX11_readLine_51 (by decide) c1 ?_
    exact g_sub [0, 1] rfl (fX11_readLine_b63_ok C σ x1 hf)
  · refine g_icmp_ne_f (tgt := 63) C dX11_readLine_51 (by decide) (Decidable.of_not_not c1) ?_
    refine g_aload_n C dX11_readLine_54 rfl 0 rfl ?_
    refine g_get C (a_98 ad cy _) rfl hin_X11 12 (by decide) hF_X11_63 rfl rfl dX11_readLine_55 ?_
    refine g_bipush (v := 6) C dX11_readLine_58 (by decide) ?_
    rcases oi_e hf with ⟨c2, hf⟩ | ⟨c2, hf⟩
    · refine g_icmp_ge_t (tgt := 67) C dX11_readLine_60 (by decide) c2 ?_
      exact g_sub [0, 1] rfl (fX11_readLine_b67_ok C σ x1 hf)
    · refine g_icmp_ge_f (tgt := 67) C dX11_readLine_60 (by decide) c2 ?_
      exact g_sub [0, 1] rfl (fX11_readLine_b63_ok C σ x1 hf)
def fX11_readLine_b30  (σ : S0) (x1 : Int32) (t0 : Int32) : Option (Int32 × S0) := obp (fX11_needs σ t0 ((2 : Int32))) (fun r1 σ2 => if ¬ x1 = 2 then (fX11_readLine_b49 σ2 x1) else (if (12 : Int32) ≤ (σ2 98 11) then (fX11_readLine_b67 σ2 x1) else (fX11_readLine_b49 σ2 x1)))
set_option maxHeartbeats 1000000 in
set_option maxRecDepth 100000 in
theorem fX11_readLine_b30_ok {p : Program} {l : Launch} {e : Env} {s : State} {m : MethodId} {args : Array Value} {below : List Frame} {meth : Method} {c : Code} {dC : Nat → ClassId} {dI : Nat → Nat → Nat} {ad : Nat → Nat} {cy : Nat → ClassId} {sz : Nat} (C : Cx p s m args meth c RX11 cX11_readLine 2 none dC dI ad cy sz) {rr : Int32} {ρ : S0}  (σ : S0) (x1 : Int32) (t0 : Int32)  (hf : fX11_readLine_b30 σ x1 t0 = some (rr, ρ)) : Gw p l e rm_X11_readLine s m args below meth c (MQ below (QcV dC dI ad cy sz ρ) args s 0 0 (AW ad sz)) dC dI ad cy 2 sz 0 0 30 [(0, .ref (ad 98)), (1, .int x1)] [.int t0, .ref (ad 98)] σ := by
  unfold fX11_readLine_b30 at hf
  refine g_iconst (v := 2) C dX11_readLine_30 (by decide) ?_
  obtain ⟨r1, σ2, h3, hf⟩ := obp_e hf
  refine g_callVv (As := [.int t0, .int 2]) (rest := []) C (a_98 ad cy _) rfl (c_X11_needs l dC dI ad cy t0 ((2 : Int32))) h3 hM_X11_130 cal_X11_needs ⟨Nat.zero_le _, Nat.zero_le _⟩ ⟨rfl, rfl⟩ ⟨Nat.le_of_ble_eq_true rfl, Nat.le_of_ble_eq_true rfl⟩ rfl rfl (Nat.le_of_ble_eq_true rfl) dX11_readLine_31 ?_
  refine g_aload_n C dX11_readLine_34 rfl 0 rfl ?_
  refine g_iload_n C dX11_readLine_35 rfl 1 rfl ?_
  refine g_iconst (v := 2) C dX11_readLine_36 (by decide) ?_
  rcases oi_e hf with ⟨c4, hf⟩ | ⟨c4, hf⟩
  · refine g_icmp_ne_t (tgt := 49) C dX11_readLine_37 (by decide) c4 ?_
    exact g_sub [0, 1] rfl (fX11_readLine_b49_ok C σ2 x1 hf)
  · refine g_icmp_ne_f (tgt := 49) C dX11_readLine_37 (by decide) (Decidable.of_not_not c4) ?_
    refine g_aload_n C dX11_readLine_40 rfl 0 rfl ?_
    refine g_get C (a_98 ad cy _) rfl hin_X11 11 (by decide) hF_X11_60 rfl rfl dX11_readLine_41 ?_
    refine g_bipush (v := 12) C dX11_readLine_44 (by decide) ?_
    rcases oi_e hf with ⟨c5, hf⟩ | ⟨c5, hf⟩
    · refine g_icmp_ge_t (tgt := 67) C dX11_readLine_46 (by decide) c5 ?_
      exact g_sub [0, 1] rfl (fX11_readLine_b67_ok C σ2 x1 hf)
    · refine g_icmp_ge_f (tgt := 67) C dX11_readLine_46 (by decide) c5 ?_
      exact g_sub [0, 1] rfl (fX11_readLine_b49_ok C σ2 x1 hf)
def fX11_readLine_b17  (σ : S0) (t0 : Int32) : Option (Int32 × S0) := if t0 = ((-4)) then (fX11_readLine_b30 σ t0 0) else (fX11_readLine_b30 σ t0 1)
set_option maxHeartbeats 1000000 in
set_option maxRecDepth 100000 in
theorem fX11_readLine_b17_ok {p : Program} {l : Launch} {e : Env} {s : State} {m : MethodId} {args : Array Value} {below : List Frame} {meth : Method} {c : Code} {dC : Nat → ClassId} {dI : Nat → Nat → Nat} {ad : Nat → Nat} {cy : Nat → ClassId} {sz : Nat} (C : Cx p s m args meth c RX11 cX11_readLine 2 none dC dI ad cy sz) {rr : Int32} {ρ : S0}  (σ : S0) (t0 : Int32)  (hf : fX11_readLine_b17 σ t0 = some (rr, ρ)) : Gw p l e rm_X11_readLine s m args below meth c (MQ below (QcV dC dI ad cy sz ρ) args s 0 0 (AW ad sz)) dC dI ad cy 2 sz 0 0 17 [(0, .ref (ad 98))] [.int t0] σ := by
  unfold fX11_readLine_b17 at hf
  refine g_istore_n (lv2 := [(0, .ref (ad 98)), (1, .int t0)]) C dX11_readLine_17 rfl (by decide) [1, 0] rfl ?_
  refine g_aload_n C dX11_readLine_18 rfl 0 rfl ?_
  refine g_iload_n C dX11_readLine_19 rfl 1 rfl ?_
  refine g_bipush (v := (-4)) C dX11_readLine_20 (by decide) ?_
  rcases oi_e hf with ⟨c1, hf⟩ | ⟨c1, hf⟩
  · refine g_icmp_eq_t (tgt := 29) C dX11_readLine_22 (by decide) c1 ?_
    refine g_iconst (v := 0) C dX11_readLine_29 (by decide) ?_
    exact g_sub [0, 1] rfl (fX11_readLine_b30_ok C σ t0 0 hf)
  · refine g_icmp_eq_f (tgt := 29) C dX11_readLine_22 (by decide) c1 ?_
    refine g_iconst (v := 1) C dX11_readLine_25 (by decide) ?_
    refine g_goto (tgt := 30) C dX11_readLine_26 (by decide) ?_
    exact g_sub [0, 1] rfl (fX11_readLine_b30_ok C σ t0 1 hf)
def fX11_readLine (σ : S0)  : Option (Int32 × S0) := if ¬ (σ 98 20) = 1 then (fX11_readLine_b17 σ ((-4))) else (obp (fX11_nameNow σ) (fun r2 σ3 => fX11_readLine_b17 σ3 r2))
set_option maxHeartbeats 1000000 in
set_option maxRecDepth 100000 in
theorem fX11_readLine_ok {p : Program} {l : Launch} {e : Env} {s : State} {m : MethodId} {args : Array Value} {below : List Frame} {meth : Method} {c : Code} {dC : Nat → ClassId} {dI : Nat → Nat → Nat} {ad : Nat → Nat} {cy : Nat → ClassId} {sz : Nat} (C : Cx p s m args meth c RX11 cX11_readLine 2 none dC dI ad cy sz) {rr : Int32} {ρ : S0} (σ : S0)   (hf : fX11_readLine σ = some (rr, ρ)) : Gw p l e rm_X11_readLine s m args below meth c (MQ below (QcV dC dI ad cy sz ρ) args s 0 0 (AW ad sz)) dC dI ad cy 2 sz 0 0 0 [(0, .ref (ad 98))] [] σ := by
  unfold fX11_readLine at hf
  refine g_aload_n C dX11_readLine_0 rfl 0 rfl ?_
  refine g_get C (a_98 ad cy _) rfl hin_X11 20 (by decide) hF_X11_116 rfl rfl dX11_readLine_1 ?_
  refine g_iconst (v := 1) C dX11_readLine_4 (by decide) ?_
  rcases oi_e hf with ⟨c1, hf⟩ | ⟨c1, hf⟩
  · refine g_icmp_ne_t (tgt := 15) C dX11_readLine_5 (by decide) c1 ?_
    refine g_bipush (v := (-4)) C dX11_readLine_15 (by decide) ?_
    exact g_sub [0] rfl (fX11_readLine_b17_ok C σ ((-4)) hf)
  · refine g_icmp_ne_f (tgt := 15) C dX11_readLine_5 (by decide) (Decidable.of_not_not c1) ?_
    refine g_aload_n C dX11_readLine_8 rfl 0 rfl ?_
    obtain ⟨r2, σ3, h4, hf⟩ := obp_e hf
    refine g_callVi (As := []) (rest := []) C (a_98 ad cy _) rfl (c_X11_nameNow l dC dI ad cy ) h4 hM_X11_151 cal_X11_nameNow ⟨Nat.zero_le _, Nat.zero_le _⟩ ⟨rfl, rfl⟩ ⟨Nat.le_of_ble_eq_true rfl, Nat.le_of_ble_eq_true rfl⟩ rfl rfl (Nat.le_of_ble_eq_true rfl) dX11_readLine_9 ?_
    refine g_goto (tgt := 17) C dX11_readLine_12 (by decide) ?_
    exact g_sub [0] rfl (fX11_readLine_b17_ok C σ3 r2 hf)
theorem c_X11_readLine (l : Launch) (dC : Nat → ClassId) (dI : Nat → Nat → Nat) (ad : Nat → Nat) (cy : Nat → ClassId)  : ConV l yX11_readLine cX11_readLine 2 none rm_X11_readLine dC dI ad cy [.ref (ad 98)] (fun σ => fX11_readLine σ) := con_v (own := RX11) (by decide) rfl (Nat.le_of_ble_eq_true rfl) (fun _ _ _ _ _ _ _ _ σ _ _ C hf => fX11_readLine_ok C σ  hf)
theorem cal_X11_readLine : CalV yX11_readLine RX11 cX11_readLine 2 none 0 := ⟨hI_X11_readLine, hS_X11_readLine, hIni_X11, hC_X11_readLine, by decide +kernel⟩
abbrev rm_X11_text : Room := { frames := 5, cells := 0, slots := 0, locals := 115 }
def fX11_text_b84  (σ : S0) (x1 : Int32) : Option (Int32 × S0) := ol (su σ 98 17 0) (fun σ1 => if (σ1 98 22) ≤ 0 then (obp (fX11_keepDraft σ1) (fun r3 σ4 => some (x1, σ4))) else (some (((-10)) - (σ1 98 23), σ1)))
set_option maxHeartbeats 1000000 in
set_option maxRecDepth 100000 in
theorem fX11_text_b84_ok {p : Program} {l : Launch} {e : Env} {s : State} {m : MethodId} {args : Array Value} {below : List Frame} {meth : Method} {c : Code} {dC : Nat → ClassId} {dI : Nat → Nat → Nat} {ad : Nat → Nat} {cy : Nat → ClassId} {sz : Nat} (C : Cx p s m args meth c RX11 cX11_text 2 (some .int) dC dI ad cy sz) {rr : Int32} {ρ : S0}  (σ : S0) (x1 : Int32)  (hf : fX11_text_b84 σ x1 = some (rr, ρ)) : Gw p l e rm_X11_text s m args below meth c (MQ below (QcI dC dI ad cy sz rr ρ) args s 0 0 (AW ad sz)) dC dI ad cy 2 sz 0 0 84 [(0, .ref (ad 98)), (1, .int x1)] [] σ := by
  unfold fX11_text_b84 at hf
  refine g_aload_n C dX11_text_84 rfl 0 rfl ?_
  refine g_iconst (v := 0) C dX11_text_85 (by decide) ?_
  obtain ⟨σ1, eσ1, hf⟩ := ol_e hf
  refine g_put (ty := .int) C (a_98 ad cy _) rfl hin_X11 tyX11 tyX11_ok nmX11 17 (by decide) hF_X11_87 rfl rfl (by decide +kernel) rfl rfl (Nat.le_of_ble_eq_true rfl) (p_98_17 ad cy _ _) eσ1 dX11_text_86 ?_
  refine g_aload_n C dX11_text_89 rfl 0 rfl ?_
  refine g_get C (a_98 ad cy _) rfl hin_X11 22 (by decide) hF_X11_96 rfl rfl dX11_text_90 ?_
  rcases oi_e hf with ⟨c2, hf⟩ | ⟨c2, hf⟩
  · refine g_if_le_t (tgt := 104) C dX11_text_93 (by decide) c2 ?_
    refine g_aload_n C dX11_text_104 rfl 0 rfl ?_
    obtain ⟨r3, σ4, h5, hf⟩ := obp_e hf
    refine g_callVv (As := []) (rest := []) C (a_98 ad cy _) rfl (c_X11_keepDraft l dC dI ad cy ) h5 hM_X11_50 cal_X11_keepDraft ⟨Nat.zero_le _, Nat.zero_le _⟩ ⟨rfl, rfl⟩ ⟨Nat.le_of_ble_eq_true rfl, Nat.le_of_ble_eq_true rfl⟩ rfl rfl (Nat.le_of_ble_eq_true rfl) dX11_text_105 ?_
    refine g_iload_n C dX11_text_108 rfl 1 rfl ?_
    obtain ⟨rfl, rfl⟩ := os_e hf
    exact g_iret C rfl dX11_text_109
  · refine g_if_le_f (tgt := 104) C dX11_text_93 (by decide) c2 ?_
    refine g_bipush (v := (-10)) C dX11_text_96 (by decide) ?_
    refine g_aload_n C dX11_text_98 rfl 0 rfl ?_
    refine g_get C (a_98 ad cy _) rfl hin_X11 23 (by decide) hF_X11_102 rfl rfl dX11_text_99 ?_
    refine g_isub C dX11_text_102 ?_
    obtain ⟨rfl, rfl⟩ := os_e hf
    exact g_iret C rfl dX11_text_103
def fX11_text_b79  (σ : S0) (x1 : Int32) (t0 : Int32) : Option (Int32 × S0) := obp (fX11_needs σ t0 ((6 : Int32))) (fun r1 σ2 => fX11_text_b84 σ2 x1)
set_option maxHeartbeats 1000000 in
set_option maxRecDepth 100000 in
theorem fX11_text_b79_ok {p : Program} {l : Launch} {e : Env} {s : State} {m : MethodId} {args : Array Value} {below : List Frame} {meth : Method} {c : Code} {dC : Nat → ClassId} {dI : Nat → Nat → Nat} {ad : Nat → Nat} {cy : Nat → ClassId} {sz : Nat} (C : Cx p s m args meth c RX11 cX11_text 2 (some .int) dC dI ad cy sz) {rr : Int32} {ρ : S0}  (σ : S0) (x1 : Int32) (t0 : Int32)  (hf : fX11_text_b79 σ x1 t0 = some (rr, ρ)) : Gw p l e rm_X11_text s m args below meth c (MQ below (QcI dC dI ad cy sz rr ρ) args s 0 0 (AW ad sz)) dC dI ad cy 2 sz 0 0 79 [(0, .ref (ad 98)), (1, .int x1)] [.int t0, .ref (ad 98)] σ := by
  unfold fX11_text_b79 at hf
  refine g_bipush (v := 6) C dX11_text_79 (by decide) ?_
  obtain ⟨r1, σ2, h3, hf⟩ := obp_e hf
  refine g_callVv (As := [.int t0, .int 6]) (rest := []) C (a_98 ad cy _) rfl (c_X11_needs l dC dI ad cy t0 ((6 : Int32))) h3 hM_X11_130 cal_X11_needs ⟨Nat.zero_le _, Nat.zero_le _⟩ ⟨rfl, rfl⟩ ⟨Nat.le_of_ble_eq_true rfl, Nat.le_of_ble_eq_true rfl⟩ rfl rfl (Nat.le_of_ble_eq_true rfl) dX11_text_81 ?_
  exact g_sub [0, 1] rfl (fX11_text_b84_ok C σ2 x1 hf)
def fX11_text_b78  (σ : S0) (x1 : Int32) : Option (Int32 × S0) := fX11_text_b79 σ x1 0
set_option maxHeartbeats 1000000 in
set_option maxRecDepth 100000 in
theorem fX11_text_b78_ok {p : Program} {l : Launch} {e : Env} {s : State} {m : MethodId} {args : Array Value} {below : List Frame} {meth : Method} {c : Code} {dC : Nat → ClassId} {dI : Nat → Nat → Nat} {ad : Nat → Nat} {cy : Nat → ClassId} {sz : Nat} (C : Cx p s m args meth c RX11 cX11_text 2 (some .int) dC dI ad cy sz) {rr : Int32} {ρ : S0}  (σ : S0) (x1 : Int32)  (hf : fX11_text_b78 σ x1 = some (rr, ρ)) : Gw p l e rm_X11_text s m args below meth c (MQ below (QcI dC dI ad cy sz rr ρ) args s 0 0 (AW ad sz)) dC dI ad cy 2 sz 0 0 78 [(0, .ref (ad 98)), (1, .int x1)] [.ref (ad 98)] σ := by
  unfold fX11_text_b78 at hf
  refine g_iconst (v := 0) C dX11_text_78 (by decide) ?_
  exact g_sub [0, 1] rfl (fX11_text_b79_ok C σ x1 0 hf)
def fX11_text_b44  (σ : S0) (x1 : Int32) : Option (Int32 × S0) := if ¬ (σ 98 22) = 0 then (fX11_text_b84 σ x1) else (if (σ 98 9) ≤ (σ 98 13) then (fX11_text_b78 σ x1) else (if (σ 98 11) ≤ (σ 98 14) then (fX11_text_b78 σ x1) else (fX11_text_b79 σ x1 1)))
set_option maxHeartbeats 1000000 in
set_option maxRecDepth 100000 in
theorem fX11_text_b44_ok {p : Program} {l : Launch} {e : Env} {s : State} {m : MethodId} {args : Array Value} {below : List Frame} {meth : Method} {c : Code} {dC : Nat → ClassId} {dI : Nat → Nat → Nat} {ad : Nat → Nat} {cy : Nat → ClassId} {sz : Nat} (C : Cx p s m args meth c RX11 cX11_text 2 (some .int) dC dI ad cy sz) {rr : Int32} {ρ : S0}  (σ : S0) (x1 : Int32)  (hf : fX11_text_b44 σ x1 = some (rr, ρ)) : Gw p l e rm_X11_text s m args below meth c (MQ below (QcI dC dI ad cy sz rr ρ) args s 0 0 (AW ad sz)) dC dI ad cy 2 sz 0 0 44 [(0, .ref (ad 98)), (1, .int x1)] [] σ := by
  unfold fX11_text_b44 at hf
  refine g_aload_n C dX11_text_44 rfl 0 rfl ?_
  refine g_get C (a_98 ad cy _) rfl hin_X11 22 (by decide) hF_X11_96 rfl rfl dX11_text_45 ?_
  rcases oi_e hf with ⟨c1, hf⟩ | ⟨c1, hf⟩
  · refine g_if_ne_t (tgt := 84) C dX11_text_48 (by decide) c1 ?_
    exact g_sub [0, 1] rfl (fX11_text_b84_ok C σ x1 hf)
  · refine g_if_ne_f (tgt := 84) C dX11_text_48 (by decide) (Decidable.of_not_not c1) ?_
    refine g_aload_n C dX11_text_51 rfl 0 rfl ?_
    refine g_aload_n C dX11_text_52 rfl 0 rfl ?_
    refine g_get C (a_98 ad cy _) rfl hin_X11 13 (by decide) hF_X11_66 rfl rfl dX11_text_53 ?_
    refine g_aload_n C dX11_text_56 rfl 0 rfl ?_
    refine g_get C (a_98 ad cy _) rfl hin_X11 9 (by decide) hF_X11_53 rfl rfl dX11_text_57 ?_
    rcases oi_e hf with ⟨c2, hf⟩ | ⟨c2, hf⟩
    · refine g_icmp_ge_t (tgt := 78) C dX11_text_60 (by decide) c2 ?_
      exact g_sub [0, 1] rfl (fX11_text_b78_ok C σ x1 hf)
    · refine g_icmp_ge_f (tgt := 78) C dX11_text_60 (by decide) c2 ?_
      refine g_aload_n C dX11_text_63 rfl 0 rfl ?_
      refine g_get C (a_98 ad cy _) rfl hin_X11 14 (by decide) hF_X11_69 rfl rfl dX11_text_64 ?_
      refine g_aload_n C dX11_text_67 rfl 0 rfl ?_
      refine g_get C (a_98 ad cy _) rfl hin_X11 11 (by decide) hF_X11_60 rfl rfl dX11_text_68 ?_
      rcases oi_e hf with ⟨c3, hf⟩ | ⟨c3, hf⟩
      · refine g_icmp_ge_t (tgt := 78) C dX11_text_71 (by decide) c3 ?_
        exact g_sub [0, 1] rfl (fX11_text_b78_ok C σ x1 hf)
      · refine g_icmp_ge_f (tgt := 78) C dX11_text_71 (by decide) c3 ?_
        refine g_iconst (v := 1) C dX11_text_74 (by decide) ?_
        refine g_goto (tgt := 79) C dX11_text_75 (by decide) ?_
        exact g_sub [0, 1] rfl (fX11_text_b79_ok C σ x1 1 hf)
def fX11_text_b20 (sf_20 : S0 → Int32 → Option (Int32 × S0)) (σ : S0) (x1 : Int32) : Option (Int32 × S0) := if ¬ (σ 98 22) = 0 then (fX11_text_b44 σ x1) else (if (σ 98 20) = 0 then (fX11_text_b44 σ x1) else (obp (fX11_readLine σ) (fun r3 σ4 => ol (x1 + 1) (fun v6 => sf_20 σ4 v6))))
set_option maxHeartbeats 1000000 in
set_option maxRecDepth 100000 in
theorem fX11_text_b20_ok {p : Program} {l : Launch} {e : Env} {s : State} {m : MethodId} {args : Array Value} {below : List Frame} {meth : Method} {c : Code} {dC : Nat → ClassId} {dI : Nat → Nat → Nat} {ad : Nat → Nat} {cy : Nat → ClassId} {sz : Nat} (C : Cx p s m args meth c RX11 cX11_text 2 (some .int) dC dI ad cy sz) {rr : Int32} {ρ : S0} (sf_20 : S0 → Int32 → Option (Int32 × S0)) (hs_20 : ∀ (σ : S0) (x1 : Int32) , sf_20 σ x1 = some (rr, ρ) → Gw p l e rm_X11_text s m args below meth c (MQ below (QcI dC dI ad cy sz rr ρ) args s 0 0 (AW ad sz)) dC dI ad cy 2 sz 0 0 20 [(0, .ref (ad 98)), (1, .int x1)] [] σ) (σ : S0) (x1 : Int32)  (hf : fX11_text_b20 sf_20 σ x1 = some (rr, ρ)) : Gw p l e rm_X11_text s m args below meth c (MQ below (QcI dC dI ad cy sz rr ρ) args s 0 0 (AW ad sz)) dC dI ad cy 2 sz 0 0 20 [(0, .ref (ad 98)), (1, .int x1)] [] σ := by
  unfold fX11_text_b20 at hf
  refine g_aload_n C dX11_text_20 rfl 0 rfl ?_
  refine g_get C (a_98 ad cy _) rfl hin_X11 22 (by decide) hF_X11_96 rfl rfl dX11_text_21 ?_
  rcases oi_e hf with ⟨c1, hf⟩ | ⟨c1, hf⟩
  · refine g_if_ne_t (tgt := 44) C dX11_text_24 (by decide) c1 ?_
    exact g_sub [0, 1] rfl (fX11_text_b44_ok C σ x1 hf)
  · refine g_if_ne_f (tgt := 44) C dX11_text_24 (by decide) (Decidable.of_not_not c1) ?_
    refine g_aload_n C dX11_text_27 rfl 0 rfl ?_
    refine g_get C (a_98 ad cy _) rfl hin_X11 20 (by decide) hF_X11_116 rfl rfl dX11_text_28 ?_
    rcases oi_e hf with ⟨c2, hf⟩ | ⟨c2, hf⟩
    · refine g_if_eq_t (tgt := 44) C dX11_text_31 (by decide) c2 ?_
      exact g_sub [0, 1] rfl (fX11_text_b44_ok C σ x1 hf)
    · refine g_if_eq_f (tgt := 44) C dX11_text_31 (by decide) c2 ?_
      refine g_aload_n C dX11_text_34 rfl 0 rfl ?_
      obtain ⟨r3, σ4, h5, hf⟩ := obp_e hf
      refine g_callVv (As := []) (rest := []) C (a_98 ad cy _) rfl (c_X11_readLine l dC dI ad cy ) h5 hM_X11_163 cal_X11_readLine ⟨Nat.zero_le _, Nat.zero_le _⟩ ⟨rfl, rfl⟩ ⟨Nat.le_of_ble_eq_true rfl, Nat.le_of_ble_eq_true rfl⟩ rfl rfl (Nat.le_of_ble_eq_true rfl) dX11_text_35 ?_
      obtain ⟨v6, ev6, hf⟩ := ol_e hf
      refine g_iinc (j := 1) (w := 1) (lv2 := [(0, .ref (ad 98)), (1, .int v6)]) C dX11_text_38 rfl (by decide) ev6 (by decide) [1, 0] rfl ?_
      refine g_goto (tgt := 20) C dX11_text_41 (by decide) ?_
      exact g_sub [0, 1] rfl (hs_20 σ4 v6 hf)
def fX11_text_h20  : Nat → S0 → Int32 → Option (Int32 × S0)
  | 0 => fun _ _ => none
  | n + 1 => fun σ x1 => fX11_text_b20  (fX11_text_h20  n) σ x1
set_option maxHeartbeats 1000000 in
set_option maxRecDepth 100000 in
theorem fX11_text_h20_ok {p : Program} {l : Launch} {e : Env} {s : State} {m : MethodId} {args : Array Value} {below : List Frame} {meth : Method} {c : Code} {dC : Nat → ClassId} {dI : Nat → Nat → Nat} {ad : Nat → Nat} {cy : Nat → ClassId} {sz : Nat} (C : Cx p s m args meth c RX11 cX11_text 2 (some .int) dC dI ad cy sz) {rr : Int32} {ρ : S0}  : ∀ (n : Nat) (σ : S0) (x1 : Int32)  (_hf : fX11_text_h20  n σ x1 = some (rr, ρ)), Gw p l e rm_X11_text s m args below meth c (MQ below (QcI dC dI ad cy sz rr ρ) args s 0 0 (AW ad sz)) dC dI ad cy 2 sz 0 0 20 [(0, .ref (ad 98)), (1, .int x1)] [] σ
  | 0, _, _, hf => by cases hf
  | n + 1, σ, x1, hf => fX11_text_b20_ok C  (fX11_text_h20  n) (fX11_text_h20_ok C  n) σ x1 hf
def fX11_text (σ : S0)  : Option (Int32 × S0) := ol (su σ 98 22 0) (fun σ1 => ol (su σ1 98 18 0) (fun σ2 => obp (fX11_firstDraft σ2) (fun r3 σ4 => obp (fX11_next σ4) (fun r6 σ7 => fX11_text_h20 400 σ7 0))))
set_option maxHeartbeats 1000000 in
set_option maxRecDepth 100000 in
theorem fX11_text_ok {p : Program} {l : Launch} {e : Env} {s : State} {m : MethodId} {args : Array Value} {below : List Frame} {meth : Method} {c : Code} {dC : Nat → ClassId} {dI : Nat → Nat → Nat} {ad : Nat → Nat} {cy : Nat → ClassId} {sz : Nat} (C : Cx p s m args meth c RX11 cX11_text 2 (some .int) dC dI ad cy sz) {rr : Int32} {ρ : S0} (σ : S0)   (hf : fX11_text σ = some (rr, ρ)) : Gw p l e rm_X11_text s m args below meth c (MQ below (QcI dC dI ad cy sz rr ρ) args s 0 0 (AW ad sz)) dC dI ad cy 2 sz 0 0 0 [(0, .ref (ad 98))] [] σ := by
  unfold fX11_text at hf
  refine g_iconst (v := 0) C dX11_text_0 (by decide) ?_
  refine g_istore_n (lv2 := [(0, .ref (ad 98)), (1, .int 0)]) C dX11_text_1 rfl (by decide) [1, 0] rfl ?_
  refine g_aload_n C dX11_text_2 rfl 0 rfl ?_
  refine g_iconst (v := 0) C dX11_text_3 (by decide) ?_
  obtain ⟨σ1, eσ1, hf⟩ := ol_e hf
  refine g_put (ty := .int) C (a_98 ad cy _) rfl hin_X11 tyX11 tyX11_ok nmX11 22 (by decide) hF_X11_96 rfl rfl (by decide +kernel) rfl rfl (Nat.le_of_ble_eq_true rfl) (p_98_22 ad cy _ _) eσ1 dX11_text_4 ?_
  refine g_aload_n C dX11_text_7 rfl 0 rfl ?_
  refine g_iconst (v := 0) C dX11_text_8 (by decide) ?_
  obtain ⟨σ2, eσ2, hf⟩ := ol_e hf
  refine g_put (ty := .int) C (a_98 ad cy _) rfl hin_X11 tyX11 tyX11_ok nmX11 18 (by decide) hF_X11_105 rfl rfl (by decide +kernel) rfl rfl (Nat.le_of_ble_eq_true rfl) (p_98_18 ad cy _ _) eσ2 dX11_text_9 ?_
  refine g_aload_n C dX11_text_12 rfl 0 rfl ?_
  obtain ⟨r3, σ4, h5, hf⟩ := obp_e hf
  refine g_callVv (As := []) (rest := []) C (a_98 ad cy _) rfl (c_X11_firstDraft l dC dI ad cy ) h5 hM_X11_47 cal_X11_firstDraft ⟨Nat.zero_le _, Nat.zero_le _⟩ ⟨rfl, rfl⟩ ⟨Nat.le_of_ble_eq_true rfl, Nat.le_of_ble_eq_true rfl⟩ rfl rfl (Nat.le_of_ble_eq_true rfl) dX11_text_13 ?_
  refine g_aload_n C dX11_text_16 rfl 0 rfl ?_
  obtain ⟨r6, σ7, h8, hf⟩ := obp_e hf
  refine g_callVv (As := []) (rest := []) C (a_98 ad cy _) rfl (c_X11_next l dC dI ad cy ) h8 hM_X11_138 cal_X11_next ⟨Nat.zero_le _, Nat.zero_le _⟩ ⟨rfl, rfl⟩ ⟨Nat.le_of_ble_eq_true rfl, Nat.le_of_ble_eq_true rfl⟩ rfl rfl (Nat.le_of_ble_eq_true rfl) dX11_text_17 ?_
  exact g_sub [0, 1] rfl (fX11_text_h20_ok C 400 σ7 0 hf)
theorem c_X11_text (l : Launch) (dC : Nat → ClassId) (dI : Nat → Nat → Nat) (ad : Nat → Nat) (cy : Nat → ClassId)  : ConI l yX11_text cX11_text 2 (some .int) rm_X11_text dC dI ad cy [.ref (ad 98)] (fun σ => fX11_text σ) := con_i (own := RX11) (by decide) rfl (Nat.le_of_ble_eq_true rfl) (fun _ _ _ _ _ _ _ _ σ _ _ C hf => fX11_text_ok C σ  hf)
theorem cal_X11_text : CalV yX11_text RX11 cX11_text 2 (some .int) 0 := ⟨hI_X11_text, hS_X11_text, hIni_X11, hC_X11_text, by decide +kernel⟩
abbrev rm_X11_fault : Room := { frames := 0, cells := 0, slots := 0, locals := 0 }
def fX11_fault (σ : S0)  : Option (Int32 × S0) := some (σ 98 22, σ)
set_option maxHeartbeats 1000000 in
set_option maxRecDepth 100000 in
theorem fX11_fault_ok {p : Program} {l : Launch} {e : Env} {s : State} {m : MethodId} {args : Array Value} {below : List Frame} {meth : Method} {c : Code} {dC : Nat → ClassId} {dI : Nat → Nat → Nat} {ad : Nat → Nat} {cy : Nat → ClassId} {sz : Nat} (C : Cx p s m args meth c RX11 cX11_fault 1 (some .int) dC dI ad cy sz) {rr : Int32} {ρ : S0} (σ : S0)   (hf : fX11_fault σ = some (rr, ρ)) : Gw p l e rm_X11_fault s m args below meth c (MQ below (QcI dC dI ad cy sz rr ρ) args s 0 0 (AW ad sz)) dC dI ad cy 1 sz 0 0 0 [(0, .ref (ad 98))] [] σ := by
  unfold fX11_fault at hf
  refine g_aload_n C dX11_fault_0 rfl 0 rfl ?_
  refine g_get C (a_98 ad cy _) rfl hin_X11 22 (by decide) hF_X11_96 rfl rfl dX11_fault_1 ?_
  obtain ⟨rfl, rfl⟩ := os_e hf
  exact g_iret C rfl dX11_fault_4
theorem c_X11_fault (l : Launch) (dC : Nat → ClassId) (dI : Nat → Nat → Nat) (ad : Nat → Nat) (cy : Nat → ClassId)  : ConI l yX11_fault cX11_fault 1 (some .int) rm_X11_fault dC dI ad cy [.ref (ad 98)] (fun σ => fX11_fault σ) := con_i (own := RX11) (by decide) rfl (Nat.le_of_ble_eq_true rfl) (fun _ _ _ _ _ _ _ _ σ _ _ C hf => fX11_fault_ok C σ  hf)
theorem cal_X11_fault : CalV yX11_fault RX11 cX11_fault 1 (some .int) 0 := ⟨hI_X11_fault, hS_X11_fault, hIni_X11, hC_X11_fault, by decide +kernel⟩
abbrev rm_X11_rule : Room := { frames := 0, cells := 0, slots := 0, locals := 0 }
def fX11_rule (σ : S0) (x1 : Int32) : Option (Int32 × S0) := if ¬ x1 = 0 then (if ¬ x1 = 1 then (some ((-1), σ)) else (some (σ 98 3, σ))) else (some (σ 98 2, σ))
set_option maxHeartbeats 1000000 in
set_option maxRecDepth 100000 in
theorem fX11_rule_ok {p : Program} {l : Launch} {e : Env} {s : State} {m : MethodId} {args : Array Value} {below : List Frame} {meth : Method} {c : Code} {dC : Nat → ClassId} {dI : Nat → Nat → Nat} {ad : Nat → Nat} {cy : Nat → ClassId} {sz : Nat} (C : Cx p s m args meth c RX11 cX11_rule 2 (some .int) dC dI ad cy sz) {rr : Int32} {ρ : S0} (σ : S0) (x1 : Int32)  (hf : fX11_rule σ x1 = some (rr, ρ)) : Gw p l e rm_X11_rule s m args below meth c (MQ below (QcI dC dI ad cy sz rr ρ) args s 0 0 (AW ad sz)) dC dI ad cy 2 sz 0 0 0 [(0, .ref (ad 98)), (1, .int x1)] [] σ := by
  unfold fX11_rule at hf
  refine g_iload_n C dX11_rule_0 rfl 1 rfl ?_
  rcases oi_e hf with ⟨c1, hf⟩ | ⟨c1, hf⟩
  · refine g_if_ne_t (tgt := 11) C dX11_rule_1 (by decide) c1 ?_
    refine g_iload_n C dX11_rule_11 rfl 1 rfl ?_
    refine g_iconst (v := 1) C dX11_rule_12 (by decide) ?_
    rcases oi_e hf with ⟨c2, hf⟩ | ⟨c2, hf⟩
    · refine g_icmp_ne_t (tgt := 23) C dX11_rule_13 (by decide) c2 ?_
      refine g_iconst (v := (-1)) C dX11_rule_23 (by decide) ?_
      obtain ⟨rfl, rfl⟩ := os_e hf
      exact g_iret C rfl dX11_rule_24
    · refine g_icmp_ne_f (tgt := 23) C dX11_rule_13 (by decide) (Decidable.of_not_not c2) ?_
      refine g_aload_n C dX11_rule_16 rfl 0 rfl ?_
      refine g_get C (a_98 ad cy _) rfl hin_X11 3 (by decide) hF_X11_78 rfl rfl dX11_rule_17 ?_
      refine g_goto (tgt := 24) C dX11_rule_20 (by decide) ?_
      obtain ⟨rfl, rfl⟩ := os_e hf
      exact g_iret C rfl dX11_rule_24
  · refine g_if_ne_f (tgt := 11) C dX11_rule_1 (by decide) (Decidable.of_not_not c1) ?_
    refine g_aload_n C dX11_rule_4 rfl 0 rfl ?_
    refine g_get C (a_98 ad cy _) rfl hin_X11 2 (by decide) hF_X11_75 rfl rfl dX11_rule_5 ?_
    refine g_goto (tgt := 24) C dX11_rule_8 (by decide) ?_
    obtain ⟨rfl, rfl⟩ := os_e hf
    exact g_iret C rfl dX11_rule_24
theorem c_X11_rule (l : Launch) (dC : Nat → ClassId) (dI : Nat → Nat → Nat) (ad : Nat → Nat) (cy : Nat → ClassId) (x1 : Int32) : ConI l yX11_rule cX11_rule 2 (some .int) rm_X11_rule dC dI ad cy [.ref (ad 98), .int x1] (fun σ => fX11_rule σ x1) := con_i (own := RX11) (by decide) rfl (Nat.le_of_ble_eq_true rfl) (fun _ _ _ _ _ _ _ _ σ _ _ C hf => fX11_rule_ok C σ x1 hf)
theorem cal_X11_rule : CalV yX11_rule RX11 cX11_rule 2 (some .int) 1 := ⟨hI_X11_rule, hS_X11_rule, hIni_X11, hC_X11_rule, by decide +kernel⟩
abbrev rm_X11_isHouse : Room := { frames := 1, cells := 0, slots := 0, locals := 25 }
def fX11_isHouse (σ : S0) (x1 : Int32) : Option (Int32 × S0) := obp (fX11_in σ x1.toInt64 ((0 : Int64)) (((σ 98 2) - 1).toInt64)) (fun r1 σ2 => og (r1 = 0 ∨ r1 = 1) (some (r1, σ2)))
set_option maxHeartbeats 1000000 in
set_option maxRecDepth 100000 in
theorem fX11_isHouse_ok {p : Program} {l : Launch} {e : Env} {s : State} {m : MethodId} {args : Array Value} {below : List Frame} {meth : Method} {c : Code} {dC : Nat → ClassId} {dI : Nat → Nat → Nat} {ad : Nat → Nat} {cy : Nat → ClassId} {sz : Nat} (C : Cx p s m args meth c RX11 cX11_isHouse 2 (some .boolean) dC dI ad cy sz) {rr : Int32} {ρ : S0} (σ : S0) (x1 : Int32)  (hf : fX11_isHouse σ x1 = some (rr, ρ)) : Gw p l e rm_X11_isHouse s m args below meth c (MQ below (QcI dC dI ad cy sz rr ρ) args s 0 0 (AW ad sz)) dC dI ad cy 2 sz 0 0 0 [(0, .ref (ad 98)), (1, .int x1)] [] σ := by
  unfold fX11_isHouse at hf
  refine g_iload_n C dX11_isHouse_0 rfl 1 rfl ?_
  refine g_i2l C dX11_isHouse_1 ?_
  refine g_lconst (v := 0) C dX11_isHouse_2 (by decide) ?_
  refine g_aload_n C dX11_isHouse_3 rfl 0 rfl ?_
  refine g_get C (a_98 ad cy _) rfl hin_X11 2 (by decide) hF_X11_75 rfl rfl dX11_isHouse_4 ?_
  refine g_iconst (v := 1) C dX11_isHouse_7 (by decide) ?_
  refine g_isub C dX11_isHouse_8 ?_
  refine g_i2l C dX11_isHouse_9 ?_
  obtain ⟨r1, σ2, h3, hf⟩ := obp_e hf
  refine g_callSi (As := [.long x1.toInt64, .long 0, .long (((σ 98 2) - 1).toInt64)]) (rest := []) C (c_X11_in l dC dI ad cy x1.toInt64 ((0 : Int64)) (((σ 98 2) - 1).toInt64)) h3 hM_X11_92 cal_X11_in ⟨Nat.zero_le _, Nat.zero_le _⟩ ⟨rfl, rfl⟩ ⟨Nat.le_of_ble_eq_true rfl, Nat.le_of_ble_eq_true rfl⟩ rfl rfl (Nat.le_of_ble_eq_true rfl) dX11_isHouse_10 ?_
  obtain ⟨h4, hf⟩ := og_e hf
  obtain ⟨rfl, rfl⟩ := os_e hf
  exact g_zret C rfl (zb_ok h4) dX11_isHouse_13
theorem c_X11_isHouse (l : Launch) (dC : Nat → ClassId) (dI : Nat → Nat → Nat) (ad : Nat → Nat) (cy : Nat → ClassId) (x1 : Int32) : ConI l yX11_isHouse cX11_isHouse 2 (some .boolean) rm_X11_isHouse dC dI ad cy [.ref (ad 98), .int x1] (fun σ => fX11_isHouse σ x1) := con_i (own := RX11) (by decide) rfl (Nat.le_of_ble_eq_true rfl) (fun _ _ _ _ _ _ _ _ σ _ _ C hf => fX11_isHouse_ok C σ x1 hf)
theorem cal_X11_isHouse : CalV yX11_isHouse RX11 cX11_isHouse 2 (some .boolean) 1 := ⟨hI_X11_isHouse, hS_X11_isHouse, hIni_X11, hC_X11_isHouse, by decide +kernel⟩
abbrev rm_X11_isBell : Room := { frames := 1, cells := 0, slots := 0, locals := 25 }
def fX11_isBell (σ : S0) (x1 : Int32) : Option (Int32 × S0) := obp (fX11_in σ x1.toInt64 ((0 : Int64)) (((σ 98 4) - 1).toInt64)) (fun r1 σ2 => og (r1 = 0 ∨ r1 = 1) (some (r1, σ2)))
set_option maxHeartbeats 1000000 in
set_option maxRecDepth 100000 in
theorem fX11_isBell_ok {p : Program} {l : Launch} {e : Env} {s : State} {m : MethodId} {args : Array Value} {below : List Frame} {meth : Method} {c : Code} {dC : Nat → ClassId} {dI : Nat → Nat → Nat} {ad : Nat → Nat} {cy : Nat → ClassId} {sz : Nat} (C : Cx p s m args meth c RX11 cX11_isBell 2 (some .boolean) dC dI ad cy sz) {rr : Int32} {ρ : S0} (σ : S0) (x1 : Int32)  (hf : fX11_isBell σ x1 = some (rr, ρ)) : Gw p l e rm_X11_isBell s m args below meth c (MQ below (QcI dC dI ad cy sz rr ρ) args s 0 0 (AW ad sz)) dC dI ad cy 2 sz 0 0 0 [(0, .ref (ad 98)), (1, .int x1)] [] σ := by
  unfold fX11_isBell at hf
  refine g_iload_n C dX11_isBell_0 rfl 1 rfl ?_
  refine g_i2l C dX11_isBell_1 ?_
  refine g_lconst (v := 0) C dX11_isBell_2 (by decide) ?_
  refine g_aload_n C dX11_isBell_3 rfl 0 rfl ?_
  refine g_get C (a_98 ad cy _) rfl hin_X11 4 (by decide) hF_X11_81 rfl rfl dX11_isBell_4 ?_
  refine g_iconst (v := 1) C dX11_isBell_7 (by decide) ?_
  refine g_isub C dX11_isBell_8 ?_
  refine g_i2l C dX11_isBell_9 ?_
  obtain ⟨r1, σ2, h3, hf⟩ := obp_e hf
  refine g_callSi (As := [.long x1.toInt64, .long 0, .long (((σ 98 4) - 1).toInt64)]) (rest := []) C (c_X11_in l dC dI ad cy x1.toInt64 ((0 : Int64)) (((σ 98 4) - 1).toInt64)) h3 hM_X11_92 cal_X11_in ⟨Nat.zero_le _, Nat.zero_le _⟩ ⟨rfl, rfl⟩ ⟨Nat.le_of_ble_eq_true rfl, Nat.le_of_ble_eq_true rfl⟩ rfl rfl (Nat.le_of_ble_eq_true rfl) dX11_isBell_10 ?_
  obtain ⟨h4, hf⟩ := og_e hf
  obtain ⟨rfl, rfl⟩ := os_e hf
  exact g_zret C rfl (zb_ok h4) dX11_isBell_13
theorem c_X11_isBell (l : Launch) (dC : Nat → ClassId) (dI : Nat → Nat → Nat) (ad : Nat → Nat) (cy : Nat → ClassId) (x1 : Int32) : ConI l yX11_isBell cX11_isBell 2 (some .boolean) rm_X11_isBell dC dI ad cy [.ref (ad 98), .int x1] (fun σ => fX11_isBell σ x1) := con_i (own := RX11) (by decide) rfl (Nat.le_of_ble_eq_true rfl) (fun _ _ _ _ _ _ _ _ σ _ _ C hf => fX11_isBell_ok C σ x1 hf)
theorem cal_X11_isBell : CalV yX11_isBell RX11 cX11_isBell 2 (some .boolean) 1 := ⟨hI_X11_isBell, hS_X11_isBell, hIni_X11, hC_X11_isBell, by decide +kernel⟩
